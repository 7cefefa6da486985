def wM_behind (p1 : Int32) (p2 : Int32) (S : MS) (post : Int32 → MS → Prop) : Prop := wM_isKind p1 S (fun r_1 S_2 => ((r_1 = 0 → post 0 S_2) ∧ (¬ (r_1 = 0) → wM_isKind p2 S_2 (fun r_4 S_5 => ((r_4 = 0 → post 0 S_5) ∧ (¬ (r_4 = 0) → ((p1 = p2 → post 0 S_5) ∧ (¬ (p1 = p2) → (vp_in (183 + p1) 2454 ∧ wM_has ((ms_a S_5) (183 + p1).toNatClampNeg) p2 S_5 (fun r_8 S_9 => ((r_8 = 0 → (vp_in (183 + p1) 2454 ∧ (vp_in (183 + p1) 2454 ∧ ∀ S_11 : MS, S_11 = (ms_set_a S_9 (upd (ms_a S_9) ((183 + p1).toNatClampNeg) (((ms_a S_9) (183 + p1).toNatClampNeg) ||| (k_shl 1 p2)))) → post 1 S_11))) ∧ (¬ (r_8 = 0) → post 0 S_9))))))))))))
set_option maxHeartbeats 4000000 in
set_option maxRecDepth 100000 in
theorem cM_behind (l : Launch) (D : va_G) (h : Nat → Nat) (cy : Nat → ClassId) (p1 : Int32) (p2 : Int32) (S : MS) (post : Int32 → MS → Prop) (hw : wM_behind p1 p2 S post) : k_Mi l yX12_behind wsX12_behind { frames := 2, cells := 0, slots := 0, locals := 42 } D (tyM cy) (wM h cy) [.ref (h 31), .int p1, .int p2] S post := by
  intro sz
  refine Met.ofW (cc := cX12_behind) (maxL := 3) (ret := (some .boolean)) (by decide) rfl ?_
  intro p e s m args below meth c s₁ B hml hv
  obtain ⟨rfl, hsz, hP, hK, hD0⟩ := hv
  have hx := B.exec
  have hb := B.bytes
  have hr := B.returns
  have hts := atoms_spec (ws := wsX12_behind) B.pre
  have hown : s.vm.findClass RX12 = some m.cls := findClass_of_methodNamed B.named
  have hlocks := B.notSynchronized
  subst hsz
  have hD := hD0.self (sz := s.heap.size)
  generalize hAe : va_A (wM h cy S) s.heap.size = A at hD ⊢
  have hA : ∀ q : Nat, s.heap.size ≤ q → A q := fun q h => by rw [← hAe]; exact Or.inr h
  have hS : va_S A s.heap s.heap [] := va_S.rf
  have hin : ∀ w ∈ wsX120, w ∈ wsX12_behind := fun _ h => List.mem_cons_of_mem _ (List.mem_append_right _ h)
  have w7 := hts (.fieldLink RX12 7 "ClownsMournModel" "a" "[I") (List.mem_of_getElem? (i := 1) rfl)
  have hl := lv_entry ([.ref (h 31), .int p1, .int p2]) (n := 3) (Nat.le_of_ble_eq_true rfl)
  rw [lg_entry_eq]
  generalize (lg_sl ([.ref (h 31), .int p1, .int p2]) ++ List.replicate (3 - (lg_sl ([.ref (h 31), .int p1, .int p2])).length) Slot.unset).toArray = ls at hl ⊢
  have hl : lv_has ls 3 [(0, .ref (h 31)), (1, .int p1), (2, .int p2)] := hl
  unfold wM_behind at hw
  clear hD0
  refine lv_iload_n hx hb dX12_behind_0 rfl (lv_at hl 1 rfl) ?_
  refine k_callSi (As := [.int p1]) (rest := []) ⟨hx, hb, hml, hown, hts⟩ (cM_isKind l D h cy _ _ _ hw) (va_cwS 1 hts gX12_behind_X12_isKind rfl rfl rfl (by decide +kernel) ⟨Nat.le_of_ble_eq_true rfl, Nat.le_of_ble_eq_true rfl⟩) hK hP hD hS hA rfl hl.1 rfl (Nat.le_of_ble_eq_true rfl) dX12_behind_1 ⟨Nat.zero_le _, Nat.zero_le _⟩ (fun r_1 S_2 H locs hw hP hD hS => ?_)
  obtain ⟨hc_3t, hc_3f⟩ := hw
  refine lv_if_eq (tgt := 36) hx hb dX12_behind_4 (by decide) (fun c_3 => ?_) (fun c_3 => ?_)
  · have hw := hc_3t c_3
    clear hc_3t hc_3f
    refine lv_iconst (v := 0) hx hb dX12_behind_36 (by decide) ?_
    exact W.zret (v := 0) hx hb hr (by decide +kernel) (fun t ht hW => ⟨⟨0, S_2, rfl, hw, by rw [ht]; exact hP, va_K.moved hW.alike hK, hD⟩, hS.F ht⟩) hS.2.2 dX12_behind_37
  · have hw := hc_3f c_3
    clear hc_3t hc_3f
    refine lv_iload_n hx hb dX12_behind_7 rfl (lv_at hl 2 rfl) ?_
    refine k_callSi (As := [.int p2]) (rest := []) ⟨hx, hb, hml, hown, hts⟩ (cM_isKind l D h cy _ _ _ hw) (va_cwS 1 hts gX12_behind_X12_isKind rfl rfl rfl (by decide +kernel) ⟨Nat.le_of_ble_eq_true rfl, Nat.le_of_ble_eq_true rfl⟩) hK hP hD hS hA rfl hl.1 rfl (Nat.le_of_ble_eq_true rfl) dX12_behind_8 ⟨Nat.zero_le _, Nat.zero_le _⟩ (fun r_4 S_5 H locs hw hP hD hS => ?_)
    obtain ⟨hc_6t, hc_6f⟩ := hw
    refine lv_if_eq (tgt := 36) hx hb dX12_behind_11 (by decide) (fun c_6 => ?_) (fun c_6 => ?_)
    · have hw := hc_6t c_6
      clear hc_6t hc_6f
      refine lv_iconst (v := 0) hx hb dX12_behind_36 (by decide) ?_
      exact W.zret (v := 0) hx hb hr (by decide +kernel) (fun t ht hW => ⟨⟨0, S_5, rfl, hw, by rw [ht]; exact hP, va_K.moved hW.alike hK, hD⟩, hS.F ht⟩) hS.2.2 dX12_behind_37
    · have hw := hc_6f c_6
      clear hc_6t hc_6f
      refine lv_iload_n hx hb dX12_behind_14 rfl (lv_at hl 1 rfl) ?_
      refine lv_iload_n hx hb dX12_behind_15 rfl (lv_at hl 2 rfl) ?_
      obtain ⟨hc_7t, hc_7f⟩ := hw
      refine lv_icmp_eq (tgt := 36) hx hb dX12_behind_16 (by decide) (fun c_7 => ?_) (fun c_7 => ?_)
      · have hw := hc_7t c_7
        clear hc_7t hc_7f
        refine lv_iconst (v := 0) hx hb dX12_behind_36 (by decide) ?_
        exact W.zret (v := 0) hx hb hr (by decide +kernel) (fun t ht hW => ⟨⟨0, S_5, rfl, hw, by rw [ht]; exact hP, va_K.moved hW.alike hK, hD⟩, hS.F ht⟩) hS.2.2 dX12_behind_37
      · have hw := hc_7f c_7
        clear hc_7t hc_7f
        refine lv_aload_n hx hb dX12_behind_19 rfl (lv_at hl 0 rfl) ?_
        refine va_get (D := D) (ci := 11) (v := .ref (h 0)) (C := RX12) (T := TX12) (N := 31) hx hb hts hin hown hK hP 0 rfl rfl 0 (by decide) w7 (fun _ h9 => h9) rfl dX12_behind_20 ?_
        refine lv_sipush (v := 183) hx hb dX12_behind_23 (by decide) ?_
        refine lv_iload_n hx hb dX12_behind_26 rfl (lv_at hl 1 rfl) ?_
        refine lv_iadd hx hb dX12_behind_27 ?_
        obtain ⟨hi_14, hw⟩ := hw
        refine va_iald (f := (ms_a S_5)) hx hb hK hP 1 0 rfl rfl hi_14 dX12_behind_28 ?_
        refine lv_iload_n hx hb dX12_behind_29 rfl (lv_at hl 2 rfl) ?_
        refine k_callSi (As := [.int ((ms_a S_5) (183 + p1).toNatClampNeg), .int p2]) (rest := []) ⟨hx, hb, hml, hown, hts⟩ (cM_has l D h cy _ _ _ _ hw) (va_cwS 2 hts gX12_behind_X12_has rfl rfl rfl (by decide +kernel) ⟨Nat.le_of_ble_eq_true rfl, Nat.le_of_ble_eq_true rfl⟩) hK hP hD hS hA rfl hl.1 rfl (Nat.le_of_ble_eq_true rfl) dX12_behind_30 ⟨Nat.zero_le _, Nat.zero_le _⟩ (fun r_8 S_9 H locs hw hP hD hS => ?_)
        obtain ⟨hc_10t, hc_10f⟩ := hw
        refine lv_if_eq (tgt := 38) hx hb dX12_behind_33 (by decide) (fun c_10 => ?_) (fun c_10 => ?_)
        · have hw := hc_10t c_10
          clear hc_10t hc_10f
          refine lv_aload_n hx hb dX12_behind_38 rfl (lv_at hl 0 rfl) ?_
          refine va_get (D := D) (ci := 11) (v := .ref (h 0)) (C := RX12) (T := TX12) (N := 31) hx hb hts hin hown hK hP 0 rfl rfl 0 (by decide) w7 (fun _ h9 => h9) rfl dX12_behind_39 ?_
          refine lv_sipush (v := 183) hx hb dX12_behind_42 (by decide) ?_
          refine lv_iload_n hx hb dX12_behind_45 rfl (lv_at hl 1 rfl) ?_
          refine lv_iadd hx hb dX12_behind_46 ?_
          refine lv_dup2_11 hx hb dX12_behind_47 rfl rfl ?_
          obtain ⟨hi_13, hw⟩ := hw
          refine va_iald (f := (ms_a S_9)) hx hb hK hP 1 0 rfl rfl hi_13 dX12_behind_48 ?_
          refine lv_iconst (v := 1) hx hb dX12_behind_49 (by decide) ?_
          refine lv_iload_n hx hb dX12_behind_50 rfl (lv_at hl 2 rfl) ?_
          refine k_ishl hx hb dX12_behind_51 ?_
          refine lv_ior hx hb dX12_behind_52 ?_
          obtain ⟨hi_12, hw⟩ := hw
          refine va_iast (f := (ms_a S_9)) hx hb hK hP hD hS 1 0 rfl rfl hi_12 dX12_behind_53 (fun H locs hP hD hS => ?_)
          obtain ⟨S_11, eS_11⟩ : ∃ z : MS, z = (ms_set_a S_9 (upd (ms_a S_9) ((183 + p1).toNatClampNeg) (((ms_a S_9) (183 + p1).toNatClampNeg) ||| (k_shl 1 p2)))) := ⟨_, rfl⟩
          have hw := hw S_11 eS_11
          have hP : va_P D vwCl (wM h cy S_11) H := by rw [eS_11, ← wMs_a]; exact hP
          have hD : va_D A (wM h cy S_11) := by rw [eS_11, ← wMs_a]; exact hD
          refine lv_iconst (v := 1) hx hb dX12_behind_54 (by decide) ?_
          exact W.zret (v := 1) hx hb hr (by decide +kernel) (fun t ht hW => ⟨⟨1, S_11, rfl, hw, by rw [ht]; exact hP, va_K.moved hW.alike hK, hD⟩, hS.F ht⟩) hS.2.2 dX12_behind_55
        · have hw := hc_10f c_10
          clear hc_10t hc_10f
          refine lv_iconst (v := 0) hx hb dX12_behind_36 (by decide) ?_
          exact W.zret (v := 0) hx hb hr (by decide +kernel) (fun t ht hW => ⟨⟨0, S_9, rfl, hw, by rw [ht]; exact hP, va_K.moved hW.alike hK, hD⟩, hS.F ht⟩) hS.2.2 dX12_behind_37
def wM_canLearn (p1 : Int32) (p2 : Int32) (S : MS) (post : Int32 → MS → Prop) : Prop := wM_has p2 p1 S (fun r_1 S_2 => ((r_1 = 0 → (vp_in (183 + p1) 2454 ∧ (((((ms_a S_2) (183 + p1).toNatClampNeg) &&& (p2 ^^^ (-1))) = 0 → post 1 S_2) ∧ (¬ ((((ms_a S_2) (183 + p1).toNatClampNeg) &&& (p2 ^^^ (-1))) = 0) → post 0 S_2)))) ∧ (¬ (r_1 = 0) → post 0 S_2)))
set_option maxHeartbeats 4000000 in
set_option maxRecDepth 100000 in
theorem cM_canLearn (l : Launch) (D : va_G) (h : Nat → Nat) (cy : Nat → ClassId) (p1 : Int32) (p2 : Int32) (S : MS) (post : Int32 → MS → Prop) (hw : wM_canLearn p1 p2 S post) : k_Mi l yX12_canLearn wsX12_canLearn { frames := 1, cells := 0, slots := 0, locals := 21 } D (tyM cy) (wM h cy) [.ref (h 31), .int p1, .int p2] S post := by
  intro sz
  refine Met.ofW (cc := cX12_canLearn) (maxL := 3) (ret := (some .boolean)) (by decide) rfl ?_
  intro p e s m args below meth c s₁ B hml hv
  obtain ⟨rfl, hsz, hP, hK, hD0⟩ := hv
  have hx := B.exec
  have hb := B.bytes
  have hr := B.returns
  have hts := atoms_spec (ws := wsX12_canLearn) B.pre
  have hown : s.vm.findClass RX12 = some m.cls := findClass_of_methodNamed B.named
  have hlocks := B.notSynchronized
  subst hsz
  have hD := hD0.self (sz := s.heap.size)
  generalize hAe : va_A (wM h cy S) s.heap.size = A at hD ⊢
  have hA : ∀ q : Nat, s.heap.size ≤ q → A q := fun q h => by rw [← hAe]; exact Or.inr h
  have hS : va_S A s.heap s.heap [] := va_S.rf
  have hin : ∀ w ∈ wsX120, w ∈ wsX12_canLearn := fun _ h => List.mem_cons_of_mem _ (List.mem_append_right _ h)
  have w7 := hts (.fieldLink RX12 7 "ClownsMournModel" "a" "[I") (List.mem_of_getElem? (i := 1) rfl)
  have hl := lv_entry ([.ref (h 31), .int p1, .int p2]) (n := 3) (Nat.le_of_ble_eq_true rfl)
  rw [lg_entry_eq]
  generalize (lg_sl ([.ref (h 31), .int p1, .int p2]) ++ List.replicate (3 - (lg_sl ([.ref (h 31), .int p1, .int p2])).length) Slot.unset).toArray = ls at hl ⊢
  have hl : lv_has ls 3 [(0, .ref (h 31)), (1, .int p1), (2, .int p2)] := hl
  unfold wM_canLearn at hw
  clear hD0
  refine lv_iload_n hx hb dX12_canLearn_0 rfl (lv_at hl 2 rfl) ?_
  refine lv_iload_n hx hb dX12_canLearn_1 rfl (lv_at hl 1 rfl) ?_
  refine k_callSi (As := [.int p2, .int p1]) (rest := []) ⟨hx, hb, hml, hown, hts⟩ (cM_has l D h cy _ _ _ _ hw) (va_cwS 2 hts gX12_canLearn_X12_has rfl rfl rfl (by decide +kernel) ⟨Nat.le_of_ble_eq_true rfl, Nat.le_of_ble_eq_true rfl⟩) hK hP hD hS hA rfl hl.1 rfl (Nat.le_of_ble_eq_true rfl) dX12_canLearn_2 ⟨Nat.zero_le _, Nat.zero_le _⟩ (fun r_1 S_2 H locs hw hP hD hS => ?_)
  obtain ⟨hc_3t, hc_3f⟩ := hw
  refine lv_if_ne (tgt := 29) hx hb dX12_canLearn_5 (by decide) (fun c_3 => ?_) (fun c_3 => ?_)
  · have hw := hc_3f c_3
    clear hc_3t hc_3f
    refine lv_iconst (v := 0) hx hb dX12_canLearn_29 (by decide) ?_
    exact W.zret (v := 0) hx hb hr (by decide +kernel) (fun t ht hW => ⟨⟨0, S_2, rfl, hw, by rw [ht]; exact hP, va_K.moved hW.alike hK, hD⟩, hS.F ht⟩) hS.2.2 dX12_canLearn_30
  · have hw := hc_3t c_3
    clear hc_3t hc_3f
    refine lv_aload_n hx hb dX12_canLearn_8 rfl (lv_at hl 0 rfl) ?_
    refine va_get (D := D) (ci := 11) (v := .ref (h 0)) (C := RX12) (T := TX12) (N := 31) hx hb hts hin hown hK hP 0 rfl rfl 0 (by decide) w7 (fun _ h9 => h9) rfl dX12_canLearn_9 ?_
    refine lv_sipush (v := 183) hx hb dX12_canLearn_12 (by decide) ?_
    refine lv_iload_n hx hb dX12_canLearn_15 rfl (lv_at hl 1 rfl) ?_
    refine lv_iadd hx hb dX12_canLearn_16 ?_
    obtain ⟨hi_5, hw⟩ := hw
    refine va_iald (f := (ms_a S_2)) hx hb hK hP 1 0 rfl rfl hi_5 dX12_canLearn_17 ?_
    refine lv_iload_n hx hb dX12_canLearn_18 rfl (lv_at hl 2 rfl) ?_
    refine lv_iconst (v := (-1)) hx hb dX12_canLearn_19 (by decide) ?_
    refine lv_ixor hx hb dX12_canLearn_20 ?_
    refine lv_iand hx hb dX12_canLearn_21 ?_
    obtain ⟨hc_4t, hc_4f⟩ := hw
    refine lv_if_ne (tgt := 29) hx hb dX12_canLearn_22 (by decide) (fun c_4 => ?_) (fun c_4 => ?_)
    · have hw := hc_4f c_4
      clear hc_4t hc_4f
      refine lv_iconst (v := 0) hx hb dX12_canLearn_29 (by decide) ?_
      exact W.zret (v := 0) hx hb hr (by decide +kernel) (fun t ht hW => ⟨⟨0, S_2, rfl, hw, by rw [ht]; exact hP, va_K.moved hW.alike hK, hD⟩, hS.F ht⟩) hS.2.2 dX12_canLearn_30
    · have hw := hc_4t c_4
      clear hc_4t hc_4f
      refine lv_iconst (v := 1) hx hb dX12_canLearn_25 (by decide) ?_
      refine lv_goto (tgt := 30) hx hb dX12_canLearn_26 (by decide) ?_
      exact W.zret (v := 1) hx hb hr (by decide +kernel) (fun t ht hW => ⟨⟨1, S_2, rfl, hw, by rw [ht]; exact hP, va_K.moved hW.alike hK, hD⟩, hS.F ht⟩) hS.2.2 dX12_canLearn_30
def wM_layOrders_24 (post : MS → Prop) (K11 : Int32 → MS → Prop) : Nat → Int32 → Int32 → MS → Prop
  | 0, _, _, _ => False
  | n + 1, x1, x2, S => ((5 ≤ x2 → K11 (x1 + (-1)) S) ∧ (¬ (5 ≤ x2) → wM_canLearn x2 x1 S (fun r_2 S_3 => ((r_2 = 0 → wM_layOrders_24 post K11 n x1 (x2 + 1) S_3) ∧ (¬ (r_2 = 0) → (vp_in x1 32 ∧ (vp_in (x1 ||| (k_shl 1 x2)) 32 ∧ (vp_in x1 32 ∧ ∀ S_5 : MS, S_5 = (ms_set_ordersOf S_3 (upd (ms_ordersOf S_3) (x1.toNatClampNeg) (((ms_ordersOf S_3) x1.toNatClampNeg) + ((ms_ordersOf S_3) (x1 ||| (k_shl 1 x2)).toNatClampNeg)))) → wM_layOrders_24 post K11 n x1 (x2 + 1) S_5))))))))
def wM_layOrders_11 (post : MS → Prop) : Nat → Int32 → MS → Prop
  | 0, _, _ => False
  | n + 1, x1, S => ((x1 < 0 → post S) ∧ (¬ (x1 < 0) → (vp_in x1 32 ∧ ∀ S_2 : MS, S_2 = (ms_set_ordersOf S (upd (ms_ordersOf S) (x1.toNatClampNeg) 0)) → ∃ k_ : Nat, wM_layOrders_24 post (wM_layOrders_11 post n) k_ x1 0 S_2)))
def wM_layOrders (S : MS) (post : MS → Prop) : Prop := (∀ S_1 : MS, S_1 = (ms_set_ordersOf S (upd (ms_ordersOf S) 31 1)) → ∃ k_ : Nat, wM_layOrders_11 post k_ 30 S_1)
set_option maxHeartbeats 4000000 in
set_option maxRecDepth 100000 in
theorem cM_layOrders (l : Launch) (D : va_G) (h : Nat → Nat) (cy : Nat → ClassId) (S : MS) (post : MS → Prop) (hw : wM_layOrders S post) : k_Mv l yX12_layOrders wsX12_layOrders { frames := 2, cells := 0, slots := 0, locals := 43 } D (tyM cy) (wM h cy) [.ref (h 31)] S post := by
  intro sz
  refine Met.ofW (cc := cX12_layOrders) (maxL := 3) (ret := none) (by decide) rfl ?_
  intro p e s m args below meth c s₁ B hml hv
  obtain ⟨rfl, hsz, hP, hK, hD0⟩ := hv
  have hx := B.exec
  have hb := B.bytes
  have hr := B.returns
  have hts := atoms_spec (ws := wsX12_layOrders) B.pre
  have hown : s.vm.findClass RX12 = some m.cls := findClass_of_methodNamed B.named
  have hlocks := B.notSynchronized
  subst hsz
  have hD := hD0.self (sz := s.heap.size)
  generalize hAe : va_A (wM h cy S) s.heap.size = A at hD ⊢
  have hA : ∀ q : Nat, s.heap.size ≤ q → A q := fun q h => by rw [← hAe]; exact Or.inr h
  have hS : va_S A s.heap s.heap [] := va_S.rf
  have hin : ∀ w ∈ wsX120, w ∈ wsX12_layOrders := fun _ h => List.mem_cons_of_mem _ (List.mem_append_right _ h)
  have w61 := hts (.fieldLink RX12 61 "ClownsMournModel" "ordersOf" "[I") (List.mem_of_getElem? (i := 1) rfl)
  have hl := lv_entry ([.ref (h 31)]) (n := 3) (Nat.le_of_ble_eq_true rfl)
  rw [lg_entry_eq]
  generalize (lg_sl ([.ref (h 31)]) ++ List.replicate (3 - (lg_sl ([.ref (h 31)])).length) Slot.unset).toArray = ls at hl ⊢
  have hl : lv_has ls 3 [(0, .ref (h 31))] := hl
  unfold wM_layOrders at hw
  clear hD0
  have L_11 : ∀ (n11 : Nat) (x1 : Int32) (S : MS) (H : Heap) (locs : List Loc) (ls : Array Slot), wM_layOrders_11 post n11 x1 S → va_P D vwCl (wM h cy S) H → va_D A (wM h cy S) → va_S A s.heap H locs → lv_has ls 3 [(0, .ref (h 31)), (1, .int x1)] → W p l e (headSpec wsX12_layOrders { frames := 2, cells := 0, slots := 0, locals := 43 }).room s m (([.ref (h 31)] : List Value).toArray) below meth c H locs 0 0 (MQ below (va_Qv post (k_Post D (tyM cy) (wM h cy) A) A) (([.ref (h 31)] : List Value).toArray) s 0 0 A) (F0 m 11 ls []) := by
    intro n11
    induction n11 with
    | zero => intro x1 S H locs ls hw; exact False.elim hw
    | succ n11 ih_11 =>
      have L_24 : ∀ (n24 : Nat) (x1 : Int32) (x2 : Int32) (S : MS) (H : Heap) (locs : List Loc) (ls : Array Slot), wM_layOrders_24 post (wM_layOrders_11 post n11) n24 x1 x2 S → va_P D vwCl (wM h cy S) H → va_D A (wM h cy S) → va_S A s.heap H locs → lv_has ls 3 [(0, .ref (h 31)), (1, .int x1), (2, .int x2)] → W p l e (headSpec wsX12_layOrders { frames := 2, cells := 0, slots := 0, locals := 43 }).room s m (([.ref (h 31)] : List Value).toArray) below meth c H locs 0 0 (MQ below (va_Qv post (k_Post D (tyM cy) (wM h cy) A) A) (([.ref (h 31)] : List Value).toArray) s 0 0 A) (F0 m 24 ls []) := by
        intro n24
        induction n24 with
        | zero => intro x1 x2 S H locs ls hw; exact False.elim hw
        | succ n24 ih_24 =>
          intro x1 x2 S H locs ls hw hP hD hS hl
          unfold wM_layOrders_24 at hw
          refine lv_iload_n hx hb dX12_layOrders_24 rfl (lv_at hl 2 rfl) ?_
          refine lv_iconst (v := 5) hx hb dX12_layOrders_25 (by decide) ?_
          obtain ⟨hc_1t, hc_1f⟩ := hw
          refine lv_icmp_ge (tgt := 63) hx hb dX12_layOrders_26 (by decide) (fun c_1 => ?_) (fun c_1 => ?_)
          · have hw := hc_1t c_1
            clear hc_1t hc_1f
            refine lv_iinc (v := x1 + (-1)) (lv' := [(1, .int (x1 + (-1))), (0, .ref (h 31)), (2, .int x2)]) hx hb dX12_layOrders_63 hl (k := 1) rfl (k_inc (by decide)) (by decide) rfl (fun ls hl => ?_)
            refine lv_goto (tgt := 11) hx hb dX12_layOrders_66 (by decide) ?_
            exact ih_11 (x1 + (-1)) S _ _ _ hw hP hD hS (lv_sub hl [1, 0] rfl)
          · have hw := hc_1f c_1
            clear hc_1t hc_1f
            refine lv_aload_n hx hb dX12_layOrders_29 rfl (lv_at hl 0 rfl) ?_
            refine lv_iload_n hx hb dX12_layOrders_30 rfl (lv_at hl 2 rfl) ?_
            refine lv_iload_n hx hb dX12_layOrders_31 rfl (lv_at hl 1 rfl) ?_
            refine k_callVi (As := [.int x2, .int x1]) (rest := []) ⟨hx, hb, hml, hown, hts⟩ (cM_canLearn l D h cy _ _ _ _ hw) (cwV 2 hts gX12_layOrders_X12_canLearn rfl rfl rfl (by decide +kernel) ⟨Nat.le_of_ble_eq_true rfl, Nat.le_of_ble_eq_true rfl⟩) (va_recv hK hP (ci := 11) (q0 := 0) rfl rfl) hK hP hD hS hA rfl hl.1 rfl (Nat.le_of_ble_eq_true rfl) dX12_layOrders_32 ⟨Nat.zero_le _, Nat.zero_le _⟩ (fun r_2 S_3 H locs hw hP hD hS => ?_)
            obtain ⟨hc_4t, hc_4f⟩ := hw
            refine lv_if_eq (tgt := 57) hx hb dX12_layOrders_35 (by decide) (fun c_4 => ?_) (fun c_4 => ?_)
            · have hw := hc_4t c_4
              clear hc_4t hc_4f
              refine lv_iinc (v := x2 + 1) (lv' := [(2, .int (x2 + 1)), (0, .ref (h 31)), (1, .int x1)]) hx hb dX12_layOrders_57 hl (k := 2) rfl (k_inc (by decide)) (by decide) rfl (fun ls hl => ?_)
              refine lv_goto (tgt := 24) hx hb dX12_layOrders_60 (by decide) ?_
              exact ih_24 x1 (x2 + 1) S_3 _ _ _ hw hP hD hS (lv_sub hl [1, 2, 0] rfl)
            · have hw := hc_4f c_4
              clear hc_4t hc_4f
              refine lv_aload_n hx hb dX12_layOrders_38 rfl (lv_at hl 0 rfl) ?_
              refine va_get (D := D) (ci := 11) (v := .ref (h 30)) (C := RX12) (T := TX12) (N := 31) hx hb hts hin hown hK hP 0 rfl rfl 30 (by decide) w61 (fun _ h9 => h9) rfl dX12_layOrders_39 ?_
              refine lv_iload_n hx hb dX12_layOrders_42 rfl (lv_at hl 1 rfl) ?_
              refine lv_dup2_11 hx hb dX12_layOrders_43 rfl rfl ?_
              obtain ⟨hi_8, hw⟩ := hw
              refine va_iald (f := (ms_ordersOf S_3)) hx hb hK hP 15 14 rfl rfl hi_8 dX12_layOrders_44 ?_
              refine lv_aload_n hx hb dX12_layOrders_45 rfl (lv_at hl 0 rfl) ?_
              refine va_get (D := D) (ci := 11) (v := .ref (h 30)) (C := RX12) (T := TX12) (N := 31) hx hb hts hin hown hK hP 0 rfl rfl 30 (by decide) w61 (fun _ h9 => h9) rfl dX12_layOrders_46 ?_
              refine lv_iload_n hx hb dX12_layOrders_49 rfl (lv_at hl 1 rfl) ?_
              refine lv_iconst (v := 1) hx hb dX12_layOrders_50 (by decide) ?_
              refine lv_iload_n hx hb dX12_layOrders_51 rfl (lv_at hl 2 rfl) ?_
              refine k_ishl hx hb dX12_layOrders_52 ?_
              refine lv_ior hx hb dX12_layOrders_53 ?_
              obtain ⟨hi_7, hw⟩ := hw
              refine va_iald (f := (ms_ordersOf S_3)) hx hb hK hP 15 14 rfl rfl hi_7 dX12_layOrders_54 ?_
              refine lv_iadd hx hb dX12_layOrders_55 ?_
              obtain ⟨hi_6, hw⟩ := hw
              refine va_iast (f := (ms_ordersOf S_3)) hx hb hK hP hD hS 15 14 rfl rfl hi_6 dX12_layOrders_56 (fun H locs hP hD hS => ?_)
              obtain ⟨S_5, eS_5⟩ : ∃ z : MS, z = (ms_set_ordersOf S_3 (upd (ms_ordersOf S_3) (x1.toNatClampNeg) (((ms_ordersOf S_3) x1.toNatClampNeg) + ((ms_ordersOf S_3) (x1 ||| (k_shl 1 x2)).toNatClampNeg)))) := ⟨_, rfl⟩
              have hw := hw S_5 eS_5
              have hP : va_P D vwCl (wM h cy S_5) H := by rw [eS_5, ← wMs_ordersOf]; exact hP
              have hD : va_D A (wM h cy S_5) := by rw [eS_5, ← wMs_ordersOf]; exact hD
              refine lv_iinc (v := x2 + 1) (lv' := [(2, .int (x2 + 1)), (0, .ref (h 31)), (1, .int x1)]) hx hb dX12_layOrders_57 hl (k := 2) rfl (k_inc (by decide)) (by decide) rfl (fun ls hl => ?_)
              refine lv_goto (tgt := 24) hx hb dX12_layOrders_60 (by decide) ?_
              exact ih_24 x1 (x2 + 1) S_5 _ _ _ hw hP hD hS (lv_sub hl [1, 2, 0] rfl)
      intro x1 S H locs ls hw hP hD hS hl
      unfold wM_layOrders_11 at hw
      refine lv_iload_n hx hb dX12_layOrders_11 rfl (lv_at hl 1 rfl) ?_
      obtain ⟨hc_9t, hc_9f⟩ := hw
      refine lv_if_lt (tgt := 69) hx hb dX12_layOrders_12 (by decide) (fun c_9 => ?_) (fun c_9 => ?_)
      · have hw := hc_9t c_9
        clear hc_9t hc_9f
        exact W.vret hx hb hr (fun t ht hW => ⟨⟨S, rfl, hw, by rw [ht]; exact hP, va_K.moved hW.alike hK, hD⟩, hS.F ht⟩) hS.2.2 dX12_layOrders_69
      · have hw := hc_9f c_9
        clear hc_9t hc_9f
        refine lv_aload_n hx hb dX12_layOrders_15 rfl (lv_at hl 0 rfl) ?_
        refine va_get (D := D) (ci := 11) (v := .ref (h 30)) (C := RX12) (T := TX12) (N := 31) hx hb hts hin hown hK hP 0 rfl rfl 30 (by decide) w61 (fun _ h9 => h9) rfl dX12_layOrders_16 ?_
        refine lv_iload_n hx hb dX12_layOrders_19 rfl (lv_at hl 1 rfl) ?_
        refine lv_iconst (v := 0) hx hb dX12_layOrders_20 (by decide) ?_
        obtain ⟨hi_11, hw⟩ := hw
        refine va_iast (f := (ms_ordersOf S)) hx hb hK hP hD hS 15 14 rfl rfl hi_11 dX12_layOrders_21 (fun H locs hP hD hS => ?_)
        obtain ⟨S_10, eS_10⟩ : ∃ z : MS, z = (ms_set_ordersOf S (upd (ms_ordersOf S) (x1.toNatClampNeg) 0)) := ⟨_, rfl⟩
        have hw := hw S_10 eS_10
        have hP : va_P D vwCl (wM h cy S_10) H := by rw [eS_10, ← wMs_ordersOf]; exact hP
        have hD : va_D A (wM h cy S_10) := by rw [eS_10, ← wMs_ordersOf]; exact hD
        refine lv_iconst (v := 0) hx hb dX12_layOrders_22 (by decide) ?_
        refine lv_istore_n (lv' := [(2, .int 0), (0, .ref (h 31)), (1, .int x1)]) hx hb dX12_layOrders_23 rfl hl (by decide) rfl (fun ls hl => ?_)
        obtain ⟨n_24, hw⟩ := hw
        exact L_24 n_24 x1 0 S_10 _ _ _ hw hP hD hS (lv_sub hl [1, 2, 0] rfl)
  refine lv_aload_n hx hb dX12_layOrders_0 rfl (lv_at hl 0 rfl) ?_
  refine va_get (D := D) (ci := 11) (v := .ref (h 30)) (C := RX12) (T := TX12) (N := 31) hx hb hts hin hown hK hP 0 rfl rfl 30 (by decide) w61 (fun _ h9 => h9) rfl dX12_layOrders_1 ?_
  refine lv_bipush (v := 31) hx hb dX12_layOrders_4 (by decide) ?_
  refine lv_iconst (v := 1) hx hb dX12_layOrders_6 (by decide) ?_
  refine k_iast (f := (ms_ordersOf S)) (j := 31) hx hb hK hP hD hS 15 14 rfl rfl (by decide +kernel) rfl dX12_layOrders_7 (fun H locs hP hD hS => ?_)
  obtain ⟨S_12, eS_12⟩ : ∃ z : MS, z = (ms_set_ordersOf S (upd (ms_ordersOf S) 31 1)) := ⟨_, rfl⟩
  have hw := hw S_12 eS_12
  have hP : va_P D vwCl (wM h cy S_12) H := by rw [eS_12, ← wMs_ordersOf]; exact hP
  have hD : va_D A (wM h cy S_12) := by rw [eS_12, ← wMs_ordersOf]; exact hD
  refine lv_bipush (v := 30) hx hb dX12_layOrders_8 (by decide) ?_
  refine lv_istore_n (lv' := [(1, .int 30), (0, .ref (h 31))]) hx hb dX12_layOrders_10 rfl hl (by decide) rfl (fun ls hl => ?_)
  obtain ⟨n_11, hw⟩ := hw
  exact L_11 n_11 30 S_12 _ _ _ hw hP hD hS (lv_sub hl [1, 0] rfl)
def wM_lessons_62 (post : Int32 → MS → Prop) (K54 : Int32 → Int32 → Int32 → Int32 → MS → Prop) : Nat → Int32 → Int32 → Int32 → Int32 → MS → Prop
  | 0, _, _, _, _, _ => False
  | n + 1, x1, x2, x3, x4, S => wM_canLearn x3 x2 S (fun r_1 S_2 => ((r_1 = 0 → wM_lessons_62 post K54 n x1 x2 (x3 + 1) x4 S_2) ∧ (¬ (r_1 = 0) → (vp_in (x2 ||| (k_shl 1 x3)) 32 ∧ ((((ms_ordersOf S_2) (x2 ||| (k_shl 1 x3)).toNatClampNeg) = 0 → wM_lessons_62 post K54 n x1 x2 (x3 + 1) x4 S_2) ∧ (¬ (((ms_ordersOf S_2) (x2 ||| (k_shl 1 x3)).toNatClampNeg) = 0) → K54 x1 (x2 ||| (k_shl 1 x3)) x3 (x4 + 1) S_2))))))
def wM_lessons_54 (post : Int32 → MS → Prop) : Nat → Int32 → Int32 → Int32 → Int32 → MS → Prop
  | 0, _, _, _, _, _ => False
  | n + 1, x1, x2, x3, x4, S => ((x1 < x4 → post x3 S) ∧ (¬ (x1 < x4) → ∃ k_ : Nat, wM_lessons_62 post (wM_lessons_54 post n) k_ x1 x2 0 x4 S))
def wM_lessons_30 (post : Int32 → MS → Prop) (x1 : Int32) (S : MS) : Prop := ((x1 = (-1) → post ((ms_ordersOf S) 0) S) ∧ (¬ (x1 = (-1)) → post (-2) S))
def wM_lessons (p1 : Int32) (S : MS) (post : Int32 → MS → Prop) : Prop := wM_isIn p1 (-1) 4 S (fun r_1 S_2 => ((r_1 = 0 → post (-2) S_2) ∧ (¬ (r_1 = 0) → wM_layOrders S_2 (fun S_5 => ((p1 = (-1) → wM_lessons_30 post p1 S_5) ∧ (¬ (p1 = (-1)) → ((((ms_ordersOf S_5) 0) = 0 → wM_lessons_30 post p1 S_5) ∧ (¬ (((ms_ordersOf S_5) 0) = 0) → ∃ k_ : Nat, wM_lessons_54 post k_ p1 0 0 0 S_5))))))))
set_option maxHeartbeats 4000000 in
set_option maxRecDepth 100000 in
theorem cM_lessons (l : Launch) (D : va_G) (h : Nat → Nat) (cy : Nat → ClassId) (p1 : Int32) (S : MS) (post : Int32 → MS → Prop) (hw : wM_lessons p1 S post) : k_Mi l yX12_lessons wsX12_lessons { frames := 3, cells := 0, slots := 0, locals := 65 } D (tyM cy) (wM h cy) [.ref (h 31), .int p1] S post := by
  intro sz
  refine Met.ofW (cc := cX12_lessons) (maxL := 5) (ret := (some .int)) (by decide) rfl ?_
  intro p e s m args below meth c s₁ B hml hv
  obtain ⟨rfl, hsz, hP, hK, hD0⟩ := hv
  have hx := B.exec
  have hb := B.bytes
  have hr := B.returns
  have hts := atoms_spec (ws := wsX12_lessons) B.pre
  have hown : s.vm.findClass RX12 = some m.cls := findClass_of_methodNamed B.named
  have hlocks := B.notSynchronized
  subst hsz
  have hD := hD0.self (sz := s.heap.size)
  generalize hAe : va_A (wM h cy S) s.heap.size = A at hD ⊢
  have hA : ∀ q : Nat, s.heap.size ≤ q → A q := fun q h => by rw [← hAe]; exact Or.inr h
  have hS : va_S A s.heap s.heap [] := va_S.rf
  have hin : ∀ w ∈ wsX120, w ∈ wsX12_lessons := fun _ h => List.mem_cons_of_mem _ (List.mem_append_right _ h)
  have w61 := hts (.fieldLink RX12 61 "ClownsMournModel" "ordersOf" "[I") (List.mem_of_getElem? (i := 1) rfl)
  have hl := lv_entry ([.ref (h 31), .int p1]) (n := 5) (Nat.le_of_ble_eq_true rfl)
  rw [lg_entry_eq]
  generalize (lg_sl ([.ref (h 31), .int p1]) ++ List.replicate (5 - (lg_sl ([.ref (h 31), .int p1])).length) Slot.unset).toArray = ls at hl ⊢
  have hl : lv_has ls 5 [(0, .ref (h 31)), (1, .int p1)] := hl
  unfold wM_lessons at hw
  clear hD0
  have L_54 : ∀ (n54 : Nat) (x1 : Int32) (x2 : Int32) (x3 : Int32) (x4 : Int32) (S : MS) (H : Heap) (locs : List Loc) (ls : Array Slot), wM_lessons_54 post n54 x1 x2 x3 x4 S → va_P D vwCl (wM h cy S) H → va_D A (wM h cy S) → va_S A s.heap H locs → lv_has ls 5 [(0, .ref (h 31)), (1, .int x1), (2, .int x2), (3, .int x3), (4, .int x4)] → W p l e (headSpec wsX12_lessons { frames := 3, cells := 0, slots := 0, locals := 65 }).room s m (([.ref (h 31), .int p1] : List Value).toArray) below meth c H locs 0 0 (MQ below (va_Qi post (k_Post D (tyM cy) (wM h cy) A) A) (([.ref (h 31), .int p1] : List Value).toArray) s 0 0 A) (F0 m 54 ls []) := by
    intro n54
    induction n54 with
    | zero => intro x1 x2 x3 x4 S H locs ls hw; exact False.elim hw
    | succ n54 ih_54 =>
      have L_62 : ∀ (n62 : Nat) (x1 : Int32) (x2 : Int32) (x3 : Int32) (x4 : Int32) (S : MS) (H : Heap) (locs : List Loc) (ls : Array Slot), wM_lessons_62 post (wM_lessons_54 post n54) n62 x1 x2 x3 x4 S → va_P D vwCl (wM h cy S) H → va_D A (wM h cy S) → va_S A s.heap H locs → lv_has ls 5 [(0, .ref (h 31)), (1, .int x1), (2, .int x2), (3, .int x3), (4, .int x4)] → W p l e (headSpec wsX12_lessons { frames := 3, cells := 0, slots := 0, locals := 65 }).room s m (([.ref (h 31), .int p1] : List Value).toArray) below meth c H locs 0 0 (MQ below (va_Qi post (k_Post D (tyM cy) (wM h cy) A) A) (([.ref (h 31), .int p1] : List Value).toArray) s 0 0 A) (F0 m 62 ls []) := by
        intro n62
        induction n62 with
        | zero => intro x1 x2 x3 x4 S H locs ls hw; exact False.elim hw
        | succ n62 ih_62 =>
          intro x1 x2 x3 x4 S H locs ls hw hP hD hS hl
          unfold wM_lessons_62 at hw
          refine lv_aload_n hx hb dX12_lessons_62 rfl (lv_at hl 0 rfl) ?_
          refine lv_iload_n hx hb dX12_lessons_63 rfl (lv_at hl 3 rfl) ?_
          refine lv_iload_n hx hb dX12_lessons_64 rfl (lv_at hl 2 rfl) ?_
          refine k_callVi (As := [.int x3, .int x2]) (rest := []) ⟨hx, hb, hml, hown, hts⟩ (cM_canLearn l D h cy _ _ _ _ hw) (cwV 2 hts gX12_lessons_X12_canLearn rfl rfl rfl (by decide +kernel) ⟨Nat.le_of_ble_eq_true rfl, Nat.le_of_ble_eq_true rfl⟩) (va_recv hK hP (ci := 11) (q0 := 0) rfl rfl) hK hP hD hS hA rfl hl.1 rfl (Nat.le_of_ble_eq_true rfl) dX12_lessons_65 ⟨Nat.zero_le _, Nat.zero_le _⟩ (fun r_1 S_2 H locs hw hP hD hS => ?_)
          obtain ⟨hc_3t, hc_3f⟩ := hw
          refine lv_if_eq (tgt := 84) hx hb dX12_lessons_68 (by decide) (fun c_3 => ?_) (fun c_3 => ?_)
          · have hw := hc_3t c_3
            clear hc_3t hc_3f
            refine lv_iinc (v := x3 + 1) (lv' := [(3, .int (x3 + 1)), (0, .ref (h 31)), (1, .int x1), (2, .int x2), (4, .int x4)]) hx hb dX12_lessons_84 hl (k := 3) rfl (k_inc (by decide)) (by decide) rfl (fun ls hl => ?_)
            refine lv_goto (tgt := 62) hx hb dX12_lessons_87 (by decide) ?_
            exact ih_62 x1 x2 (x3 + 1) x4 S_2 _ _ _ hw hP hD hS (lv_sub hl [1, 2, 3, 0, 4] rfl)
          · have hw := hc_3f c_3
            clear hc_3t hc_3f
            refine lv_aload_n hx hb dX12_lessons_71 rfl (lv_at hl 0 rfl) ?_
            refine va_get (D := D) (ci := 11) (v := .ref (h 30)) (C := RX12) (T := TX12) (N := 31) hx hb hts hin hown hK hP 0 rfl rfl 30 (by decide) w61 (fun _ h9 => h9) rfl dX12_lessons_72 ?_
            refine lv_iload_n hx hb dX12_lessons_75 rfl (lv_at hl 2 rfl) ?_
            refine lv_iconst (v := 1) hx hb dX12_lessons_76 (by decide) ?_
            refine lv_iload_n hx hb dX12_lessons_77 rfl (lv_at hl 3 rfl) ?_
            refine k_ishl hx hb dX12_lessons_78 ?_
            refine lv_ior hx hb dX12_lessons_79 ?_
            obtain ⟨hi_5, hw⟩ := hw
            refine va_iald (f := (ms_ordersOf S_2)) hx hb hK hP 15 14 rfl rfl hi_5 dX12_lessons_80 ?_
            obtain ⟨hc_4t, hc_4f⟩ := hw
            refine lv_if_ne (tgt := 90) hx hb dX12_lessons_81 (by decide) (fun c_4 => ?_) (fun c_4 => ?_)
            · have hw := hc_4f c_4
              clear hc_4t hc_4f
              refine lv_iload_n hx hb dX12_lessons_90 rfl (lv_at hl 2 rfl) ?_
              refine lv_iconst (v := 1) hx hb dX12_lessons_91 (by decide) ?_
              refine lv_iload_n hx hb dX12_lessons_92 rfl (lv_at hl 3 rfl) ?_
              refine k_ishl hx hb dX12_lessons_93 ?_
              refine lv_ior hx hb dX12_lessons_94 ?_
              refine lv_istore_n (lv' := [(2, .int (x2 ||| (k_shl 1 x3))), (0, .ref (h 31)), (1, .int x1), (3, .int x3), (4, .int x4)]) hx hb dX12_lessons_95 rfl hl (by decide) rfl (fun ls hl => ?_)
              refine lv_iinc (v := x4 + 1) (lv' := [(4, .int (x4 + 1)), (2, .int (x2 ||| (k_shl 1 x3))), (0, .ref (h 31)), (1, .int x1), (3, .int x3)]) hx hb dX12_lessons_96 hl (k := 4) rfl (k_inc (by decide)) (by decide) rfl (fun ls hl => ?_)
              refine lv_goto (tgt := 54) hx hb dX12_lessons_99 (by decide) ?_
              exact ih_54 x1 (x2 ||| (k_shl 1 x3)) x3 (x4 + 1) S_2 _ _ _ hw hP hD hS (lv_sub hl [2, 3, 1, 4, 0] rfl)
            · have hw := hc_4t c_4
              clear hc_4t hc_4f
              refine lv_iinc (v := x3 + 1) (lv' := [(3, .int (x3 + 1)), (0, .ref (h 31)), (1, .int x1), (2, .int x2), (4, .int x4)]) hx hb dX12_lessons_84 hl (k := 3) rfl (k_inc (by decide)) (by decide) rfl (fun ls hl => ?_)
              refine lv_goto (tgt := 62) hx hb dX12_lessons_87 (by decide) ?_
              exact ih_62 x1 x2 (x3 + 1) x4 S_2 _ _ _ hw hP hD hS (lv_sub hl [1, 2, 3, 0, 4] rfl)
      intro x1 x2 x3 x4 S H locs ls hw hP hD hS hl
      unfold wM_lessons_54 at hw
      refine lv_iload hx hb dX12_lessons_54 (lv_at hl 4 rfl) ?_
      refine lv_iload_n hx hb dX12_lessons_56 rfl (lv_at hl 1 rfl) ?_
      obtain ⟨hc_6t, hc_6f⟩ := hw
      refine lv_icmp_gt (tgt := 102) hx hb dX12_lessons_57 (by decide) (fun c_6 => ?_) (fun c_6 => ?_)
      · have hw := hc_6t c_6
        clear hc_6t hc_6f
        refine lv_iload_n hx hb dX12_lessons_102 rfl (lv_at hl 3 rfl) ?_
        exact W.iret (v := x3) hx hb hr (fun t ht hW => ⟨⟨x3, S, rfl, hw, by rw [ht]; exact hP, va_K.moved hW.alike hK, hD⟩, hS.F ht⟩) hS.2.2 dX12_lessons_103
      · have hw := hc_6f c_6
        clear hc_6t hc_6f
        refine lv_iconst (v := 0) hx hb dX12_lessons_60 (by decide) ?_
        refine lv_istore_n (lv' := [(3, .int 0), (0, .ref (h 31)), (1, .int x1), (2, .int x2), (4, .int x4)]) hx hb dX12_lessons_61 rfl hl (by decide) rfl (fun ls hl => ?_)
        obtain ⟨n_62, hw⟩ := hw
        exact L_62 n_62 x1 x2 0 x4 S _ _ _ hw hP hD hS (lv_sub hl [1, 2, 3, 0, 4] rfl)
  have J_30 : ∀ (x1 : Int32) (S : MS) (H : Heap) (locs : List Loc) (ls : Array Slot), wM_lessons_30 post x1 S → va_P D vwCl (wM h cy S) H → va_D A (wM h cy S) → va_S A s.heap H locs → lv_has ls 5 [(0, .ref (h 31)), (1, .int x1)] → W p l e (headSpec wsX12_lessons { frames := 3, cells := 0, slots := 0, locals := 65 }).room s m (([.ref (h 31), .int p1] : List Value).toArray) below meth c H locs 0 0 (MQ below (va_Qi post (k_Post D (tyM cy) (wM h cy) A) A) (([.ref (h 31), .int p1] : List Value).toArray) s 0 0 A) (F0 m 30 ls []) := by
    intro x1 S H locs ls hw hP hD hS hl
    unfold wM_lessons_30 at hw
    refine lv_iload_n hx hb dX12_lessons_30 rfl (lv_at hl 1 rfl) ?_
    refine lv_iconst (v := (-1)) hx hb dX12_lessons_31 (by decide) ?_
    obtain ⟨hc_7t, hc_7f⟩ := hw
    refine lv_icmp_ne (tgt := 44) hx hb dX12_lessons_32 (by decide) (fun c_7 => ?_) (fun c_7 => ?_)
    · have hw := hc_7f c_7
      clear hc_7t hc_7f
      refine lv_bipush (v := (-2)) hx hb dX12_lessons_44 (by decide) ?_
      exact W.iret (v := (-2)) hx hb hr (fun t ht hW => ⟨⟨(-2), S, rfl, hw, by rw [ht]; exact hP, va_K.moved hW.alike hK, hD⟩, hS.F ht⟩) hS.2.2 dX12_lessons_46
    · have hw := hc_7t c_7
      clear hc_7t hc_7f
      refine lv_aload_n hx hb dX12_lessons_35 rfl (lv_at hl 0 rfl) ?_
      refine va_get (D := D) (ci := 11) (v := .ref (h 30)) (C := RX12) (T := TX12) (N := 31) hx hb hts hin hown hK hP 0 rfl rfl 30 (by decide) w61 (fun _ h9 => h9) rfl dX12_lessons_36 ?_
      refine lv_iconst (v := 0) hx hb dX12_lessons_39 (by decide) ?_
      refine k_iald (f := (ms_ordersOf S)) (j := 0) hx hb hK hP 15 14 rfl rfl (by decide +kernel) rfl dX12_lessons_40 ?_
      refine lv_goto (tgt := 46) hx hb dX12_lessons_41 (by decide) ?_
      exact W.iret (v := (ms_ordersOf S) 0) hx hb hr (fun t ht hW => ⟨⟨(ms_ordersOf S) 0, S, rfl, hw, by rw [ht]; exact hP, va_K.moved hW.alike hK, hD⟩, hS.F ht⟩) hS.2.2 dX12_lessons_46
  refine lv_iload_n hx hb dX12_lessons_0 rfl (lv_at hl 1 rfl) ?_
  refine lv_iconst (v := (-1)) hx hb dX12_lessons_1 (by decide) ?_
  refine lv_iconst (v := 4) hx hb dX12_lessons_2 (by decide) ?_
  refine k_callSi (As := [.int p1, .int (-1), .int 4]) (rest := []) ⟨hx, hb, hml, hown, hts⟩ (cM_isIn l D h cy _ _ _ _ _ hw) (va_cwS 3 hts gX12_lessons_X12_isIn rfl rfl rfl (by decide +kernel) ⟨Nat.le_of_ble_eq_true rfl, Nat.le_of_ble_eq_true rfl⟩) hK hP hD hS hA rfl hl.1 rfl (Nat.le_of_ble_eq_true rfl) dX12_lessons_3 ⟨Nat.zero_le _, Nat.zero_le _⟩ (fun r_8 S_9 H locs hw hP hD hS => ?_)
  obtain ⟨hc_10t, hc_10f⟩ := hw
  refine lv_if_ne (tgt := 12) hx hb dX12_lessons_6 (by decide) (fun c_10 => ?_) (fun c_10 => ?_)
  · have hw := hc_10f c_10
    clear hc_10t hc_10f
    refine lv_aload_n hx hb dX12_lessons_12 rfl (lv_at hl 0 rfl) ?_
    refine k_callVv (As := []) (rest := []) ⟨hx, hb, hml, hown, hts⟩ (cM_layOrders l D h cy _ _ hw) (cwV 0 hts gX12_lessons_X12_layOrders rfl rfl rfl (by decide +kernel) ⟨Nat.le_of_ble_eq_true rfl, Nat.le_of_ble_eq_true rfl⟩) (va_recv hK hP (ci := 11) (q0 := 0) rfl rfl) hK hP hD hS hA rfl hl.1 rfl (Nat.le_of_ble_eq_true rfl) dX12_lessons_13 ⟨Nat.zero_le _, Nat.zero_le _⟩ (fun S_12 H locs hw hP hD hS => ?_)
    refine lv_iload_n hx hb dX12_lessons_16 rfl (lv_at hl 1 rfl) ?_
    refine lv_iconst (v := (-1)) hx hb dX12_lessons_17 (by decide) ?_
    obtain ⟨hc_13t, hc_13f⟩ := hw
    refine lv_icmp_eq (tgt := 30) hx hb dX12_lessons_18 (by decide) (fun c_13 => ?_) (fun c_13 => ?_)
    · have hw := hc_13t c_13
      clear hc_13t hc_13f
      exact J_30 p1 S_12 _ _ _ hw hP hD hS (lv_sub hl [0, 1] rfl)
    · have hw := hc_13f c_13
      clear hc_13t hc_13f
      refine lv_aload_n hx hb dX12_lessons_21 rfl (lv_at hl 0 rfl) ?_
      refine va_get (D := D) (ci := 11) (v := .ref (h 30)) (C := RX12) (T := TX12) (N := 31) hx hb hts hin hown hK hP 0 rfl rfl 30 (by decide) w61 (fun _ h9 => h9) rfl dX12_lessons_22 ?_
      refine lv_iconst (v := 0) hx hb dX12_lessons_25 (by decide) ?_
      refine k_iald (f := (ms_ordersOf S_12)) (j := 0) hx hb hK hP 15 14 rfl rfl (by decide +kernel) rfl dX12_lessons_26 ?_
      obtain ⟨hc_14t, hc_14f⟩ := hw
      refine lv_if_ne (tgt := 47) hx hb dX12_lessons_27 (by decide) (fun c_14 => ?_) (fun c_14 => ?_)
      · have hw := hc_14f c_14
        clear hc_14t hc_14f
        refine lv_iconst (v := 0) hx hb dX12_lessons_47 (by decide) ?_
        refine lv_istore_n (lv' := [(2, .int 0), (0, .ref (h 31)), (1, .int p1)]) hx hb dX12_lessons_48 rfl hl (by decide) rfl (fun ls hl => ?_)
        refine lv_iconst (v := 0) hx hb dX12_lessons_49 (by decide) ?_
        refine lv_istore_n (lv' := [(3, .int 0), (2, .int 0), (0, .ref (h 31)), (1, .int p1)]) hx hb dX12_lessons_50 rfl hl (by decide) rfl (fun ls hl => ?_)
        refine lv_iconst (v := 0) hx hb dX12_lessons_51 (by decide) ?_
        refine lv_istore (lv' := [(4, .int 0), (3, .int 0), (2, .int 0), (0, .ref (h 31)), (1, .int p1)]) hx hb dX12_lessons_52 hl (by decide) rfl (fun ls hl => ?_)
        obtain ⟨n_54, hw⟩ := hw
        exact L_54 n_54 p1 0 0 0 S_12 _ _ _ hw hP hD hS (lv_sub hl [3, 4, 2, 1, 0] rfl)
      · have hw := hc_14t c_14
        clear hc_14t hc_14f
        exact J_30 p1 S_12 _ _ _ hw hP hD hS (lv_sub hl [0, 1] rfl)
  · have hw := hc_10t c_10
    clear hc_10t hc_10f
    refine lv_bipush (v := (-2)) hx hb dX12_lessons_9 (by decide) ?_
    exact W.iret (v := (-2)) hx hb hr (fun t ht hW => ⟨⟨(-2), S_9, rfl, hw, by rw [ht]; exact hP, va_K.moved hW.alike hK, hD⟩, hS.F ht⟩) hS.2.2 dX12_lessons_11
def wM_grown (p1 : Int32) (p2 : Int32) (S : MS) (post : Int32 → MS → Prop) : Prop := ((p1 = (-1) → (∀ S_14 : MS, S_14 = (ms_set_a S (upd (ms_a S) 6 0)) → post 0 S_14)) ∧ (¬ (p1 = (-1)) → wM_isHouse p1 S (fun r_2 S_3 => ((r_2 = 0 → post (-2) S_3) ∧ (¬ (r_2 = 0) → wM_isIn p2 0 9 S_3 (fun r_5 S_6 => ((r_5 = 0 → post (-2) S_6) ∧ (¬ (r_5 = 0) → ((((ms_a S_6) 6) = 8 → post (-2) S_6) ∧ (¬ (((ms_a S_6) 6) = 8) → (vp_in (188 + (2 * ((ms_a S_6) 6))) 2454 ∧ ∀ S_9 : MS, S_9 = (ms_set_a S_6 (upd (ms_a S_6) ((188 + (2 * ((ms_a S_6) 6))).toNatClampNeg) p1)) → (vp_in ((188 + (2 * ((ms_a S_9) 6))) + 1) 2454 ∧ ∀ S_10 : MS, S_10 = (ms_set_a S_9 (upd (ms_a S_9) (((188 + (2 * ((ms_a S_9) 6))) + 1).toNatClampNeg) p2)) → (∀ S_11 : MS, S_11 = (ms_set_a S_10 (upd (ms_a S_10) 6 (((ms_a S_10) 6) + 1))) → post ((ms_a S_11) 6) S_11)))))))))))))
set_option maxHeartbeats 4000000 in
set_option maxRecDepth 100000 in
theorem cM_grown (l : Launch) (D : va_G) (h : Nat → Nat) (cy : Nat → ClassId) (p1 : Int32) (p2 : Int32) (S : MS) (post : Int32 → MS → Prop) (hw : wM_grown p1 p2 S post) : k_Mi l yX12_grown wsX12_grown { frames := 2, cells := 0, slots := 0, locals := 43 } D (tyM cy) (wM h cy) [.ref (h 31), .int p1, .int p2] S post := by
  intro sz
  refine Met.ofW (cc := cX12_grown) (maxL := 3) (ret := (some .int)) (by decide) rfl ?_
  intro p e s m args below meth c s₁ B hml hv
  obtain ⟨rfl, hsz, hP, hK, hD0⟩ := hv
  have hx := B.exec
  have hb := B.bytes
  have hr := B.returns
  have hts := atoms_spec (ws := wsX12_grown) B.pre
  have hown : s.vm.findClass RX12 = some m.cls := findClass_of_methodNamed B.named
  have hlocks := B.notSynchronized
  subst hsz
  have hD := hD0.self (sz := s.heap.size)
  generalize hAe : va_A (wM h cy S) s.heap.size = A at hD ⊢
  have hA : ∀ q : Nat, s.heap.size ≤ q → A q := fun q h => by rw [← hAe]; exact Or.inr h
  have hS : va_S A s.heap s.heap [] := va_S.rf
  have hin : ∀ w ∈ wsX120, w ∈ wsX12_grown := fun _ h => List.mem_cons_of_mem _ (List.mem_append_right _ h)
  have w7 := hts (.fieldLink RX12 7 "ClownsMournModel" "a" "[I") (List.mem_of_getElem? (i := 1) rfl)
  have hl := lv_entry ([.ref (h 31), .int p1, .int p2]) (n := 3) (Nat.le_of_ble_eq_true rfl)
  rw [lg_entry_eq]
  generalize (lg_sl ([.ref (h 31), .int p1, .int p2]) ++ List.replicate (3 - (lg_sl ([.ref (h 31), .int p1, .int p2])).length) Slot.unset).toArray = ls at hl ⊢
  have hl : lv_has ls 3 [(0, .ref (h 31)), (1, .int p1), (2, .int p2)] := hl
  unfold wM_grown at hw
  clear hD0
  refine lv_iload_n hx hb dX12_grown_0 rfl (lv_at hl 1 rfl) ?_
  refine lv_iconst (v := (-1)) hx hb dX12_grown_1 (by decide) ?_
  obtain ⟨hc_1t, hc_1f⟩ := hw
  refine lv_icmp_ne (tgt := 15) hx hb dX12_grown_2 (by decide) (fun c_1 => ?_) (fun c_1 => ?_)
  · have hw := hc_1f c_1
    clear hc_1t hc_1f
    refine lv_aload_n hx hb dX12_grown_15 rfl (lv_at hl 0 rfl) ?_
    refine lv_iload_n hx hb dX12_grown_16 rfl (lv_at hl 1 rfl) ?_
    refine k_callVi (As := [.int p1]) (rest := []) ⟨hx, hb, hml, hown, hts⟩ (cM_isHouse l D h cy _ _ _ hw) (cwV 1 hts gX12_grown_X12_isHouse rfl rfl rfl (by decide +kernel) ⟨Nat.le_of_ble_eq_true rfl, Nat.le_of_ble_eq_true rfl⟩) (va_recv hK hP (ci := 11) (q0 := 0) rfl rfl) hK hP hD hS hA rfl hl.1 rfl (Nat.le_of_ble_eq_true rfl) dX12_grown_17 ⟨Nat.zero_le _, Nat.zero_le _⟩ (fun r_2 S_3 H locs hw hP hD hS => ?_)
    obtain ⟨hc_4t, hc_4f⟩ := hw
    refine lv_if_eq (tgt := 45) hx hb dX12_grown_20 (by decide) (fun c_4 => ?_) (fun c_4 => ?_)
    · have hw := hc_4t c_4
      clear hc_4t hc_4f
      refine lv_bipush (v := (-2)) hx hb dX12_grown_45 (by decide) ?_
      exact W.iret (v := (-2)) hx hb hr (fun t ht hW => ⟨⟨(-2), S_3, rfl, hw, by rw [ht]; exact hP, va_K.moved hW.alike hK, hD⟩, hS.F ht⟩) hS.2.2 dX12_grown_47
    · have hw := hc_4f c_4
      clear hc_4t hc_4f
      refine lv_iload_n hx hb dX12_grown_23 rfl (lv_at hl 2 rfl) ?_
      refine lv_iconst (v := 0) hx hb dX12_grown_24 (by decide) ?_
      refine lv_bipush (v := 9) hx hb dX12_grown_25 (by decide) ?_
      refine k_callSi (As := [.int p2, .int 0, .int 9]) (rest := []) ⟨hx, hb, hml, hown, hts⟩ (cM_isIn l D h cy _ _ _ _ _ hw) (va_cwS 3 hts gX12_grown_X12_isIn rfl rfl rfl (by decide +kernel) ⟨Nat.le_of_ble_eq_true rfl, Nat.le_of_ble_eq_true rfl⟩) hK hP hD hS hA rfl hl.1 rfl (Nat.le_of_ble_eq_true rfl) dX12_grown_27 ⟨Nat.zero_le _, Nat.zero_le _⟩ (fun r_5 S_6 H locs hw hP hD hS => ?_)
      obtain ⟨hc_7t, hc_7f⟩ := hw
      refine lv_if_eq (tgt := 45) hx hb dX12_grown_30 (by decide) (fun c_7 => ?_) (fun c_7 => ?_)
      · have hw := hc_7t c_7
        clear hc_7t hc_7f
        refine lv_bipush (v := (-2)) hx hb dX12_grown_45 (by decide) ?_
        exact W.iret (v := (-2)) hx hb hr (fun t ht hW => ⟨⟨(-2), S_6, rfl, hw, by rw [ht]; exact hP, va_K.moved hW.alike hK, hD⟩, hS.F ht⟩) hS.2.2 dX12_grown_47
      · have hw := hc_7f c_7
        clear hc_7t hc_7f
        refine lv_aload_n hx hb dX12_grown_33 rfl (lv_at hl 0 rfl) ?_
        refine va_get (D := D) (ci := 11) (v := .ref (h 0)) (C := RX12) (T := TX12) (N := 31) hx hb hts hin hown hK hP 0 rfl rfl 0 (by decide) w7 (fun _ h9 => h9) rfl dX12_grown_34 ?_
        refine lv_bipush (v := 6) hx hb dX12_grown_37 (by decide) ?_
        refine k_iald (f := (ms_a S_6)) (j := 6) hx hb hK hP 1 0 rfl rfl (by decide +kernel) rfl dX12_grown_39 ?_
        refine lv_bipush (v := 8) hx hb dX12_grown_40 (by decide) ?_
        obtain ⟨hc_8t, hc_8f⟩ := hw
        refine lv_icmp_ne (tgt := 48) hx hb dX12_grown_42 (by decide) (fun c_8 => ?_) (fun c_8 => ?_)
        · have hw := hc_8f c_8
          clear hc_8t hc_8f
          refine lv_aload_n hx hb dX12_grown_48 rfl (lv_at hl 0 rfl) ?_
          refine va_get (D := D) (ci := 11) (v := .ref (h 0)) (C := RX12) (T := TX12) (N := 31) hx hb hts hin hown hK hP 0 rfl rfl 0 (by decide) w7 (fun _ h9 => h9) rfl dX12_grown_49 ?_
          refine lv_sipush (v := 188) hx hb dX12_grown_52 (by decide) ?_
          refine lv_iconst (v := 2) hx hb dX12_grown_55 (by decide) ?_
          refine lv_aload_n hx hb dX12_grown_56 rfl (lv_at hl 0 rfl) ?_
          refine va_get (D := D) (ci := 11) (v := .ref (h 0)) (C := RX12) (T := TX12) (N := 31) hx hb hts hin hown hK hP 0 rfl rfl 0 (by decide) w7 (fun _ h9 => h9) rfl dX12_grown_57 ?_
          refine lv_bipush (v := 6) hx hb dX12_grown_60 (by decide) ?_
          refine k_iald (f := (ms_a S_6)) (j := 6) hx hb hK hP 1 0 rfl rfl (by decide +kernel) rfl dX12_grown_62 ?_
          refine lv_imul hx hb dX12_grown_63 ?_
          refine lv_iadd hx hb dX12_grown_64 ?_
          refine lv_iload_n hx hb dX12_grown_65 rfl (lv_at hl 1 rfl) ?_
          obtain ⟨hi_13, hw⟩ := hw
          refine va_iast (f := (ms_a S_6)) hx hb hK hP hD hS 1 0 rfl rfl hi_13 dX12_grown_66 (fun H locs hP hD hS => ?_)
          obtain ⟨S_9, eS_9⟩ : ∃ z : MS, z = (ms_set_a S_6 (upd (ms_a S_6) ((188 + (2 * ((ms_a S_6) 6))).toNatClampNeg) p1)) := ⟨_, rfl⟩
          have hw := hw S_9 eS_9
          have hP : va_P D vwCl (wM h cy S_9) H := by rw [eS_9, ← wMs_a]; exact hP
          have hD : va_D A (wM h cy S_9) := by rw [eS_9, ← wMs_a]; exact hD
          refine lv_aload_n hx hb dX12_grown_67 rfl (lv_at hl 0 rfl) ?_
          refine va_get (D := D) (ci := 11) (v := .ref (h 0)) (C := RX12) (T := TX12) (N := 31) hx hb hts hin hown hK hP 0 rfl rfl 0 (by decide) w7 (fun _ h9 => h9) rfl dX12_grown_68 ?_
          refine lv_sipush (v := 188) hx hb dX12_grown_71 (by decide) ?_
          refine lv_iconst (v := 2) hx hb dX12_grown_74 (by decide) ?_
          refine lv_aload_n hx hb dX12_grown_75 rfl (lv_at hl 0 rfl) ?_
          refine va_get (D := D) (ci := 11) (v := .ref (h 0)) (C := RX12) (T := TX12) (N := 31) hx hb hts hin hown hK hP 0 rfl rfl 0 (by decide) w7 (fun _ h9 => h9) rfl dX12_grown_76 ?_
          refine lv_bipush (v := 6) hx hb dX12_grown_79 (by decide) ?_
          refine k_iald (f := (ms_a S_9)) (j := 6) hx hb hK hP 1 0 rfl rfl (by decide +kernel) rfl dX12_grown_81 ?_
          refine lv_imul hx hb dX12_grown_82 ?_
          refine lv_iadd hx hb dX12_grown_83 ?_
          refine lv_iconst (v := 1) hx hb dX12_grown_84 (by decide) ?_
          refine lv_iadd hx hb dX12_grown_85 ?_
          refine lv_iload_n hx hb dX12_grown_86 rfl (lv_at hl 2 rfl) ?_
          obtain ⟨hi_12, hw⟩ := hw
          refine va_iast (f := (ms_a S_9)) hx hb hK hP hD hS 1 0 rfl rfl hi_12 dX12_grown_87 (fun H locs hP hD hS => ?_)
          obtain ⟨S_10, eS_10⟩ : ∃ z : MS, z = (ms_set_a S_9 (upd (ms_a S_9) (((188 + (2 * ((ms_a S_9) 6))) + 1).toNatClampNeg) p2)) := ⟨_, rfl⟩
          have hw := hw S_10 eS_10
          have hP : va_P D vwCl (wM h cy S_10) H := by rw [eS_10, ← wMs_a]; exact hP
          have hD : va_D A (wM h cy S_10) := by rw [eS_10, ← wMs_a]; exact hD
          refine lv_aload_n hx hb dX12_grown_88 rfl (lv_at hl 0 rfl) ?_
          refine va_get (D := D) (ci := 11) (v := .ref (h 0)) (C := RX12) (T := TX12) (N := 31) hx hb hts hin hown hK hP 0 rfl rfl 0 (by decide) w7 (fun _ h9 => h9) rfl dX12_grown_89 ?_
          refine lv_bipush (v := 6) hx hb dX12_grown_92 (by decide) ?_
          refine lv_dup2_11 hx hb dX12_grown_94 rfl rfl ?_
          refine k_iald (f := (ms_a S_10)) (j := 6) hx hb hK hP 1 0 rfl rfl (by decide +kernel) rfl dX12_grown_95 ?_
          refine lv_iconst (v := 1) hx hb dX12_grown_96 (by decide) ?_
          refine lv_iadd hx hb dX12_grown_97 ?_
          refine k_iast (f := (ms_a S_10)) (j := 6) hx hb hK hP hD hS 1 0 rfl rfl (by decide +kernel) rfl dX12_grown_98 (fun H locs hP hD hS => ?_)
          obtain ⟨S_11, eS_11⟩ : ∃ z : MS, z = (ms_set_a S_10 (upd (ms_a S_10) 6 (((ms_a S_10) 6) + 1))) := ⟨_, rfl⟩
          have hw := hw S_11 eS_11
          have hP : va_P D vwCl (wM h cy S_11) H := by rw [eS_11, ← wMs_a]; exact hP
          have hD : va_D A (wM h cy S_11) := by rw [eS_11, ← wMs_a]; exact hD
          refine lv_aload_n hx hb dX12_grown_99 rfl (lv_at hl 0 rfl) ?_
          refine va_get (D := D) (ci := 11) (v := .ref (h 0)) (C := RX12) (T := TX12) (N := 31) hx hb hts hin hown hK hP 0 rfl rfl 0 (by decide) w7 (fun _ h9 => h9) rfl dX12_grown_100 ?_
          refine lv_bipush (v := 6) hx hb dX12_grown_103 (by decide) ?_
          refine k_iald (f := (ms_a S_11)) (j := 6) hx hb hK hP 1 0 rfl rfl (by decide +kernel) rfl dX12_grown_105 ?_
          exact W.iret (v := (ms_a S_11) 6) hx hb hr (fun t ht hW => ⟨⟨(ms_a S_11) 6, S_11, rfl, hw, by rw [ht]; exact hP, va_K.moved hW.alike hK, hD⟩, hS.F ht⟩) hS.2.2 dX12_grown_106
        · have hw := hc_8t c_8
          clear hc_8t hc_8f
          refine lv_bipush (v := (-2)) hx hb dX12_grown_45 (by decide) ?_
          exact W.iret (v := (-2)) hx hb hr (fun t ht hW => ⟨⟨(-2), S_6, rfl, hw, by rw [ht]; exact hP, va_K.moved hW.alike hK, hD⟩, hS.F ht⟩) hS.2.2 dX12_grown_47
  · have hw := hc_1t c_1
    clear hc_1t hc_1f
    refine lv_aload_n hx hb dX12_grown_5 rfl (lv_at hl 0 rfl) ?_
    refine va_get (D := D) (ci := 11) (v := .ref (h 0)) (C := RX12) (T := TX12) (N := 31) hx hb hts hin hown hK hP 0 rfl rfl 0 (by decide) w7 (fun _ h9 => h9) rfl dX12_grown_6 ?_
    refine lv_bipush (v := 6) hx hb dX12_grown_9 (by decide) ?_
    refine lv_iconst (v := 0) hx hb dX12_grown_11 (by decide) ?_
    refine k_iast (f := (ms_a S)) (j := 6) hx hb hK hP hD hS 1 0 rfl rfl (by decide +kernel) rfl dX12_grown_12 (fun H locs hP hD hS => ?_)
    obtain ⟨S_14, eS_14⟩ : ∃ z : MS, z = (ms_set_a S (upd (ms_a S) 6 0)) := ⟨_, rfl⟩
    have hw := hw S_14 eS_14
    have hP : va_P D vwCl (wM h cy S_14) H := by rw [eS_14, ← wMs_a]; exact hP
    have hD : va_D A (wM h cy S_14) := by rw [eS_14, ← wMs_a]; exact hD
    refine lv_iconst (v := 0) hx hb dX12_grown_13 (by decide) ?_
    exact W.iret (v := 0) hx hb hr (fun t ht hW => ⟨⟨0, S_14, rfl, hw, by rw [ht]; exact hP, va_K.moved hW.alike hK, hD⟩, hS.F ht⟩) hS.2.2 dX12_grown_14
def wM_whose_19 (post : Int32 → MS → Prop) (K4 : Int32 → Int32 → MS → Prop) : Nat → Int32 → Int32 → Int32 → Int32 → MS → Prop
  | 0, _, _, _, _, _ => False
  | n + 1, x1, x2, x3, x4, S => ((((ms_a S) 6) ≤ x4 → ((x3 = 0 → K4 (x1 ||| 0) (x2 + 1) S) ∧ (¬ (x3 = 0) → K4 (x1 ||| (k_shl 1 x2)) (x2 + 1) S))) ∧ (¬ (((ms_a S) 6) ≤ x4) → ((x3 = 0 → wM_whose_19 post K4 n x1 x2 0 (x4 + 1) S) ∧ (¬ (x3 = 0) → (vp_in (188 + (2 * x4)) 2454 ∧ wM_growsOf x2 ((ms_a S) (188 + (2 * x4)).toNatClampNeg) S (fun r_4 S_5 => (vp_in ((188 + (2 * x4)) + 1) 2454 ∧ ((r_4 = ((ms_a S_5) ((188 + (2 * x4)) + 1).toNatClampNeg) → wM_whose_19 post K4 n x1 x2 1 (x4 + 1) S_5) ∧ (¬ (r_4 = ((ms_a S_5) ((188 + (2 * x4)) + 1).toNatClampNeg)) → wM_whose_19 post K4 n x1 x2 0 (x4 + 1) S_5)))))))))
def wM_whose_4 (post : Int32 → MS → Prop) : Nat → Int32 → Int32 → MS → Prop
  | 0, _, _, _ => False
  | n + 1, x1, x2, S => ((((ms_a S) 2) ≤ x2 → post x1 S) ∧ (¬ (((ms_a S) 2) ≤ x2) → ∃ k_ : Nat, wM_whose_19 post (wM_whose_4 post n) k_ x1 x2 1 0 S))
def wM_whose (S : MS) (post : Int32 → MS → Prop) : Prop := ∃ k_ : Nat, wM_whose_4 post k_ 0 0 S
set_option maxHeartbeats 4000000 in
set_option maxRecDepth 100000 in
theorem cM_whose (l : Launch) (D : va_G) (h : Nat → Nat) (cy : Nat → ClassId) (S : MS) (post : Int32 → MS → Prop) (hw : wM_whose S post) : k_Mi l yX12_whose wsX12_whose { frames := 5, cells := 0, slots := 0, locals := 121 } D (tyM cy) (wM h cy) [.ref (h 31)] S post := by
  intro sz
  refine Met.ofW (cc := cX12_whose) (maxL := 5) (ret := (some .int)) (by decide) rfl ?_
  intro p e s m args below meth c s₁ B hml hv
  obtain ⟨rfl, hsz, hP, hK, hD0⟩ := hv
  have hx := B.exec
  have hb := B.bytes
  have hr := B.returns
  have hts := atoms_spec (ws := wsX12_whose) B.pre
  have hown : s.vm.findClass RX12 = some m.cls := findClass_of_methodNamed B.named
  have hlocks := B.notSynchronized
  subst hsz
  have hD := hD0.self (sz := s.heap.size)
  generalize hAe : va_A (wM h cy S) s.heap.size = A at hD ⊢
  have hA : ∀ q : Nat, s.heap.size ≤ q → A q := fun q h => by rw [← hAe]; exact Or.inr h
  have hS : va_S A s.heap s.heap [] := va_S.rf
  have hin : ∀ w ∈ wsX120, w ∈ wsX12_whose := fun _ h => List.mem_cons_of_mem _ (List.mem_append_right _ h)
  have w7 := hts (.fieldLink RX12 7 "ClownsMournModel" "a" "[I") (List.mem_of_getElem? (i := 1) rfl)
  have hl := lv_entry ([.ref (h 31)]) (n := 5) (Nat.le_of_ble_eq_true rfl)
  rw [lg_entry_eq]
  generalize (lg_sl ([.ref (h 31)]) ++ List.replicate (5 - (lg_sl ([.ref (h 31)])).length) Slot.unset).toArray = ls at hl ⊢
  have hl : lv_has ls 5 [(0, .ref (h 31))] := hl
  unfold wM_whose at hw
  clear hD0
  have L_4 : ∀ (n4 : Nat) (x1 : Int32) (x2 : Int32) (S : MS) (H : Heap) (locs : List Loc) (ls : Array Slot), wM_whose_4 post n4 x1 x2 S → va_P D vwCl (wM h cy S) H → va_D A (wM h cy S) → va_S A s.heap H locs → lv_has ls 5 [(0, .ref (h 31)), (1, .int x1), (2, .int x2)] → W p l e (headSpec wsX12_whose { frames := 5, cells := 0, slots := 0, locals := 121 }).room s m (([.ref (h 31)] : List Value).toArray) below meth c H locs 0 0 (MQ below (va_Qi post (k_Post D (tyM cy) (wM h cy) A) A) (([.ref (h 31)] : List Value).toArray) s 0 0 A) (F0 m 4 ls []) := by
    intro n4
    induction n4 with
    | zero => intro x1 x2 S H locs ls hw; exact False.elim hw
    | succ n4 ih_4 =>
      have L_19 : ∀ (n19 : Nat) (x1 : Int32) (x2 : Int32) (x3 : Int32) (x4 : Int32) (S : MS) (H : Heap) (locs : List Loc) (ls : Array Slot), wM_whose_19 post (wM_whose_4 post n4) n19 x1 x2 x3 x4 S → va_P D vwCl (wM h cy S) H → va_D A (wM h cy S) → va_S A s.heap H locs → lv_has ls 5 [(0, .ref (h 31)), (1, .int x1), (2, .int x2), (3, .int x3), (4, .int x4)] → W p l e (headSpec wsX12_whose { frames := 5, cells := 0, slots := 0, locals := 121 }).room s m (([.ref (h 31)] : List Value).toArray) below meth c H locs 0 0 (MQ below (va_Qi post (k_Post D (tyM cy) (wM h cy) A) A) (([.ref (h 31)] : List Value).toArray) s 0 0 A) (F0 m 19 ls []) := by
        intro n19
        induction n19 with
        | zero => intro x1 x2 x3 x4 S H locs ls hw; exact False.elim hw
        | succ n19 ih_19 =>
          intro x1 x2 x3 x4 S H locs ls hw hP hD hS hl
          unfold wM_whose_19 at hw
          refine lv_iload hx hb dX12_whose_19 (lv_at hl 4 rfl) ?_
          refine lv_aload_n hx hb dX12_whose_21 rfl (lv_at hl 0 rfl) ?_
          refine va_get (D := D) (ci := 11) (v := .ref (h 0)) (C := RX12) (T := TX12) (N := 31) hx hb hts hin hown hK hP 0 rfl rfl 0 (by decide) w7 (fun _ h9 => h9) rfl dX12_whose_22 ?_
          refine lv_bipush (v := 6) hx hb dX12_whose_25 (by decide) ?_
          refine k_iald (f := (ms_a S)) (j := 6) hx hb hK hP 1 0 rfl rfl (by decide +kernel) rfl dX12_whose_27 ?_
          obtain ⟨hc_1t, hc_1f⟩ := hw
          refine lv_icmp_ge (tgt := 83) hx hb dX12_whose_28 (by decide) (fun c_1 => ?_) (fun c_1 => ?_)
          · have hw := hc_1t c_1
            clear hc_1t hc_1f
            refine lv_iload_n hx hb dX12_whose_83 rfl (lv_at hl 1 rfl) ?_
            refine lv_iload_n hx hb dX12_whose_84 rfl (lv_at hl 3 rfl) ?_
            obtain ⟨hc_2t, hc_2f⟩ := hw
            refine lv_if_eq (tgt := 94) hx hb dX12_whose_85 (by decide) (fun c_2 => ?_) (fun c_2 => ?_)
            · have hw := hc_2t c_2
              clear hc_2t hc_2f
              refine lv_iconst (v := 0) hx hb dX12_whose_94 (by decide) ?_
              refine lv_ior hx hb dX12_whose_95 ?_
              refine lv_istore_n (lv' := [(1, .int (x1 ||| 0)), (0, .ref (h 31)), (2, .int x2), (3, .int x3), (4, .int x4)]) hx hb dX12_whose_96 rfl hl (by decide) rfl (fun ls hl => ?_)
              refine lv_iinc (v := x2 + 1) (lv' := [(2, .int (x2 + 1)), (1, .int (x1 ||| 0)), (0, .ref (h 31)), (3, .int x3), (4, .int x4)]) hx hb dX12_whose_97 hl (k := 2) rfl (k_inc (by decide)) (by decide) rfl (fun ls hl => ?_)
              refine lv_goto (tgt := 4) hx hb dX12_whose_100 (by decide) ?_
              exact ih_4 (x1 ||| 0) (x2 + 1) S _ _ _ hw hP hD hS (lv_sub hl [2, 1, 0] rfl)
            · have hw := hc_2f c_2
              clear hc_2t hc_2f
              refine lv_iconst (v := 1) hx hb dX12_whose_88 (by decide) ?_
              refine lv_iload_n hx hb dX12_whose_89 rfl (lv_at hl 2 rfl) ?_
              refine k_ishl hx hb dX12_whose_90 ?_
              refine lv_goto (tgt := 95) hx hb dX12_whose_91 (by decide) ?_
              refine lv_ior hx hb dX12_whose_95 ?_
              refine lv_istore_n (lv' := [(1, .int (x1 ||| (k_shl 1 x2))), (0, .ref (h 31)), (2, .int x2), (3, .int x3), (4, .int x4)]) hx hb dX12_whose_96 rfl hl (by decide) rfl (fun ls hl => ?_)
              refine lv_iinc (v := x2 + 1) (lv' := [(2, .int (x2 + 1)), (1, .int (x1 ||| (k_shl 1 x2))), (0, .ref (h 31)), (3, .int x3), (4, .int x4)]) hx hb dX12_whose_97 hl (k := 2) rfl (k_inc (by decide)) (by decide) rfl (fun ls hl => ?_)
              refine lv_goto (tgt := 4) hx hb dX12_whose_100 (by decide) ?_
              exact ih_4 (x1 ||| (k_shl 1 x2)) (x2 + 1) S _ _ _ hw hP hD hS (lv_sub hl [2, 1, 0] rfl)
          · have hw := hc_1f c_1
            clear hc_1t hc_1f
            refine lv_iload_n hx hb dX12_whose_31 rfl (lv_at hl 3 rfl) ?_
            obtain ⟨hc_3t, hc_3f⟩ := hw
            refine lv_if_eq (tgt := 75) hx hb dX12_whose_32 (by decide) (fun c_3 => ?_) (fun c_3 => ?_)
            · have hw := hc_3t c_3
              clear hc_3t hc_3f
              refine lv_iconst (v := 0) hx hb dX12_whose_75 (by decide) ?_
              refine lv_istore_n (lv' := [(3, .int 0), (0, .ref (h 31)), (1, .int x1), (2, .int x2), (4, .int x4)]) hx hb dX12_whose_76 rfl hl (by decide) rfl (fun ls hl => ?_)
              refine lv_iinc (v := x4 + 1) (lv' := [(4, .int (x4 + 1)), (3, .int 0), (0, .ref (h 31)), (1, .int x1), (2, .int x2)]) hx hb dX12_whose_77 hl (k := 4) rfl (k_inc (by decide)) (by decide) rfl (fun ls hl => ?_)
              refine lv_goto (tgt := 19) hx hb dX12_whose_80 (by decide) ?_
              exact ih_19 x1 x2 0 (x4 + 1) S _ _ _ hw hP hD hS (lv_sub hl [2, 3, 4, 1, 0] rfl)
            · have hw := hc_3f c_3
              clear hc_3t hc_3f
              refine lv_aload_n hx hb dX12_whose_35 rfl (lv_at hl 0 rfl) ?_
              refine lv_iload_n hx hb dX12_whose_36 rfl (lv_at hl 2 rfl) ?_
              refine lv_aload_n hx hb dX12_whose_37 rfl (lv_at hl 0 rfl) ?_
              refine va_get (D := D) (ci := 11) (v := .ref (h 0)) (C := RX12) (T := TX12) (N := 31) hx hb hts hin hown hK hP 0 rfl rfl 0 (by decide) w7 (fun _ h9 => h9) rfl dX12_whose_38 ?_
              refine lv_sipush (v := 188) hx hb dX12_whose_41 (by decide) ?_
              refine lv_iconst (v := 2) hx hb dX12_whose_44 (by decide) ?_
              refine lv_iload hx hb dX12_whose_45 (lv_at hl 4 rfl) ?_
              refine lv_imul hx hb dX12_whose_47 ?_
              refine lv_iadd hx hb dX12_whose_48 ?_
              obtain ⟨hi_8, hw⟩ := hw
              refine va_iald (f := (ms_a S)) hx hb hK hP 1 0 rfl rfl hi_8 dX12_whose_49 ?_
              refine k_callVi (As := [.int x2, .int ((ms_a S) (188 + (2 * x4)).toNatClampNeg)]) (rest := []) ⟨hx, hb, hml, hown, hts⟩ (cM_growsOf l D h cy _ _ _ _ hw) (cwV 2 hts gX12_whose_X12_growsOf rfl rfl rfl (by decide +kernel) ⟨Nat.le_of_ble_eq_true rfl, Nat.le_of_ble_eq_true rfl⟩) (va_recv hK hP (ci := 11) (q0 := 0) rfl rfl) hK hP hD hS hA rfl hl.1 rfl (Nat.le_of_ble_eq_true rfl) dX12_whose_50 ⟨Nat.zero_le _, Nat.zero_le _⟩ (fun r_4 S_5 H locs hw hP hD hS => ?_)
              refine lv_aload_n hx hb dX12_whose_53 rfl (lv_at hl 0 rfl) ?_
              refine va_get (D := D) (ci := 11) (v := .ref (h 0)) (C := RX12) (T := TX12) (N := 31) hx hb hts hin hown hK hP 0 rfl rfl 0 (by decide) w7 (fun _ h9 => h9) rfl dX12_whose_54 ?_
              refine lv_sipush (v := 188) hx hb dX12_whose_57 (by decide) ?_
              refine lv_iconst (v := 2) hx hb dX12_whose_60 (by decide) ?_
              refine lv_iload hx hb dX12_whose_61 (lv_at hl 4 rfl) ?_
              refine lv_imul hx hb dX12_whose_63 ?_
              refine lv_iadd hx hb dX12_whose_64 ?_
              refine lv_iconst (v := 1) hx hb dX12_whose_65 (by decide) ?_
              refine lv_iadd hx hb dX12_whose_66 ?_
              obtain ⟨hi_7, hw⟩ := hw
              refine va_iald (f := (ms_a S_5)) hx hb hK hP 1 0 rfl rfl hi_7 dX12_whose_67 ?_
              obtain ⟨hc_6t, hc_6f⟩ := hw
              refine lv_icmp_ne (tgt := 75) hx hb dX12_whose_68 (by decide) (fun c_6 => ?_) (fun c_6 => ?_)
              · have hw := hc_6f c_6
                clear hc_6t hc_6f
                refine lv_iconst (v := 0) hx hb dX12_whose_75 (by decide) ?_
                refine lv_istore_n (lv' := [(3, .int 0), (0, .ref (h 31)), (1, .int x1), (2, .int x2), (4, .int x4)]) hx hb dX12_whose_76 rfl hl (by decide) rfl (fun ls hl => ?_)
                refine lv_iinc (v := x4 + 1) (lv' := [(4, .int (x4 + 1)), (3, .int 0), (0, .ref (h 31)), (1, .int x1), (2, .int x2)]) hx hb dX12_whose_77 hl (k := 4) rfl (k_inc (by decide)) (by decide) rfl (fun ls hl => ?_)
                refine lv_goto (tgt := 19) hx hb dX12_whose_80 (by decide) ?_
                exact ih_19 x1 x2 0 (x4 + 1) S_5 _ _ _ hw hP hD hS (lv_sub hl [2, 3, 4, 1, 0] rfl)
              · have hw := hc_6t c_6
                clear hc_6t hc_6f
                refine lv_iconst (v := 1) hx hb dX12_whose_71 (by decide) ?_
                refine lv_goto (tgt := 76) hx hb dX12_whose_72 (by decide) ?_
                refine lv_istore_n (lv' := [(3, .int 1), (0, .ref (h 31)), (1, .int x1), (2, .int x2), (4, .int x4)]) hx hb dX12_whose_76 rfl hl (by decide) rfl (fun ls hl => ?_)
                refine lv_iinc (v := x4 + 1) (lv' := [(4, .int (x4 + 1)), (3, .int 1), (0, .ref (h 31)), (1, .int x1), (2, .int x2)]) hx hb dX12_whose_77 hl (k := 4) rfl (k_inc (by decide)) (by decide) rfl (fun ls hl => ?_)
                refine lv_goto (tgt := 19) hx hb dX12_whose_80 (by decide) ?_
                exact ih_19 x1 x2 1 (x4 + 1) S_5 _ _ _ hw hP hD hS (lv_sub hl [2, 3, 4, 1, 0] rfl)
      intro x1 x2 S H locs ls hw hP hD hS hl
      unfold wM_whose_4 at hw
      refine lv_iload_n hx hb dX12_whose_4 rfl (lv_at hl 2 rfl) ?_
      refine lv_aload_n hx hb dX12_whose_5 rfl (lv_at hl 0 rfl) ?_
      refine va_get (D := D) (ci := 11) (v := .ref (h 0)) (C := RX12) (T := TX12) (N := 31) hx hb hts hin hown hK hP 0 rfl rfl 0 (by decide) w7 (fun _ h9 => h9) rfl dX12_whose_6 ?_
      refine lv_iconst (v := 2) hx hb dX12_whose_9 (by decide) ?_
      refine k_iald (f := (ms_a S)) (j := 2) hx hb hK hP 1 0 rfl rfl (by decide +kernel) rfl dX12_whose_10 ?_
      obtain ⟨hc_9t, hc_9f⟩ := hw
      refine lv_icmp_ge (tgt := 103) hx hb dX12_whose_11 (by decide) (fun c_9 => ?_) (fun c_9 => ?_)
      · have hw := hc_9t c_9
        clear hc_9t hc_9f
        refine lv_iload_n hx hb dX12_whose_103 rfl (lv_at hl 1 rfl) ?_
        exact W.iret (v := x1) hx hb hr (fun t ht hW => ⟨⟨x1, S, rfl, hw, by rw [ht]; exact hP, va_K.moved hW.alike hK, hD⟩, hS.F ht⟩) hS.2.2 dX12_whose_104
      · have hw := hc_9f c_9
        clear hc_9t hc_9f
        refine lv_iconst (v := 1) hx hb dX12_whose_14 (by decide) ?_
        refine lv_istore_n (lv' := [(3, .int 1), (0, .ref (h 31)), (1, .int x1), (2, .int x2)]) hx hb dX12_whose_15 rfl hl (by decide) rfl (fun ls hl => ?_)
        refine lv_iconst (v := 0) hx hb dX12_whose_16 (by decide) ?_
        refine lv_istore (lv' := [(4, .int 0), (3, .int 1), (0, .ref (h 31)), (1, .int x1), (2, .int x2)]) hx hb dX12_whose_17 hl (by decide) rfl (fun ls hl => ?_)
        obtain ⟨n_19, hw⟩ := hw
        exact L_19 n_19 x1 x2 1 0 S _ _ _ hw hP hD hS (lv_sub hl [2, 3, 4, 1, 0] rfl)
  refine lv_iconst (v := 0) hx hb dX12_whose_0 (by decide) ?_
  refine lv_istore_n (lv' := [(1, .int 0), (0, .ref (h 31))]) hx hb dX12_whose_1 rfl hl (by decide) rfl (fun ls hl => ?_)
  refine lv_iconst (v := 0) hx hb dX12_whose_2 (by decide) ?_
  refine lv_istore_n (lv' := [(2, .int 0), (1, .int 0), (0, .ref (h 31))]) hx hb dX12_whose_3 rfl hl (by decide) rfl (fun ls hl => ?_)
  obtain ⟨n_4, hw⟩ := hw
  exact L_4 n_4 0 0 S _ _ _ hw hP hD hS (lv_sub hl [2, 1, 0] rfl)
def wM_image (S : MS) (post : Int32 → MS → Prop) : Prop := wM_copy_a_image S (fun S_2 => post ((ms_a S_2) 7) S_2)
set_option maxHeartbeats 4000000 in
set_option maxRecDepth 100000 in
theorem cM_image (l : Launch) (D : va_G) (h : Nat → Nat) (cy : Nat → ClassId) (S : MS) (post : Int32 → MS → Prop) (hw : wM_image S post) : k_Mi l yX12_image wsX12_image { frames := 1, cells := 0, slots := 0, locals := 22 } D (tyM cy) (wM h cy) [.ref (h 31)] S post := by
  intro sz
  refine Met.ofW (cc := cX12_image) (maxL := 1) (ret := (some .int)) (by decide) rfl ?_
  intro p e s m args below meth c s₁ B hml hv
  obtain ⟨rfl, hsz, hP, hK, hD0⟩ := hv
  have hx := B.exec
  have hb := B.bytes
  have hr := B.returns
  have hts := atoms_spec (ws := wsX12_image) B.pre
  have hown : s.vm.findClass RX12 = some m.cls := findClass_of_methodNamed B.named
  have hlocks := B.notSynchronized
  subst hsz
  have hD := hD0.self (sz := s.heap.size)
  generalize hAe : va_A (wM h cy S) s.heap.size = A at hD ⊢
  have hA : ∀ q : Nat, s.heap.size ≤ q → A q := fun q h => by rw [← hAe]; exact Or.inr h
  have hS : va_S A s.heap s.heap [] := va_S.rf
  have hin : ∀ w ∈ wsX120, w ∈ wsX12_image := fun _ h => List.mem_cons_of_mem _ (List.mem_append_right _ h)
  have w7 := hts (.fieldLink RX12 7 "ClownsMournModel" "a" "[I") (List.mem_of_getElem? (i := 1) rfl)
  have w13 := hts (.fieldLink RX12 13 "ClownsMournModel" "image" "[I") (List.mem_of_getElem? (i := 2) rfl)
  have hl := lv_entry ([.ref (h 31)]) (n := 1) (Nat.le_of_ble_eq_true rfl)
  rw [lg_entry_eq]
  generalize (lg_sl ([.ref (h 31)]) ++ List.replicate (1 - (lg_sl ([.ref (h 31)])).length) Slot.unset).toArray = ls at hl ⊢
  have hl : lv_has ls 1 [(0, .ref (h 31))] := hl
  unfold wM_image at hw
  clear hD0
  refine lv_aload_n hx hb dX12_image_0 rfl (lv_at hl 0 rfl) ?_
  refine va_get (D := D) (ci := 11) (v := .ref (h 0)) (C := RX12) (T := TX12) (N := 31) hx hb hts hin hown hK hP 0 rfl rfl 0 (by decide) w7 (fun _ h9 => h9) rfl dX12_image_1 ?_
  refine lv_aload_n hx hb dX12_image_4 rfl (lv_at hl 0 rfl) ?_
  refine va_get (D := D) (ci := 11) (v := .ref (h 1)) (C := RX12) (T := TX12) (N := 31) hx hb hts hin hown hK hP 0 rfl rfl 1 (by decide) w13 (fun _ h9 => h9) rfl dX12_image_5 ?_
  refine k_callSv (As := [.ref (h 0), .ref (h 1)]) (rest := []) ⟨hx, hb, hml, hown, hts⟩ (cM_copy_a_image l D h cy _ _ hw) (va_cwS 2 hts gX12_image_X12_copy rfl rfl rfl (by decide +kernel) ⟨Nat.le_of_ble_eq_true rfl, Nat.le_of_ble_eq_true rfl⟩) hK hP hD hS hA rfl hl.1 rfl (Nat.le_of_ble_eq_true rfl) dX12_image_8 ⟨Nat.zero_le _, Nat.zero_le _⟩ (fun S_2 H locs hw hP hD hS => ?_)
  refine lv_aload_n hx hb dX12_image_11 rfl (lv_at hl 0 rfl) ?_
  refine va_get (D := D) (ci := 11) (v := .ref (h 0)) (C := RX12) (T := TX12) (N := 31) hx hb hts hin hown hK hP 0 rfl rfl 0 (by decide) w7 (fun _ h9 => h9) rfl dX12_image_12 ?_
  refine lv_bipush (v := 7) hx hb dX12_image_15 (by decide) ?_
  refine k_iald (f := (ms_a S_2)) (j := 7) hx hb hK hP 1 0 rfl rfl (by decide +kernel) rfl dX12_image_17 ?_
  exact W.iret (v := (ms_a S_2) 7) hx hb hr (fun t ht hW => ⟨⟨(ms_a S_2) 7, S_2, rfl, hw, by rw [ht]; exact hP, va_K.moved hW.alike hK, hD⟩, hS.F ht⟩) hS.2.2 dX12_image_18
def wM_back (S : MS) (post : Int32 → MS → Prop) : Prop := wM_copy_image_a S (fun S_2 => post ((ms_a S_2) 7) S_2)
set_option maxHeartbeats 4000000 in
set_option maxRecDepth 100000 in
theorem cM_back (l : Launch) (D : va_G) (h : Nat → Nat) (cy : Nat → ClassId) (S : MS) (post : Int32 → MS → Prop) (hw : wM_back S post) : k_Mi l yX12_back wsX12_back { frames := 1, cells := 0, slots := 0, locals := 22 } D (tyM cy) (wM h cy) [.ref (h 31)] S post := by
  intro sz
  refine Met.ofW (cc := cX12_back) (maxL := 1) (ret := (some .int)) (by decide) rfl ?_
  intro p e s m args below meth c s₁ B hml hv
  obtain ⟨rfl, hsz, hP, hK, hD0⟩ := hv
  have hx := B.exec
  have hb := B.bytes
  have hr := B.returns
  have hts := atoms_spec (ws := wsX12_back) B.pre
  have hown : s.vm.findClass RX12 = some m.cls := findClass_of_methodNamed B.named
  have hlocks := B.notSynchronized
  subst hsz
  have hD := hD0.self (sz := s.heap.size)
  generalize hAe : va_A (wM h cy S) s.heap.size = A at hD ⊢
  have hA : ∀ q : Nat, s.heap.size ≤ q → A q := fun q h => by rw [← hAe]; exact Or.inr h
  have hS : va_S A s.heap s.heap [] := va_S.rf
  have hin : ∀ w ∈ wsX120, w ∈ wsX12_back := fun _ h => List.mem_cons_of_mem _ (List.mem_append_right _ h)
  have w7 := hts (.fieldLink RX12 7 "ClownsMournModel" "a" "[I") (List.mem_of_getElem? (i := 2) rfl)
  have w13 := hts (.fieldLink RX12 13 "ClownsMournModel" "image" "[I") (List.mem_of_getElem? (i := 1) rfl)
  have hl := lv_entry ([.ref (h 31)]) (n := 1) (Nat.le_of_ble_eq_true rfl)
  rw [lg_entry_eq]
  generalize (lg_sl ([.ref (h 31)]) ++ List.replicate (1 - (lg_sl ([.ref (h 31)])).length) Slot.unset).toArray = ls at hl ⊢
  have hl : lv_has ls 1 [(0, .ref (h 31))] := hl
  unfold wM_back at hw
  clear hD0
  refine lv_aload_n hx hb dX12_back_0 rfl (lv_at hl 0 rfl) ?_
  refine va_get (D := D) (ci := 11) (v := .ref (h 1)) (C := RX12) (T := TX12) (N := 31) hx hb hts hin hown hK hP 0 rfl rfl 1 (by decide) w13 (fun _ h9 => h9) rfl dX12_back_1 ?_
  refine lv_aload_n hx hb dX12_back_4 rfl (lv_at hl 0 rfl) ?_
  refine va_get (D := D) (ci := 11) (v := .ref (h 0)) (C := RX12) (T := TX12) (N := 31) hx hb hts hin hown hK hP 0 rfl rfl 0 (by decide) w7 (fun _ h9 => h9) rfl dX12_back_5 ?_
  refine k_callSv (As := [.ref (h 1), .ref (h 0)]) (rest := []) ⟨hx, hb, hml, hown, hts⟩ (cM_copy_image_a l D h cy _ _ hw) (va_cwS 2 hts gX12_back_X12_copy rfl rfl rfl (by decide +kernel) ⟨Nat.le_of_ble_eq_true rfl, Nat.le_of_ble_eq_true rfl⟩) hK hP hD hS hA rfl hl.1 rfl (Nat.le_of_ble_eq_true rfl) dX12_back_8 ⟨Nat.zero_le _, Nat.zero_le _⟩ (fun S_2 H locs hw hP hD hS => ?_)
  refine lv_aload_n hx hb dX12_back_11 rfl (lv_at hl 0 rfl) ?_
  refine va_get (D := D) (ci := 11) (v := .ref (h 0)) (C := RX12) (T := TX12) (N := 31) hx hb hts hin hown hK hP 0 rfl rfl 0 (by decide) w7 (fun _ h9 => h9) rfl dX12_back_12 ?_
  refine lv_bipush (v := 7) hx hb dX12_back_15 (by decide) ?_
  refine k_iald (f := (ms_a S_2)) (j := 7) hx hb hK hP 1 0 rfl rfl (by decide +kernel) rfl dX12_back_17 ?_
  exact W.iret (v := (ms_a S_2) 7) hx hb hr (fun t ht hW => ⟨⟨(ms_a S_2) 7, S_2, rfl, hw, by rw [ht]; exact hP, va_K.moved hW.alike hK, hD⟩, hS.F ht⟩) hS.2.2 dX12_back_18
def wM_about (p1 : Int32) (S : MS) (post : Int32 → MS → Prop) : Prop := wM_isIn p1 0 6 S (fun r_1 S_2 => ((r_1 = 0 → ((p1 = 7 → post (ms_taped S_2) S_2) ∧ (¬ (p1 = 7) → post (-2) S_2))) ∧ (¬ (r_1 = 0) → (vp_in p1 2454 ∧ post ((ms_a S_2) p1.toNatClampNeg) S_2))))
set_option maxHeartbeats 4000000 in
set_option maxRecDepth 100000 in
theorem cM_about (l : Launch) (D : va_G) (h : Nat → Nat) (cy : Nat → ClassId) (p1 : Int32) (S : MS) (post : Int32 → MS → Prop) (hw : wM_about p1 S post) : k_Mi l yX12_about wsX12_about { frames := 1, cells := 0, slots := 0, locals := 22 } D (tyM cy) (wM h cy) [.ref (h 31), .int p1] S post := by
  intro sz
  refine Met.ofW (cc := cX12_about) (maxL := 2) (ret := (some .int)) (by decide) rfl ?_
  intro p e s m args below meth c s₁ B hml hv
  obtain ⟨rfl, hsz, hP, hK, hD0⟩ := hv
  have hx := B.exec
  have hb := B.bytes
  have hr := B.returns
  have hts := atoms_spec (ws := wsX12_about) B.pre
  have hown : s.vm.findClass RX12 = some m.cls := findClass_of_methodNamed B.named
  have hlocks := B.notSynchronized
  subst hsz
  have hD := hD0.self (sz := s.heap.size)
  generalize hAe : va_A (wM h cy S) s.heap.size = A at hD ⊢
  have hA : ∀ q : Nat, s.heap.size ≤ q → A q := fun q h => by rw [← hAe]; exact Or.inr h
  have hS : va_S A s.heap s.heap [] := va_S.rf
  have hin : ∀ w ∈ wsX120, w ∈ wsX12_about := fun _ h => List.mem_cons_of_mem _ (List.mem_append_right _ h)
  have w7 := hts (.fieldLink RX12 7 "ClownsMournModel" "a" "[I") (List.mem_of_getElem? (i := 1) rfl)
  have w97 := hts (.fieldLink RX12 97 "ClownsMournModel" "taped" "I") (List.mem_of_getElem? (i := 2) rfl)
  have hl := lv_entry ([.ref (h 31), .int p1]) (n := 2) (Nat.le_of_ble_eq_true rfl)
  rw [lg_entry_eq]
  generalize (lg_sl ([.ref (h 31), .int p1]) ++ List.replicate (2 - (lg_sl ([.ref (h 31), .int p1])).length) Slot.unset).toArray = ls at hl ⊢
  have hl : lv_has ls 2 [(0, .ref (h 31)), (1, .int p1)] := hl
  unfold wM_about at hw
  clear hD0
  refine lv_iload_n hx hb dX12_about_0 rfl (lv_at hl 1 rfl) ?_
  refine lv_iconst (v := 0) hx hb dX12_about_1 (by decide) ?_
  refine lv_bipush (v := 6) hx hb dX12_about_2 (by decide) ?_
  refine k_callSi (As := [.int p1, .int 0, .int 6]) (rest := []) ⟨hx, hb, hml, hown, hts⟩ (cM_isIn l D h cy _ _ _ _ _ hw) (va_cwS 3 hts gX12_about_X12_isIn rfl rfl rfl (by decide +kernel) ⟨Nat.le_of_ble_eq_true rfl, Nat.le_of_ble_eq_true rfl⟩) hK hP hD hS hA rfl hl.1 rfl (Nat.le_of_ble_eq_true rfl) dX12_about_4 ⟨Nat.zero_le _, Nat.zero_le _⟩ (fun r_1 S_2 H locs hw hP hD hS => ?_)
  obtain ⟨hc_3t, hc_3f⟩ := hw
  refine lv_if_eq (tgt := 19) hx hb dX12_about_7 (by decide) (fun c_3 => ?_) (fun c_3 => ?_)
  · have hw := hc_3t c_3
    clear hc_3t hc_3f
    refine lv_iload_n hx hb dX12_about_19 rfl (lv_at hl 1 rfl) ?_
    refine lv_bipush (v := 7) hx hb dX12_about_20 (by decide) ?_
    obtain ⟨hc_4t, hc_4f⟩ := hw
    refine lv_icmp_ne (tgt := 32) hx hb dX12_about_22 (by decide) (fun c_4 => ?_) (fun c_4 => ?_)
    · have hw := hc_4f c_4
      clear hc_4t hc_4f
      refine lv_bipush (v := (-2)) hx hb dX12_about_32 (by decide) ?_
      exact W.iret (v := (-2)) hx hb hr (fun t ht hW => ⟨⟨(-2), S_2, rfl, hw, by rw [ht]; exact hP, va_K.moved hW.alike hK, hD⟩, hS.F ht⟩) hS.2.2 dX12_about_34
    · have hw := hc_4t c_4
      clear hc_4t hc_4f
      refine lv_aload_n hx hb dX12_about_25 rfl (lv_at hl 0 rfl) ?_
      refine va_get (D := D) (ci := 11) (v := .int (ms_taped S_2)) (C := RX12) (T := TX12) (N := 31) hx hb hts hin hown hK hP 0 rfl rfl 4 (by decide) w97 (fun _ h9 => h9) rfl dX12_about_26 ?_
      refine lv_goto (tgt := 34) hx hb dX12_about_29 (by decide) ?_
      exact W.iret (v := (ms_taped S_2)) hx hb hr (fun t ht hW => ⟨⟨(ms_taped S_2), S_2, rfl, hw, by rw [ht]; exact hP, va_K.moved hW.alike hK, hD⟩, hS.F ht⟩) hS.2.2 dX12_about_34
  · have hw := hc_3f c_3
    clear hc_3t hc_3f
    refine lv_aload_n hx hb dX12_about_10 rfl (lv_at hl 0 rfl) ?_
    refine va_get (D := D) (ci := 11) (v := .ref (h 0)) (C := RX12) (T := TX12) (N := 31) hx hb hts hin hown hK hP 0 rfl rfl 0 (by decide) w7 (fun _ h9 => h9) rfl dX12_about_11 ?_
    refine lv_iload_n hx hb dX12_about_14 rfl (lv_at hl 1 rfl) ?_
    obtain ⟨hi_5, hw⟩ := hw
    refine va_iald (f := (ms_a S_2)) hx hb hK hP 1 0 rfl rfl hi_5 dX12_about_15 ?_
    refine lv_goto (tgt := 34) hx hb dX12_about_16 (by decide) ?_
    exact W.iret (v := (ms_a S_2) p1.toNatClampNeg) hx hb hr (fun t ht hW => ⟨⟨(ms_a S_2) p1.toNatClampNeg, S_2, rfl, hw, by rw [ht]; exact hP, va_K.moved hW.alike hK, hD⟩, hS.F ht⟩) hS.2.2 dX12_about_34
