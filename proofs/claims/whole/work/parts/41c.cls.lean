def wC_X11_undo (S : CS) (post : Int32 → CS → Prop) : Prop := (((cx_cs_count S) = 0 → post (-1) S) ∧ (¬ ((cx_cs_count S) = 0) → wC_X8_takeBack_city_now S (fun S_3 => post (cx_cs_count S_3) S_3)))
set_option maxHeartbeats 4000000 in
set_option maxRecDepth 100000 in
theorem cC_X11_undo (l : Launch) (D : va_G) (h : Nat → Nat) (cy : Nat → ClassId) (S : CS) (post : Int32 → CS → Prop) (hw : wC_X11_undo S post) : e_Mi nxE l yX11_undo wsX11_undo { frames := 4, cells := 0, slots := 0, locals := 132 } D (tyC cy) (wC h cy) [.ref (h 0)] S post := by
  intro sz
  refine Met.ofW (cc := cX11_undo) (maxL := 1) (ret := (some .int)) (by decide) rfl ?_
  intro p e s m args below meth c s₁ B hml hv
  obtain ⟨rfl, hsz, hP, hK, hD0, hs⟩ := hv
  have hx := B.exec
  have hb := B.bytes
  have hr := B.returns
  have hts := atoms_spec (ws := wsX11_undo) B.pre
  have hown : s.vm.findClass RX11 = some m.cls := findClass_of_methodNamed B.named
  have hlocks := B.notSynchronized
  subst hsz
  have hD := hD0.self (sz := s.heap.size)
  generalize hAe : va_A (wC h cy S) s.heap.size = A at hD ⊢
  have hA : ∀ q : Nat, s.heap.size ≤ q → A q := fun q h => by rw [← hAe]; exact Or.inr h
  have hS : va_S A s.heap s.heap [] := va_S.rf
  have hin11 : ∀ w ∈ wsX110, w ∈ wsX11_undo := fun _ h => List.mem_cons_of_mem _ (List.mem_append_left _ (List.mem_append_left _ (List.mem_append_right _ h)))
  have hin0 : ∀ w ∈ wsX00, w ∈ wsX11_undo := fun _ h => List.mem_cons_of_mem _ (List.mem_append_left _ (List.mem_append_right _ h))
  have hin8 : ∀ w ∈ wsX80, w ∈ wsX11_undo := fun _ h => List.mem_cons_of_mem _ (List.mem_append_right _ h)
  have w10 := hts (.fieldLink RX11 10 "ClownsMourn" "city" "LClownsMourn$City;") (List.mem_of_getElem? (i := 1) rfl)
  have w134 := hts (.fieldLink RX11 134 "ClownsMourn$City" "steps" "LClownsMourn$Steps;") (List.mem_of_getElem? (i := 2) rfl)
  have w138 := hts (.fieldLink RX11 138 "ClownsMourn$City" "now" "[I") (List.mem_of_getElem? (i := 4) rfl)
  have w191 := hts (.fieldLink RX11 191 "ClownsMourn$Steps" "count" "I") (List.mem_of_getElem? (i := 3) rfl)
  have hl := lv_entry ([.ref (h 0)]) (n := 1) (Nat.le_of_ble_eq_true rfl)
  rw [lg_entry_eq]
  generalize (lg_sl ([.ref (h 0)]) ++ List.replicate (1 - (lg_sl ([.ref (h 0)])).length) Slot.unset).toArray = ls at hl ⊢
  have hl : lv_has ls 1 [(0, .ref (h 0))] := hl
  unfold wC_X11_undo at hw
  clear hD0
  refine lv_aload_n hx hb dX11_undo_0 rfl (lv_at hl 0 rfl) ?_
  refine va_get (D := D) (ci := 10) (v := .ref (h 1)) (C := RX11) (T := TX11) (N := 9) hx hb hts hin11 hown hK hP 0 rfl rfl 0 (by decide) w10 (fun _ h9 => h9) rfl dX11_undo_1 ?_
  refine va_get (D := D) (ci := 0) (v := .ref (h 2)) (C := RX0) (T := TX0) (N := 16) hx hb hts hin0 hown hK hP 1 rfl rfl 1 (by decide) w134 (fun _ h9 => h9) rfl dX11_undo_4 ?_
  refine va_get (D := D) (ci := 8) (v := .int (cx_cs_count S)) (C := RX8) (T := TX8) (N := 3) hx hb hts hin8 hown hK hP 2 rfl rfl 2 (by decide) w191 (fun _ h9 => h9) rfl dX11_undo_7 ?_
  obtain ⟨hc_1t, hc_1f⟩ := hw
  refine lv_if_ne (tgt := 15) hx hb dX11_undo_10 (by decide) (fun c_1 => ?_) (fun c_1 => ?_)
  · have hw := hc_1f c_1
    clear hc_1t hc_1f
    refine lv_aload_n hx hb dX11_undo_15 rfl (lv_at hl 0 rfl) ?_
    refine va_get (D := D) (ci := 10) (v := .ref (h 1)) (C := RX11) (T := TX11) (N := 9) hx hb hts hin11 hown hK hP 0 rfl rfl 0 (by decide) w10 (fun _ h9 => h9) rfl dX11_undo_16 ?_
    refine va_get (D := D) (ci := 0) (v := .ref (h 2)) (C := RX0) (T := TX0) (N := 16) hx hb hts hin0 hown hK hP 1 rfl rfl 1 (by decide) w134 (fun _ h9 => h9) rfl dX11_undo_19 ?_
    refine lv_aload_n hx hb dX11_undo_22 rfl (lv_at hl 0 rfl) ?_
    refine va_get (D := D) (ci := 10) (v := .ref (h 1)) (C := RX11) (T := TX11) (N := 9) hx hb hts hin11 hown hK hP 0 rfl rfl 0 (by decide) w10 (fun _ h9 => h9) rfl dX11_undo_23 ?_
    refine va_get (D := D) (ci := 0) (v := .ref (h 12)) (C := RX0) (T := TX0) (N := 16) hx hb hts hin0 hown hK hP 1 rfl rfl 0 (by decide) w138 (fun _ h9 => h9) rfl dX11_undo_26 ?_
    refine e_callVv (As := [.ref (h 12)]) (rest := []) nxE_stable hs ⟨hx, hb, hml, hown, hts⟩ (cC_X8_takeBack_city_now l D h cy _ _ hw) (cwV 1 hts gX11_undo_X8_takeBack rfl rfl rfl (by decide +kernel) ⟨Nat.le_of_ble_eq_true rfl, Nat.le_of_ble_eq_true rfl⟩) (va_recv hK hP (ci := 8) (q0 := 2) rfl rfl) hK hP hD hS hA rfl hl.1 rfl (Nat.le_of_ble_eq_true rfl) dX11_undo_29 ⟨Nat.zero_le _, Nat.zero_le _⟩ (fun S_3 H locs hw hP hD hS => ?_)
    refine lv_aload_n hx hb dX11_undo_32 rfl (lv_at hl 0 rfl) ?_
    refine va_get (D := D) (ci := 10) (v := .ref (h 1)) (C := RX11) (T := TX11) (N := 9) hx hb hts hin11 hown hK hP 0 rfl rfl 0 (by decide) w10 (fun _ h9 => h9) rfl dX11_undo_33 ?_
    refine va_get (D := D) (ci := 0) (v := .ref (h 2)) (C := RX0) (T := TX0) (N := 16) hx hb hts hin0 hown hK hP 1 rfl rfl 1 (by decide) w134 (fun _ h9 => h9) rfl dX11_undo_36 ?_
    refine va_get (D := D) (ci := 8) (v := .int (cx_cs_count S_3)) (C := RX8) (T := TX8) (N := 3) hx hb hts hin8 hown hK hP 2 rfl rfl 2 (by decide) w191 (fun _ h9 => h9) rfl dX11_undo_39 ?_
    exact W.iret (v := (cx_cs_count S_3)) hx hb hr (fun t ht hW => ⟨⟨(cx_cs_count S_3), S_3, rfl, hw, by rw [ht]; exact hP, va_K.moved hW.alike hK, hD⟩, hS.F ht⟩) hS.2.2 dX11_undo_42
  · have hw := hc_1t c_1
    clear hc_1t hc_1f
    refine lv_iconst (v := (-1)) hx hb dX11_undo_13 (by decide) ?_
    exact W.iret (v := (-1)) hx hb hr (fun t ht hW => ⟨⟨(-1), S, rfl, hw, by rw [ht]; exact hP, va_K.moved hW.alike hK, hD⟩, hS.F ht⟩) hS.2.2 dX11_undo_14
def wC_X11_of (p1 : Int32) (p2 : Int32) (S : CS) (post : Int32 → CS → Prop) : Prop := wC_X0_hasHouse p1 S (fun r_1 S_2 => ((r_1 = 0 → post (-2) S_2) ∧ (¬ (r_1 = 0) → ((p2 = 0 → post (k_at 6 (cx_c_kinds S_2) p1) S_2) ∧ (p2 = 1 → wC_X0_see 0 p1 S_2 (fun r_5 S_6 => post r_5 S_6)) ∧ (p2 = 2 → wC_X0_see 6 p1 S_2 (fun r_8 S_9 => post r_8 S_9)) ∧ (p2 = 3 → wC_X0_see 12 p1 S_2 (fun r_11 S_12 => post r_11 S_12)) ∧ (p2 = 4 → wC_X0_see 18 p1 S_2 (fun r_14 S_15 => post r_14 S_15)) ∧ (p2 = 5 → wC_X0_textAt (cx_c_ruling S_2) S_2 (fun r_17 S_18 => wC_X3_growing r_17 p1 S_18 (fun r_19 S_20 => post r_19 S_20))) ∧ (p2 = 6 → wC_X0_clownsAt p1 S_2 (fun r_22 S_23 => post r_22 S_23)) ∧ (¬ p2 = 0 → ¬ p2 = 1 → ¬ p2 = 2 → ¬ p2 = 3 → ¬ p2 = 4 → ¬ p2 = 5 → ¬ p2 = 6 → post (-2) S_2)))))
set_option maxHeartbeats 4000000 in
set_option maxRecDepth 100000 in
theorem cC_X11_of (l : Launch) (D : va_G) (h : Nat → Nat) (cy : Nat → ClassId) (p1 : Int32) (p2 : Int32) (S : CS) (post : Int32 → CS → Prop) (hw : wC_X11_of p1 p2 S post) : e_Mi nxE l yX11_of wsX11_of { frames := 4, cells := 0, slots := 0, locals := 99 } D (tyC cy) (wC h cy) [.ref (h 0), .int p1, .int p2] S post := by
  intro sz
  refine Met.ofW (cc := cX11_of) (maxL := 3) (ret := (some .int)) (by decide) rfl ?_
  intro p e s m args below meth c s₁ B hml hv
  obtain ⟨rfl, hsz, hP, hK, hD0, hs⟩ := hv
  have hx := B.exec
  have hb := B.bytes
  have hr := B.returns
  have hts := atoms_spec (ws := wsX11_of) B.pre
  have hown : s.vm.findClass RX11 = some m.cls := findClass_of_methodNamed B.named
  have hlocks := B.notSynchronized
  subst hsz
  have hD := hD0.self (sz := s.heap.size)
  generalize hAe : va_A (wC h cy S) s.heap.size = A at hD ⊢
  have hA : ∀ q : Nat, s.heap.size ≤ q → A q := fun q h => by rw [← hAe]; exact Or.inr h
  have hS : va_S A s.heap s.heap [] := va_S.rf
  have hin11 : ∀ w ∈ wsX110, w ∈ wsX11_of := fun _ h => List.mem_cons_of_mem _ (List.mem_append_left _ (List.mem_append_left _ (List.mem_append_left _ (List.mem_append_right _ h))))
  have hin0 : ∀ w ∈ wsX00, w ∈ wsX11_of := fun _ h => List.mem_cons_of_mem _ (List.mem_append_left _ (List.mem_append_left _ (List.mem_append_right _ h)))
  have hin3 : ∀ w ∈ wsX30, w ∈ wsX11_of := fun _ h => List.mem_cons_of_mem _ (List.mem_append_left _ (List.mem_append_right _ h))
  have hin9 : ∀ w ∈ wsX90, w ∈ wsX11_of := fun _ h => List.mem_cons_of_mem _ (List.mem_append_right _ h)
  have w10 := hts (.fieldLink RX11 10 "ClownsMourn" "city" "LClownsMourn$City;") (List.mem_of_getElem? (i := 1) rfl)
  have w127 := hts (.fieldLink RX11 127 "ClownsMourn$City" "ruling" "I") (List.mem_of_getElem? (i := 4) rfl)
  have w200 := hts (.fieldLink RX11 200 "ClownsMourn$City" "kinds" "[I") (List.mem_of_getElem? (i := 2) rfl)
  have w31 := hts (.fieldLink RX11 31 "ClownsMourn" "laws" "LClownsMourn$Laws;") (List.mem_of_getElem? (i := 3) rfl)
  have hl := lv_entry ([.ref (h 0), .int p1, .int p2]) (n := 3) (Nat.le_of_ble_eq_true rfl)
  rw [lg_entry_eq]
  generalize (lg_sl ([.ref (h 0), .int p1, .int p2]) ++ List.replicate (3 - (lg_sl ([.ref (h 0), .int p1, .int p2])).length) Slot.unset).toArray = ls at hl ⊢
  have hl : lv_has ls 3 [(0, .ref (h 0)), (1, .int p1), (2, .int p2)] := hl
  unfold wC_X11_of at hw
  clear hD0
  refine lv_aload_n hx hb dX11_of_0 rfl (lv_at hl 0 rfl) ?_
  refine va_get (D := D) (ci := 10) (v := .ref (h 1)) (C := RX11) (T := TX11) (N := 9) hx hb hts hin11 hown hK hP 0 rfl rfl 0 (by decide) w10 (fun _ h9 => h9) rfl dX11_of_1 ?_
  refine lv_iload_n hx hb dX11_of_4 rfl (lv_at hl 1 rfl) ?_
  refine e_callVi (As := [.int p1]) (rest := []) nxE_stable hs ⟨hx, hb, hml, hown, hts⟩ (cC_X0_hasHouse l D h cy _ _ _ hw) (cwV 1 hts gX11_of_X0_hasHouse rfl rfl rfl (by decide +kernel) ⟨Nat.le_of_ble_eq_true rfl, Nat.le_of_ble_eq_true rfl⟩) (va_recv hK hP (ci := 0) (q0 := 1) rfl rfl) hK hP hD hS hA rfl hl.1 rfl (Nat.le_of_ble_eq_true rfl) dX11_of_5 ⟨Nat.zero_le _, Nat.zero_le _⟩ (fun r_1 S_2 H locs hw hP hD hS => ?_)
  obtain ⟨hc_3t, hc_3f⟩ := hw
  refine lv_if_ne (tgt := 14) hx hb dX11_of_8 (by decide) (fun c_3 => ?_) (fun c_3 => ?_)
  · have hw := hc_3f c_3
    clear hc_3t hc_3f
    refine lv_iload_n hx hb dX11_of_14 rfl (lv_at hl 2 rfl) ?_
    obtain ⟨hc_4, hw⟩ := hw
    by_cases c_4 : p2 = 0
    · have hw := hc_4 c_4
      refine lv_tableIn (off := 41) (tgt := 56) hx hb dX11_of_15 (by rw [c_4]; decide) (by rw [c_4]; decide) (by rw [c_4]; rfl) (by decide) ?_
      refine lv_aload_n hx hb dX11_of_56 rfl (lv_at hl 0 rfl) ?_
      refine va_get (D := D) (ci := 10) (v := .ref (h 1)) (C := RX11) (T := TX11) (N := 9) hx hb hts hin11 hown hK hP 0 rfl rfl 0 (by decide) w10 (fun _ h9 => h9) rfl dX11_of_57 ?_
      refine va_get (D := D) (ci := 0) (v := .ref (h 13)) (C := RX0) (T := TX0) (N := 16) hx hb hts hin0 hown hK hP 1 rfl rfl 2 (by decide) w200 (fun _ h9 => h9) rfl dX11_of_60 ?_
      refine lv_iload_n hx hb dX11_of_63 rfl (lv_at hl 1 rfl) ?_
      refine e_callSi (As := [.ref (h 13), .int p1]) (rest := []) nxE_stable hs ⟨hx, hb, hml, hown, hts⟩ (cA_at l D nxE (tyC cy) (wC h cy) S_2 13 1 _ _ 6 (cx_c_kinds S_2) rfl rfl (by decide) _ (fun r S0 => r = k_at 6 (cx_c_kinds S_2) p1 ∧ S_2 = S0) ⟨rfl, rfl⟩) (va_cwS 2 hts gX11_of_X11_at rfl rfl rfl (by decide +kernel) ⟨Nat.le_of_ble_eq_true rfl, Nat.le_of_ble_eq_true rfl⟩) hK hP hD hS hA rfl hl.1 rfl (Nat.le_of_ble_eq_true rfl) dX11_of_64 ⟨Nat.zero_le _, Nat.zero_le _⟩ (fun r_ S_ H locs hq hP hD hS => ?_)
      obtain ⟨rfl, rfl⟩ := hq
      exact W.iret (v := k_at 6 (cx_c_kinds S_2) p1) hx hb hr (fun t ht hW => ⟨⟨k_at 6 (cx_c_kinds S_2) p1, S_2, rfl, hw, by rw [ht]; exact hP, va_K.moved hW.alike hK, hD⟩, hS.F ht⟩) hS.2.2 dX11_of_67
    obtain ⟨hc_7, hw⟩ := hw
    by_cases c_7 : p2 = 1
    · have hw := hc_7 c_7
      refine lv_tableIn (off := 53) (tgt := 68) hx hb dX11_of_15 (by rw [c_7]; decide) (by rw [c_7]; decide) (by rw [c_7]; rfl) (by decide) ?_
      refine lv_aload_n hx hb dX11_of_68 rfl (lv_at hl 0 rfl) ?_
      refine va_get (D := D) (ci := 10) (v := .ref (h 1)) (C := RX11) (T := TX11) (N := 9) hx hb hts hin11 hown hK hP 0 rfl rfl 0 (by decide) w10 (fun _ h9 => h9) rfl dX11_of_69 ?_
      refine lv_iconst (v := 0) hx hb dX11_of_72 (by decide) ?_
      refine lv_iload_n hx hb dX11_of_73 rfl (lv_at hl 1 rfl) ?_
      refine e_callVi (As := [.int 0, .int p1]) (rest := []) nxE_stable hs ⟨hx, hb, hml, hown, hts⟩ (cC_X0_see l D h cy _ _ _ _ hw) (cwV 2 hts gX11_of_X0_see rfl rfl rfl (by decide +kernel) ⟨Nat.le_of_ble_eq_true rfl, Nat.le_of_ble_eq_true rfl⟩) (va_recv hK hP (ci := 0) (q0 := 1) rfl rfl) hK hP hD hS hA rfl hl.1 rfl (Nat.le_of_ble_eq_true rfl) dX11_of_74 ⟨Nat.zero_le _, Nat.zero_le _⟩ (fun r_5 S_6 H locs hw hP hD hS => ?_)
      exact W.iret (v := r_5) hx hb hr (fun t ht hW => ⟨⟨r_5, S_6, rfl, hw, by rw [ht]; exact hP, va_K.moved hW.alike hK, hD⟩, hS.F ht⟩) hS.2.2 dX11_of_77
    obtain ⟨hc_10, hw⟩ := hw
    by_cases c_10 : p2 = 2
    · have hw := hc_10 c_10
      refine lv_tableIn (off := 63) (tgt := 78) hx hb dX11_of_15 (by rw [c_10]; decide) (by rw [c_10]; decide) (by rw [c_10]; rfl) (by decide) ?_
      refine lv_aload_n hx hb dX11_of_78 rfl (lv_at hl 0 rfl) ?_
      refine va_get (D := D) (ci := 10) (v := .ref (h 1)) (C := RX11) (T := TX11) (N := 9) hx hb hts hin11 hown hK hP 0 rfl rfl 0 (by decide) w10 (fun _ h9 => h9) rfl dX11_of_79 ?_
      refine lv_bipush (v := 6) hx hb dX11_of_82 (by decide) ?_
      refine lv_iload_n hx hb dX11_of_84 rfl (lv_at hl 1 rfl) ?_
      refine e_callVi (As := [.int 6, .int p1]) (rest := []) nxE_stable hs ⟨hx, hb, hml, hown, hts⟩ (cC_X0_see l D h cy _ _ _ _ hw) (cwV 2 hts gX11_of_X0_see rfl rfl rfl (by decide +kernel) ⟨Nat.le_of_ble_eq_true rfl, Nat.le_of_ble_eq_true rfl⟩) (va_recv hK hP (ci := 0) (q0 := 1) rfl rfl) hK hP hD hS hA rfl hl.1 rfl (Nat.le_of_ble_eq_true rfl) dX11_of_85 ⟨Nat.zero_le _, Nat.zero_le _⟩ (fun r_8 S_9 H locs hw hP hD hS => ?_)
      exact W.iret (v := r_8) hx hb hr (fun t ht hW => ⟨⟨r_8, S_9, rfl, hw, by rw [ht]; exact hP, va_K.moved hW.alike hK, hD⟩, hS.F ht⟩) hS.2.2 dX11_of_88
    obtain ⟨hc_13, hw⟩ := hw
    by_cases c_13 : p2 = 3
    · have hw := hc_13 c_13
      refine lv_tableIn (off := 74) (tgt := 89) hx hb dX11_of_15 (by rw [c_13]; decide) (by rw [c_13]; decide) (by rw [c_13]; rfl) (by decide) ?_
      refine lv_aload_n hx hb dX11_of_89 rfl (lv_at hl 0 rfl) ?_
      refine va_get (D := D) (ci := 10) (v := .ref (h 1)) (C := RX11) (T := TX11) (N := 9) hx hb hts hin11 hown hK hP 0 rfl rfl 0 (by decide) w10 (fun _ h9 => h9) rfl dX11_of_90 ?_
      refine lv_bipush (v := 12) hx hb dX11_of_93 (by decide) ?_
      refine lv_iload_n hx hb dX11_of_95 rfl (lv_at hl 1 rfl) ?_
      refine e_callVi (As := [.int 12, .int p1]) (rest := []) nxE_stable hs ⟨hx, hb, hml, hown, hts⟩ (cC_X0_see l D h cy _ _ _ _ hw) (cwV 2 hts gX11_of_X0_see rfl rfl rfl (by decide +kernel) ⟨Nat.le_of_ble_eq_true rfl, Nat.le_of_ble_eq_true rfl⟩) (va_recv hK hP (ci := 0) (q0 := 1) rfl rfl) hK hP hD hS hA rfl hl.1 rfl (Nat.le_of_ble_eq_true rfl) dX11_of_96 ⟨Nat.zero_le _, Nat.zero_le _⟩ (fun r_11 S_12 H locs hw hP hD hS => ?_)
      exact W.iret (v := r_11) hx hb hr (fun t ht hW => ⟨⟨r_11, S_12, rfl, hw, by rw [ht]; exact hP, va_K.moved hW.alike hK, hD⟩, hS.F ht⟩) hS.2.2 dX11_of_99
    obtain ⟨hc_16, hw⟩ := hw
    by_cases c_16 : p2 = 4
    · have hw := hc_16 c_16
      refine lv_tableIn (off := 85) (tgt := 100) hx hb dX11_of_15 (by rw [c_16]; decide) (by rw [c_16]; decide) (by rw [c_16]; rfl) (by decide) ?_
      refine lv_aload_n hx hb dX11_of_100 rfl (lv_at hl 0 rfl) ?_
      refine va_get (D := D) (ci := 10) (v := .ref (h 1)) (C := RX11) (T := TX11) (N := 9) hx hb hts hin11 hown hK hP 0 rfl rfl 0 (by decide) w10 (fun _ h9 => h9) rfl dX11_of_101 ?_
      refine lv_bipush (v := 18) hx hb dX11_of_104 (by decide) ?_
      refine lv_iload_n hx hb dX11_of_106 rfl (lv_at hl 1 rfl) ?_
      refine e_callVi (As := [.int 18, .int p1]) (rest := []) nxE_stable hs ⟨hx, hb, hml, hown, hts⟩ (cC_X0_see l D h cy _ _ _ _ hw) (cwV 2 hts gX11_of_X0_see rfl rfl rfl (by decide +kernel) ⟨Nat.le_of_ble_eq_true rfl, Nat.le_of_ble_eq_true rfl⟩) (va_recv hK hP (ci := 0) (q0 := 1) rfl rfl) hK hP hD hS hA rfl hl.1 rfl (Nat.le_of_ble_eq_true rfl) dX11_of_107 ⟨Nat.zero_le _, Nat.zero_le _⟩ (fun r_14 S_15 H locs hw hP hD hS => ?_)
      exact W.iret (v := r_14) hx hb hr (fun t ht hW => ⟨⟨r_14, S_15, rfl, hw, by rw [ht]; exact hP, va_K.moved hW.alike hK, hD⟩, hS.F ht⟩) hS.2.2 dX11_of_110
    obtain ⟨hc_21, hw⟩ := hw
    by_cases c_21 : p2 = 5
    · have hw := hc_21 c_21
      refine lv_tableIn (off := 96) (tgt := 111) hx hb dX11_of_15 (by rw [c_21]; decide) (by rw [c_21]; decide) (by rw [c_21]; rfl) (by decide) ?_
      refine lv_aload_n hx hb dX11_of_111 rfl (lv_at hl 0 rfl) ?_
      refine va_get (D := D) (ci := 10) (v := .ref (h 6)) (C := RX11) (T := TX11) (N := 9) hx hb hts hin11 hown hK hP 0 rfl rfl 3 (by decide) w31 (fun _ h9 => h9) rfl dX11_of_112 ?_
      refine lv_aload_n hx hb dX11_of_115 rfl (lv_at hl 0 rfl) ?_
      refine va_get (D := D) (ci := 10) (v := .ref (h 1)) (C := RX11) (T := TX11) (N := 9) hx hb hts hin11 hown hK hP 0 rfl rfl 0 (by decide) w10 (fun _ h9 => h9) rfl dX11_of_116 ?_
      refine lv_aload_n hx hb dX11_of_119 rfl (lv_at hl 0 rfl) ?_
      refine va_get (D := D) (ci := 10) (v := .ref (h 1)) (C := RX11) (T := TX11) (N := 9) hx hb hts hin11 hown hK hP 0 rfl rfl 0 (by decide) w10 (fun _ h9 => h9) rfl dX11_of_120 ?_
      refine va_get (D := D) (ci := 0) (v := .int (cx_c_ruling S_2)) (C := RX0) (T := TX0) (N := 16) hx hb hts hin0 hown hK hP 1 rfl rfl 8 (by decide) w127 (fun _ h9 => h9) rfl dX11_of_123 ?_
      refine e_callVq (As := [.int (cx_c_ruling S_2)]) (rest := [.ref (h 6)]) nxE_stable hs ⟨hx, hb, hml, hown, hts⟩ (cC_X0_textAt l D h cy _ _ _ hw) (cwV 1 hts gX11_of_X0_textAt rfl rfl rfl (by decide +kernel) ⟨Nat.le_of_ble_eq_true rfl, Nat.le_of_ble_eq_true rfl⟩) (va_recv hK hP (ci := 0) (q0 := 1) rfl rfl) hK hP hD hS hA rfl hl.1 rfl (Nat.le_of_ble_eq_true rfl) dX11_of_126 ⟨Nat.zero_le _, Nat.zero_le _⟩ (fun r_17 S_18 H locs hw hP hD hS => ?_)
      refine lv_iload_n hx hb dX11_of_129 rfl (lv_at hl 1 rfl) ?_
      refine e_callVi (As := [va_rf r_17, .int p1]) (rest := []) nxE_stable hs ⟨hx, hb, hml, hown, hts⟩ (cC_X3_growing l D h cy _ _ _ _ hw) (cwV 2 hts gX11_of_X3_growing rfl rfl rfl (by decide +kernel) ⟨Nat.le_of_ble_eq_true rfl, Nat.le_of_ble_eq_true rfl⟩) (va_recv hK hP (ci := 3) (q0 := 6) rfl rfl) hK hP hD hS hA rfl hl.1 rfl (Nat.le_of_ble_eq_true rfl) dX11_of_130 ⟨Nat.zero_le _, Nat.zero_le _⟩ (fun r_19 S_20 H locs hw hP hD hS => ?_)
      exact W.iret (v := r_19) hx hb hr (fun t ht hW => ⟨⟨r_19, S_20, rfl, hw, by rw [ht]; exact hP, va_K.moved hW.alike hK, hD⟩, hS.F ht⟩) hS.2.2 dX11_of_133
    obtain ⟨hc_24, hw⟩ := hw
    by_cases c_24 : p2 = 6
    · have hw := hc_24 c_24
      refine lv_tableIn (off := 119) (tgt := 134) hx hb dX11_of_15 (by rw [c_24]; decide) (by rw [c_24]; decide) (by rw [c_24]; rfl) (by decide) ?_
      refine lv_aload_n hx hb dX11_of_134 rfl (lv_at hl 0 rfl) ?_
      refine va_get (D := D) (ci := 10) (v := .ref (h 1)) (C := RX11) (T := TX11) (N := 9) hx hb hts hin11 hown hK hP 0 rfl rfl 0 (by decide) w10 (fun _ h9 => h9) rfl dX11_of_135 ?_
      refine lv_iload_n hx hb dX11_of_138 rfl (lv_at hl 1 rfl) ?_
      refine e_callVi (As := [.int p1]) (rest := []) nxE_stable hs ⟨hx, hb, hml, hown, hts⟩ (cC_X0_clownsAt l D h cy _ _ _ hw) (cwV 1 hts gX11_of_X0_clownsAt rfl rfl rfl (by decide +kernel) ⟨Nat.le_of_ble_eq_true rfl, Nat.le_of_ble_eq_true rfl⟩) (va_recv hK hP (ci := 0) (q0 := 1) rfl rfl) hK hP hD hS hA rfl hl.1 rfl (Nat.le_of_ble_eq_true rfl) dX11_of_139 ⟨Nat.zero_le _, Nat.zero_le _⟩ (fun r_22 S_23 H locs hw hP hD hS => ?_)
      exact W.iret (v := r_22) hx hb hr (fun t ht hW => ⟨⟨r_22, S_23, rfl, hw, by rw [ht]; exact hP, va_K.moved hW.alike hK, hD⟩, hS.F ht⟩) hS.2.2 dX11_of_142
    have hw := hw c_4 c_7 c_10 c_13 c_16 c_21 c_24
    have c_4n := lv_neT c_4 (a := 0) (by decide)
    have c_7n := lv_neT c_7 (a := 1) (by decide)
    have c_10n := lv_neT c_10 (a := 2) (by decide)
    have c_13n := lv_neT c_13 (a := 3) (by decide)
    have c_16n := lv_neT c_16 (a := 4) (by decide)
    have c_21n := lv_neT c_21 (a := 5) (by decide)
    have c_24n := lv_neT c_24 (a := 6) (by decide)
    refine lv_tableOut (tgt := 143) hx hb dX11_of_15 (by omega) (by decide) ?_
    refine lv_bipush (v := (-2)) hx hb dX11_of_143 (by decide) ?_
    exact W.iret (v := (-2)) hx hb hr (fun t ht hW => ⟨⟨(-2), S_2, rfl, hw, by rw [ht]; exact hP, va_K.moved hW.alike hK, hD⟩, hS.F ht⟩) hS.2.2 dX11_of_145
  · have hw := hc_3t c_3
    clear hc_3t hc_3f
    refine lv_bipush (v := (-2)) hx hb dX11_of_11 (by decide) ?_
    exact W.iret (v := (-2)) hx hb hr (fun t ht hW => ⟨⟨(-2), S_2, rfl, hw, by rw [ht]; exact hP, va_K.moved hW.alike hK, hD⟩, hS.F ht⟩) hS.2.2 dX11_of_13
def wC_X11_ofClown (p1 : Int32) (p2 : Int32) (S : CS) (post : Int32 → CS → Prop) : Prop := wC_X0_hasClown p1 S (fun r_1 S_2 => ((r_1 = 0 → post (-2) S_2) ∧ (¬ (r_1 = 0) → ((p2 = 0 → post (k_at 5 (cx_c_skills S_2) p1) S_2) ∧ (p2 = 1 → post (k_at 5 (cx_c_ages S_2) p1) S_2) ∧ (p2 = 2 → wC_X0_see 24 p1 S_2 (fun r_6 S_7 => post r_6 S_7)) ∧ (p2 = 3 → wC_X0_see 29 p1 S_2 (fun r_9 S_10 => post r_9 S_10)) ∧ (p2 = 4 → wC_X0_see 34 p1 S_2 (fun r_12 S_13 => post r_12 S_13)) ∧ (¬ p2 = 0 → ¬ p2 = 1 → ¬ p2 = 2 → ¬ p2 = 3 → ¬ p2 = 4 → post (-2) S_2)))))
set_option maxHeartbeats 4000000 in
set_option maxRecDepth 100000 in
theorem cC_X11_ofClown (l : Launch) (D : va_G) (h : Nat → Nat) (cy : Nat → ClassId) (p1 : Int32) (p2 : Int32) (S : CS) (post : Int32 → CS → Prop) (hw : wC_X11_ofClown p1 p2 S post) : e_Mi nxE l yX11_ofClown wsX11_ofClown { frames := 2, cells := 0, slots := 0, locals := 43 } D (tyC cy) (wC h cy) [.ref (h 0), .int p1, .int p2] S post := by
  intro sz
  refine Met.ofW (cc := cX11_ofClown) (maxL := 3) (ret := (some .int)) (by decide) rfl ?_
  intro p e s m args below meth c s₁ B hml hv
  obtain ⟨rfl, hsz, hP, hK, hD0, hs⟩ := hv
  have hx := B.exec
  have hb := B.bytes
  have hr := B.returns
  have hts := atoms_spec (ws := wsX11_ofClown) B.pre
  have hown : s.vm.findClass RX11 = some m.cls := findClass_of_methodNamed B.named
  have hlocks := B.notSynchronized
  subst hsz
  have hD := hD0.self (sz := s.heap.size)
  generalize hAe : va_A (wC h cy S) s.heap.size = A at hD ⊢
  have hA : ∀ q : Nat, s.heap.size ≤ q → A q := fun q h => by rw [← hAe]; exact Or.inr h
  have hS : va_S A s.heap s.heap [] := va_S.rf
  have hin11 : ∀ w ∈ wsX110, w ∈ wsX11_ofClown := fun _ h => List.mem_cons_of_mem _ (List.mem_append_left _ (List.mem_append_right _ h))
  have hin0 : ∀ w ∈ wsX00, w ∈ wsX11_ofClown := fun _ h => List.mem_cons_of_mem _ (List.mem_append_right _ h)
  have w10 := hts (.fieldLink RX11 10 "ClownsMourn" "city" "LClownsMourn$City;") (List.mem_of_getElem? (i := 1) rfl)
  have w217 := hts (.fieldLink RX11 217 "ClownsMourn$City" "skills" "[I") (List.mem_of_getElem? (i := 2) rfl)
  have w220 := hts (.fieldLink RX11 220 "ClownsMourn$City" "ages" "[I") (List.mem_of_getElem? (i := 3) rfl)
  have hl := lv_entry ([.ref (h 0), .int p1, .int p2]) (n := 3) (Nat.le_of_ble_eq_true rfl)
  rw [lg_entry_eq]
  generalize (lg_sl ([.ref (h 0), .int p1, .int p2]) ++ List.replicate (3 - (lg_sl ([.ref (h 0), .int p1, .int p2])).length) Slot.unset).toArray = ls at hl ⊢
  have hl : lv_has ls 3 [(0, .ref (h 0)), (1, .int p1), (2, .int p2)] := hl
  unfold wC_X11_ofClown at hw
  clear hD0
  refine lv_aload_n hx hb dX11_ofClown_0 rfl (lv_at hl 0 rfl) ?_
  refine va_get (D := D) (ci := 10) (v := .ref (h 1)) (C := RX11) (T := TX11) (N := 9) hx hb hts hin11 hown hK hP 0 rfl rfl 0 (by decide) w10 (fun _ h9 => h9) rfl dX11_ofClown_1 ?_
  refine lv_iload_n hx hb dX11_ofClown_4 rfl (lv_at hl 1 rfl) ?_
  refine e_callVi (As := [.int p1]) (rest := []) nxE_stable hs ⟨hx, hb, hml, hown, hts⟩ (cC_X0_hasClown l D h cy _ _ _ hw) (cwV 1 hts gX11_ofClown_X0_hasClown rfl rfl rfl (by decide +kernel) ⟨Nat.le_of_ble_eq_true rfl, Nat.le_of_ble_eq_true rfl⟩) (va_recv hK hP (ci := 0) (q0 := 1) rfl rfl) hK hP hD hS hA rfl hl.1 rfl (Nat.le_of_ble_eq_true rfl) dX11_ofClown_5 ⟨Nat.zero_le _, Nat.zero_le _⟩ (fun r_1 S_2 H locs hw hP hD hS => ?_)
  obtain ⟨hc_3t, hc_3f⟩ := hw
  refine lv_if_ne (tgt := 14) hx hb dX11_ofClown_8 (by decide) (fun c_3 => ?_) (fun c_3 => ?_)
  · have hw := hc_3f c_3
    clear hc_3t hc_3f
    refine lv_iload_n hx hb dX11_ofClown_14 rfl (lv_at hl 2 rfl) ?_
    obtain ⟨hc_4, hw⟩ := hw
    by_cases c_4 : p2 = 0
    · have hw := hc_4 c_4
      refine lv_tableIn (off := 33) (tgt := 48) hx hb dX11_ofClown_15 (by rw [c_4]; decide) (by rw [c_4]; decide) (by rw [c_4]; rfl) (by decide) ?_
      refine lv_aload_n hx hb dX11_ofClown_48 rfl (lv_at hl 0 rfl) ?_
      refine va_get (D := D) (ci := 10) (v := .ref (h 1)) (C := RX11) (T := TX11) (N := 9) hx hb hts hin11 hown hK hP 0 rfl rfl 0 (by decide) w10 (fun _ h9 => h9) rfl dX11_ofClown_49 ?_
      refine va_get (D := D) (ci := 0) (v := .ref (h 14)) (C := RX0) (T := TX0) (N := 16) hx hb hts hin0 hown hK hP 1 rfl rfl 3 (by decide) w217 (fun _ h9 => h9) rfl dX11_ofClown_52 ?_
      refine lv_iload_n hx hb dX11_ofClown_55 rfl (lv_at hl 1 rfl) ?_
      refine e_callSi (As := [.ref (h 14), .int p1]) (rest := []) nxE_stable hs ⟨hx, hb, hml, hown, hts⟩ (cA_at l D nxE (tyC cy) (wC h cy) S_2 14 2 _ _ 5 (cx_c_skills S_2) rfl rfl (by decide) _ (fun r S0 => r = k_at 5 (cx_c_skills S_2) p1 ∧ S_2 = S0) ⟨rfl, rfl⟩) (va_cwS 2 hts gX11_ofClown_X11_at rfl rfl rfl (by decide +kernel) ⟨Nat.le_of_ble_eq_true rfl, Nat.le_of_ble_eq_true rfl⟩) hK hP hD hS hA rfl hl.1 rfl (Nat.le_of_ble_eq_true rfl) dX11_ofClown_56 ⟨Nat.zero_le _, Nat.zero_le _⟩ (fun r_ S_ H locs hq hP hD hS => ?_)
      obtain ⟨rfl, rfl⟩ := hq
      exact W.iret (v := k_at 5 (cx_c_skills S_2) p1) hx hb hr (fun t ht hW => ⟨⟨k_at 5 (cx_c_skills S_2) p1, S_2, rfl, hw, by rw [ht]; exact hP, va_K.moved hW.alike hK, hD⟩, hS.F ht⟩) hS.2.2 dX11_ofClown_59
    obtain ⟨hc_5, hw⟩ := hw
    by_cases c_5 : p2 = 1
    · have hw := hc_5 c_5
      refine lv_tableIn (off := 45) (tgt := 60) hx hb dX11_ofClown_15 (by rw [c_5]; decide) (by rw [c_5]; decide) (by rw [c_5]; rfl) (by decide) ?_
      refine lv_aload_n hx hb dX11_ofClown_60 rfl (lv_at hl 0 rfl) ?_
      refine va_get (D := D) (ci := 10) (v := .ref (h 1)) (C := RX11) (T := TX11) (N := 9) hx hb hts hin11 hown hK hP 0 rfl rfl 0 (by decide) w10 (fun _ h9 => h9) rfl dX11_ofClown_61 ?_
      refine va_get (D := D) (ci := 0) (v := .ref (h 15)) (C := RX0) (T := TX0) (N := 16) hx hb hts hin0 hown hK hP 1 rfl rfl 4 (by decide) w220 (fun _ h9 => h9) rfl dX11_ofClown_64 ?_
      refine lv_iload_n hx hb dX11_ofClown_67 rfl (lv_at hl 1 rfl) ?_
      refine e_callSi (As := [.ref (h 15), .int p1]) (rest := []) nxE_stable hs ⟨hx, hb, hml, hown, hts⟩ (cA_at l D nxE (tyC cy) (wC h cy) S_2 15 3 _ _ 5 (cx_c_ages S_2) rfl rfl (by decide) _ (fun r S0 => r = k_at 5 (cx_c_ages S_2) p1 ∧ S_2 = S0) ⟨rfl, rfl⟩) (va_cwS 2 hts gX11_ofClown_X11_at rfl rfl rfl (by decide +kernel) ⟨Nat.le_of_ble_eq_true rfl, Nat.le_of_ble_eq_true rfl⟩) hK hP hD hS hA rfl hl.1 rfl (Nat.le_of_ble_eq_true rfl) dX11_ofClown_68 ⟨Nat.zero_le _, Nat.zero_le _⟩ (fun r_ S_ H locs hq hP hD hS => ?_)
      obtain ⟨rfl, rfl⟩ := hq
      exact W.iret (v := k_at 5 (cx_c_ages S_2) p1) hx hb hr (fun t ht hW => ⟨⟨k_at 5 (cx_c_ages S_2) p1, S_2, rfl, hw, by rw [ht]; exact hP, va_K.moved hW.alike hK, hD⟩, hS.F ht⟩) hS.2.2 dX11_ofClown_71
    obtain ⟨hc_8, hw⟩ := hw
    by_cases c_8 : p2 = 2
    · have hw := hc_8 c_8
      refine lv_tableIn (off := 57) (tgt := 72) hx hb dX11_ofClown_15 (by rw [c_8]; decide) (by rw [c_8]; decide) (by rw [c_8]; rfl) (by decide) ?_
      refine lv_aload_n hx hb dX11_ofClown_72 rfl (lv_at hl 0 rfl) ?_
      refine va_get (D := D) (ci := 10) (v := .ref (h 1)) (C := RX11) (T := TX11) (N := 9) hx hb hts hin11 hown hK hP 0 rfl rfl 0 (by decide) w10 (fun _ h9 => h9) rfl dX11_ofClown_73 ?_
      refine lv_bipush (v := 24) hx hb dX11_ofClown_76 (by decide) ?_
      refine lv_iload_n hx hb dX11_ofClown_78 rfl (lv_at hl 1 rfl) ?_
      refine e_callVi (As := [.int 24, .int p1]) (rest := []) nxE_stable hs ⟨hx, hb, hml, hown, hts⟩ (cC_X0_see l D h cy _ _ _ _ hw) (cwV 2 hts gX11_ofClown_X0_see rfl rfl rfl (by decide +kernel) ⟨Nat.le_of_ble_eq_true rfl, Nat.le_of_ble_eq_true rfl⟩) (va_recv hK hP (ci := 0) (q0 := 1) rfl rfl) hK hP hD hS hA rfl hl.1 rfl (Nat.le_of_ble_eq_true rfl) dX11_ofClown_79 ⟨Nat.zero_le _, Nat.zero_le _⟩ (fun r_6 S_7 H locs hw hP hD hS => ?_)
      exact W.iret (v := r_6) hx hb hr (fun t ht hW => ⟨⟨r_6, S_7, rfl, hw, by rw [ht]; exact hP, va_K.moved hW.alike hK, hD⟩, hS.F ht⟩) hS.2.2 dX11_ofClown_82
    obtain ⟨hc_11, hw⟩ := hw
    by_cases c_11 : p2 = 3
    · have hw := hc_11 c_11
      refine lv_tableIn (off := 68) (tgt := 83) hx hb dX11_ofClown_15 (by rw [c_11]; decide) (by rw [c_11]; decide) (by rw [c_11]; rfl) (by decide) ?_
      refine lv_aload_n hx hb dX11_ofClown_83 rfl (lv_at hl 0 rfl) ?_
      refine va_get (D := D) (ci := 10) (v := .ref (h 1)) (C := RX11) (T := TX11) (N := 9) hx hb hts hin11 hown hK hP 0 rfl rfl 0 (by decide) w10 (fun _ h9 => h9) rfl dX11_ofClown_84 ?_
      refine lv_bipush (v := 29) hx hb dX11_ofClown_87 (by decide) ?_
      refine lv_iload_n hx hb dX11_ofClown_89 rfl (lv_at hl 1 rfl) ?_
      refine e_callVi (As := [.int 29, .int p1]) (rest := []) nxE_stable hs ⟨hx, hb, hml, hown, hts⟩ (cC_X0_see l D h cy _ _ _ _ hw) (cwV 2 hts gX11_ofClown_X0_see rfl rfl rfl (by decide +kernel) ⟨Nat.le_of_ble_eq_true rfl, Nat.le_of_ble_eq_true rfl⟩) (va_recv hK hP (ci := 0) (q0 := 1) rfl rfl) hK hP hD hS hA rfl hl.1 rfl (Nat.le_of_ble_eq_true rfl) dX11_ofClown_90 ⟨Nat.zero_le _, Nat.zero_le _⟩ (fun r_9 S_10 H locs hw hP hD hS => ?_)
      exact W.iret (v := r_9) hx hb hr (fun t ht hW => ⟨⟨r_9, S_10, rfl, hw, by rw [ht]; exact hP, va_K.moved hW.alike hK, hD⟩, hS.F ht⟩) hS.2.2 dX11_ofClown_93
    obtain ⟨hc_14, hw⟩ := hw
    by_cases c_14 : p2 = 4
    · have hw := hc_14 c_14
      refine lv_tableIn (off := 79) (tgt := 94) hx hb dX11_ofClown_15 (by rw [c_14]; decide) (by rw [c_14]; decide) (by rw [c_14]; rfl) (by decide) ?_
      refine lv_aload_n hx hb dX11_ofClown_94 rfl (lv_at hl 0 rfl) ?_
      refine va_get (D := D) (ci := 10) (v := .ref (h 1)) (C := RX11) (T := TX11) (N := 9) hx hb hts hin11 hown hK hP 0 rfl rfl 0 (by decide) w10 (fun _ h9 => h9) rfl dX11_ofClown_95 ?_
      refine lv_bipush (v := 34) hx hb dX11_ofClown_98 (by decide) ?_
      refine lv_iload_n hx hb dX11_ofClown_100 rfl (lv_at hl 1 rfl) ?_
      refine e_callVi (As := [.int 34, .int p1]) (rest := []) nxE_stable hs ⟨hx, hb, hml, hown, hts⟩ (cC_X0_see l D h cy _ _ _ _ hw) (cwV 2 hts gX11_ofClown_X0_see rfl rfl rfl (by decide +kernel) ⟨Nat.le_of_ble_eq_true rfl, Nat.le_of_ble_eq_true rfl⟩) (va_recv hK hP (ci := 0) (q0 := 1) rfl rfl) hK hP hD hS hA rfl hl.1 rfl (Nat.le_of_ble_eq_true rfl) dX11_ofClown_101 ⟨Nat.zero_le _, Nat.zero_le _⟩ (fun r_12 S_13 H locs hw hP hD hS => ?_)
      exact W.iret (v := r_12) hx hb hr (fun t ht hW => ⟨⟨r_12, S_13, rfl, hw, by rw [ht]; exact hP, va_K.moved hW.alike hK, hD⟩, hS.F ht⟩) hS.2.2 dX11_ofClown_104
    have hw := hw c_4 c_5 c_8 c_11 c_14
    have c_4n := lv_neT c_4 (a := 0) (by decide)
    have c_5n := lv_neT c_5 (a := 1) (by decide)
    have c_8n := lv_neT c_8 (a := 2) (by decide)
    have c_11n := lv_neT c_11 (a := 3) (by decide)
    have c_14n := lv_neT c_14 (a := 4) (by decide)
    refine lv_tableOut (tgt := 105) hx hb dX11_ofClown_15 (by omega) (by decide) ?_
    refine lv_bipush (v := (-2)) hx hb dX11_ofClown_105 (by decide) ?_
    exact W.iret (v := (-2)) hx hb hr (fun t ht hW => ⟨⟨(-2), S_2, rfl, hw, by rw [ht]; exact hP, va_K.moved hW.alike hK, hD⟩, hS.F ht⟩) hS.2.2 dX11_ofClown_107
  · have hw := hc_3t c_3
    clear hc_3t hc_3f
    refine lv_bipush (v := (-2)) hx hb dX11_ofClown_11 (by decide) ?_
    exact W.iret (v := (-2)) hx hb hr (fun t ht hW => ⟨⟨(-2), S_2, rfl, hw, by rw [ht]; exact hP, va_K.moved hW.alike hK, hD⟩, hS.F ht⟩) hS.2.2 dX11_ofClown_13
def wC_X11_eased (p1 : Int32) (p2 : Int32) (S : CS) (post : Int32 → CS → Prop) : Prop := wC_X0_isOut p1 S (fun r_1 S_2 => ((r_1 = 0 → post (-1) S_2) ∧ (¬ (r_1 = 0) → wC_X11_isFall p2 S_2 (fun r_4 S_5 => ((r_4 = 0 → post (-1) S_5) ∧ (¬ (r_4 = 0) → wC_X3_easing p1 p2 S_5 (fun r_7 S_8 => post r_7 S_8)))))))
set_option maxHeartbeats 4000000 in
set_option maxRecDepth 100000 in
theorem cC_X11_eased (l : Launch) (D : va_G) (h : Nat → Nat) (cy : Nat → ClassId) (p1 : Int32) (p2 : Int32) (S : CS) (post : Int32 → CS → Prop) (hw : wC_X11_eased p1 p2 S post) : e_Mi nxE l yX11_eased wsX11_eased { frames := 4, cells := 0, slots := 0, locals := 99 } D (tyC cy) (wC h cy) [.ref (h 0), .int p1, .int p2] S post := by
  intro sz
  refine Met.ofW (cc := cX11_eased) (maxL := 3) (ret := (some .int)) (by decide) rfl ?_
  intro p e s m args below meth c s₁ B hml hv
  obtain ⟨rfl, hsz, hP, hK, hD0, hs⟩ := hv
  have hx := B.exec
  have hb := B.bytes
  have hr := B.returns
  have hts := atoms_spec (ws := wsX11_eased) B.pre
  have hown : s.vm.findClass RX11 = some m.cls := findClass_of_methodNamed B.named
  have hlocks := B.notSynchronized
  subst hsz
  have hD := hD0.self (sz := s.heap.size)
  generalize hAe : va_A (wC h cy S) s.heap.size = A at hD ⊢
  have hA : ∀ q : Nat, s.heap.size ≤ q → A q := fun q h => by rw [← hAe]; exact Or.inr h
  have hS : va_S A s.heap s.heap [] := va_S.rf
  have hin11 : ∀ w ∈ wsX110, w ∈ wsX11_eased := fun _ h => List.mem_cons_of_mem _ (List.mem_append_left _ (List.mem_append_left _ (List.mem_append_left _ (List.mem_append_right _ h))))
  have hin0 : ∀ w ∈ wsX00, w ∈ wsX11_eased := fun _ h => List.mem_cons_of_mem _ (List.mem_append_left _ (List.mem_append_left _ (List.mem_append_right _ h)))
  have hin3 : ∀ w ∈ wsX30, w ∈ wsX11_eased := fun _ h => List.mem_cons_of_mem _ (List.mem_append_left _ (List.mem_append_right _ h))
  have hin9 : ∀ w ∈ wsX90, w ∈ wsX11_eased := fun _ h => List.mem_cons_of_mem _ (List.mem_append_right _ h)
  have w10 := hts (.fieldLink RX11 10 "ClownsMourn" "city" "LClownsMourn$City;") (List.mem_of_getElem? (i := 1) rfl)
  have w31 := hts (.fieldLink RX11 31 "ClownsMourn" "laws" "LClownsMourn$Laws;") (List.mem_of_getElem? (i := 2) rfl)
  have hl := lv_entry ([.ref (h 0), .int p1, .int p2]) (n := 3) (Nat.le_of_ble_eq_true rfl)
  rw [lg_entry_eq]
  generalize (lg_sl ([.ref (h 0), .int p1, .int p2]) ++ List.replicate (3 - (lg_sl ([.ref (h 0), .int p1, .int p2])).length) Slot.unset).toArray = ls at hl ⊢
  have hl : lv_has ls 3 [(0, .ref (h 0)), (1, .int p1), (2, .int p2)] := hl
  unfold wC_X11_eased at hw
  clear hD0
  refine lv_aload_n hx hb dX11_eased_0 rfl (lv_at hl 0 rfl) ?_
  refine va_get (D := D) (ci := 10) (v := .ref (h 1)) (C := RX11) (T := TX11) (N := 9) hx hb hts hin11 hown hK hP 0 rfl rfl 0 (by decide) w10 (fun _ h9 => h9) rfl dX11_eased_1 ?_
  refine lv_iload_n hx hb dX11_eased_4 rfl (lv_at hl 1 rfl) ?_
  refine e_callVi (As := [.int p1]) (rest := []) nxE_stable hs ⟨hx, hb, hml, hown, hts⟩ (cC_X0_isOut l D h cy _ _ _ hw) (cwV 1 hts gX11_eased_X0_isOut rfl rfl rfl (by decide +kernel) ⟨Nat.le_of_ble_eq_true rfl, Nat.le_of_ble_eq_true rfl⟩) (va_recv hK hP (ci := 0) (q0 := 1) rfl rfl) hK hP hD hS hA rfl hl.1 rfl (Nat.le_of_ble_eq_true rfl) dX11_eased_5 ⟨Nat.zero_le _, Nat.zero_le _⟩ (fun r_1 S_2 H locs hw hP hD hS => ?_)
  obtain ⟨hc_3t, hc_3f⟩ := hw
  refine lv_if_eq (tgt := 30) hx hb dX11_eased_8 (by decide) (fun c_3 => ?_) (fun c_3 => ?_)
  · have hw := hc_3t c_3
    clear hc_3t hc_3f
    refine lv_iconst (v := (-1)) hx hb dX11_eased_30 (by decide) ?_
    exact W.iret (v := (-1)) hx hb hr (fun t ht hW => ⟨⟨(-1), S_2, rfl, hw, by rw [ht]; exact hP, va_K.moved hW.alike hK, hD⟩, hS.F ht⟩) hS.2.2 dX11_eased_31
  · have hw := hc_3f c_3
    clear hc_3t hc_3f
    refine lv_iload_n hx hb dX11_eased_11 rfl (lv_at hl 2 rfl) ?_
    refine e_callSi (As := [.int p2]) (rest := []) nxE_stable hs ⟨hx, hb, hml, hown, hts⟩ (cC_X11_isFall l D h cy _ _ _ hw) (va_cwS 1 hts gX11_eased_X11_isFall rfl rfl rfl (by decide +kernel) ⟨Nat.le_of_ble_eq_true rfl, Nat.le_of_ble_eq_true rfl⟩) hK hP hD hS hA rfl hl.1 rfl (Nat.le_of_ble_eq_true rfl) dX11_eased_12 ⟨Nat.zero_le _, Nat.zero_le _⟩ (fun r_4 S_5 H locs hw hP hD hS => ?_)
    obtain ⟨hc_6t, hc_6f⟩ := hw
    refine lv_if_eq (tgt := 30) hx hb dX11_eased_15 (by decide) (fun c_6 => ?_) (fun c_6 => ?_)
    · have hw := hc_6t c_6
      clear hc_6t hc_6f
      refine lv_iconst (v := (-1)) hx hb dX11_eased_30 (by decide) ?_
      exact W.iret (v := (-1)) hx hb hr (fun t ht hW => ⟨⟨(-1), S_5, rfl, hw, by rw [ht]; exact hP, va_K.moved hW.alike hK, hD⟩, hS.F ht⟩) hS.2.2 dX11_eased_31
    · have hw := hc_6f c_6
      clear hc_6t hc_6f
      refine lv_aload_n hx hb dX11_eased_18 rfl (lv_at hl 0 rfl) ?_
      refine va_get (D := D) (ci := 10) (v := .ref (h 6)) (C := RX11) (T := TX11) (N := 9) hx hb hts hin11 hown hK hP 0 rfl rfl 3 (by decide) w31 (fun _ h9 => h9) rfl dX11_eased_19 ?_
      refine lv_iload_n hx hb dX11_eased_22 rfl (lv_at hl 1 rfl) ?_
      refine lv_iload_n hx hb dX11_eased_23 rfl (lv_at hl 2 rfl) ?_
      refine e_callVi (As := [.int p1, .int p2]) (rest := []) nxE_stable hs ⟨hx, hb, hml, hown, hts⟩ (cC_X3_easing l D h cy _ _ _ _ hw) (cwV 2 hts gX11_eased_X3_easing rfl rfl rfl (by decide +kernel) ⟨Nat.le_of_ble_eq_true rfl, Nat.le_of_ble_eq_true rfl⟩) (va_recv hK hP (ci := 3) (q0 := 6) rfl rfl) hK hP hD hS hA rfl hl.1 rfl (Nat.le_of_ble_eq_true rfl) dX11_eased_24 ⟨Nat.zero_le _, Nat.zero_le _⟩ (fun r_7 S_8 H locs hw hP hD hS => ?_)
      refine lv_goto (tgt := 31) hx hb dX11_eased_27 (by decide) ?_
      exact W.iret (v := r_7) hx hb hr (fun t ht hW => ⟨⟨r_7, S_8, rfl, hw, by rw [ht]; exact hP, va_K.moved hW.alike hK, hD⟩, hS.F ht⟩) hS.2.2 dX11_eased_31
def wC_X2_oddsOfFall (p1 : Int32) (p2 : Int32) (S : CS) (post : Int32 → CS → Prop) : Prop := wC_X0_see 29 p1 S (fun r_1 S_2 => wC_X0_see 0 r_1 S_2 (fun r_3 S_4 => wC_X0_see 6 r_1 S_4 (fun r_5 S_6 => wC_X3_easing p1 p2 S_6 (fun r_7 S_8 => wC_X2_moves r_1 p2 r_7 S_8 (fun S_10 => wC_X3_laughing p1 p2 S_10 (fun r_11 S_12 => wC_X0_set 0 r_1 r_3 S_12 (fun S_14 => wC_X0_set 6 r_1 r_5 S_14 (fun S_16 => post r_11 S_16))))))))
set_option maxHeartbeats 4000000 in
set_option maxRecDepth 100000 in
theorem cC_X2_oddsOfFall (l : Launch) (D : va_G) (h : Nat → Nat) (cy : Nat → ClassId) (p1 : Int32) (p2 : Int32) (S : CS) (post : Int32 → CS → Prop) (hw : wC_X2_oddsOfFall p1 p2 S post) : e_Mi nxE l yX2_oddsOfFall wsX2_oddsOfFall { frames := 4, cells := 0, slots := 0, locals := 100 } D (tyC cy) (wC h cy) [.ref (h 7), .int p1, .int p2] S post := by
  intro sz
  refine Met.ofW (cc := cX2_oddsOfFall) (maxL := 7) (ret := (some .int)) (by decide) rfl ?_
  intro p e s m args below meth c s₁ B hml hv
  obtain ⟨rfl, hsz, hP, hK, hD0, hs⟩ := hv
  have hx := B.exec
  have hb := B.bytes
  have hr := B.returns
  have hts := atoms_spec (ws := wsX2_oddsOfFall) B.pre
  have hown : s.vm.findClass RX2 = some m.cls := findClass_of_methodNamed B.named
  have hlocks := B.notSynchronized
  subst hsz
  have hD := hD0.self (sz := s.heap.size)
  generalize hAe : va_A (wC h cy S) s.heap.size = A at hD ⊢
  have hA : ∀ q : Nat, s.heap.size ≤ q → A q := fun q h => by rw [← hAe]; exact Or.inr h
  have hS : va_S A s.heap s.heap [] := va_S.rf
  have hin2 : ∀ w ∈ wsX20, w ∈ wsX2_oddsOfFall := fun _ h => List.mem_cons_of_mem _ (List.mem_append_left _ (List.mem_append_left _ (List.mem_append_left _ (List.mem_append_right _ h))))
  have hin0 : ∀ w ∈ wsX00, w ∈ wsX2_oddsOfFall := fun _ h => List.mem_cons_of_mem _ (List.mem_append_left _ (List.mem_append_left _ (List.mem_append_right _ h)))
  have hin3 : ∀ w ∈ wsX30, w ∈ wsX2_oddsOfFall := fun _ h => List.mem_cons_of_mem _ (List.mem_append_left _ (List.mem_append_right _ h))
  have hin9 : ∀ w ∈ wsX90, w ∈ wsX2_oddsOfFall := fun _ h => List.mem_cons_of_mem _ (List.mem_append_right _ h)
  have w17 := hts (.fieldLink RX2 17 "ClownsMourn$Guild" "city" "LClownsMourn$City;") (List.mem_of_getElem? (i := 1) rfl)
  have w21 := hts (.fieldLink RX2 21 "ClownsMourn$Guild" "laws" "LClownsMourn$Laws;") (List.mem_of_getElem? (i := 2) rfl)
  have hl := lv_entry ([.ref (h 7), .int p1, .int p2]) (n := 7) (Nat.le_of_ble_eq_true rfl)
  rw [lg_entry_eq]
  generalize (lg_sl ([.ref (h 7), .int p1, .int p2]) ++ List.replicate (7 - (lg_sl ([.ref (h 7), .int p1, .int p2])).length) Slot.unset).toArray = ls at hl ⊢
  have hl : lv_has ls 7 [(0, .ref (h 7)), (1, .int p1), (2, .int p2)] := hl
  unfold wC_X2_oddsOfFall at hw
  clear hD0
  refine lv_aload_n hx hb dX2_oddsOfFall_0 rfl (lv_at hl 0 rfl) ?_
  refine va_get (D := D) (ci := 2) (v := .ref (h 1)) (C := RX2) (T := TX2) (N := 3) hx hb hts hin2 hown hK hP 7 rfl rfl 0 (by decide) w17 (fun _ h9 => h9) rfl dX2_oddsOfFall_1 ?_
  refine lv_bipush (v := 29) hx hb dX2_oddsOfFall_4 (by decide) ?_
  refine lv_iload_n hx hb dX2_oddsOfFall_6 rfl (lv_at hl 1 rfl) ?_
  refine e_callVi (As := [.int 29, .int p1]) (rest := []) nxE_stable hs ⟨hx, hb, hml, hown, hts⟩ (cC_X0_see l D h cy _ _ _ _ hw) (cwV 2 hts gX2_oddsOfFall_X0_see rfl rfl rfl (by decide +kernel) ⟨Nat.le_of_ble_eq_true rfl, Nat.le_of_ble_eq_true rfl⟩) (va_recv hK hP (ci := 0) (q0 := 1) rfl rfl) hK hP hD hS hA rfl hl.1 rfl (Nat.le_of_ble_eq_true rfl) dX2_oddsOfFall_7 ⟨Nat.zero_le _, Nat.zero_le _⟩ (fun r_1 S_2 H locs hw hP hD hS => ?_)
  refine lv_istore_n (lv' := [(3, .int r_1), (0, .ref (h 7)), (1, .int p1), (2, .int p2)]) hx hb dX2_oddsOfFall_10 rfl hl (by decide) rfl (fun ls hl => ?_)
  refine lv_aload_n hx hb dX2_oddsOfFall_11 rfl (lv_at hl 1 rfl) ?_
  refine va_get (D := D) (ci := 2) (v := .ref (h 1)) (C := RX2) (T := TX2) (N := 3) hx hb hts hin2 hown hK hP 7 rfl rfl 0 (by decide) w17 (fun _ h9 => h9) rfl dX2_oddsOfFall_12 ?_
  refine lv_iconst (v := 0) hx hb dX2_oddsOfFall_15 (by decide) ?_
  refine lv_iload_n hx hb dX2_oddsOfFall_16 rfl (lv_at hl 0 rfl) ?_
  refine e_callVi (As := [.int 0, .int r_1]) (rest := []) nxE_stable hs ⟨hx, hb, hml, hown, hts⟩ (cC_X0_see l D h cy _ _ _ _ hw) (cwV 2 hts gX2_oddsOfFall_X0_see rfl rfl rfl (by decide +kernel) ⟨Nat.le_of_ble_eq_true rfl, Nat.le_of_ble_eq_true rfl⟩) (va_recv hK hP (ci := 0) (q0 := 1) rfl rfl) hK hP hD hS hA rfl hl.1 rfl (Nat.le_of_ble_eq_true rfl) dX2_oddsOfFall_17 ⟨Nat.zero_le _, Nat.zero_le _⟩ (fun r_3 S_4 H locs hw hP hD hS => ?_)
  refine lv_istore (lv' := [(4, .int r_3), (3, .int r_1), (0, .ref (h 7)), (1, .int p1), (2, .int p2)]) hx hb dX2_oddsOfFall_20 hl (by decide) rfl (fun ls hl => ?_)
  refine lv_aload_n hx hb dX2_oddsOfFall_22 rfl (lv_at hl 2 rfl) ?_
  refine va_get (D := D) (ci := 2) (v := .ref (h 1)) (C := RX2) (T := TX2) (N := 3) hx hb hts hin2 hown hK hP 7 rfl rfl 0 (by decide) w17 (fun _ h9 => h9) rfl dX2_oddsOfFall_23 ?_
  refine lv_bipush (v := 6) hx hb dX2_oddsOfFall_26 (by decide) ?_
  refine lv_iload_n hx hb dX2_oddsOfFall_28 rfl (lv_at hl 1 rfl) ?_
  refine e_callVi (As := [.int 6, .int r_1]) (rest := []) nxE_stable hs ⟨hx, hb, hml, hown, hts⟩ (cC_X0_see l D h cy _ _ _ _ hw) (cwV 2 hts gX2_oddsOfFall_X0_see rfl rfl rfl (by decide +kernel) ⟨Nat.le_of_ble_eq_true rfl, Nat.le_of_ble_eq_true rfl⟩) (va_recv hK hP (ci := 0) (q0 := 1) rfl rfl) hK hP hD hS hA rfl hl.1 rfl (Nat.le_of_ble_eq_true rfl) dX2_oddsOfFall_29 ⟨Nat.zero_le _, Nat.zero_le _⟩ (fun r_5 S_6 H locs hw hP hD hS => ?_)
  refine lv_istore (lv' := [(5, .int r_5), (4, .int r_3), (3, .int r_1), (0, .ref (h 7)), (1, .int p1), (2, .int p2)]) hx hb dX2_oddsOfFall_32 hl (by decide) rfl (fun ls hl => ?_)
  refine lv_aload_n hx hb dX2_oddsOfFall_34 rfl (lv_at hl 3 rfl) ?_
  refine lv_iload_n hx hb dX2_oddsOfFall_35 rfl (lv_at hl 2 rfl) ?_
  refine lv_iload_n hx hb dX2_oddsOfFall_36 rfl (lv_at hl 5 rfl) ?_
  refine lv_aload_n hx hb dX2_oddsOfFall_37 rfl (lv_at hl 3 rfl) ?_
  refine va_get (D := D) (ci := 2) (v := .ref (h 6)) (C := RX2) (T := TX2) (N := 3) hx hb hts hin2 hown hK hP 7 rfl rfl 1 (by decide) w21 (fun _ h9 => h9) rfl dX2_oddsOfFall_38 ?_
  refine lv_iload_n hx hb dX2_oddsOfFall_41 rfl (lv_at hl 4 rfl) ?_
  refine lv_iload_n hx hb dX2_oddsOfFall_42 rfl (lv_at hl 5 rfl) ?_
  refine e_callVi (As := [.int p1, .int p2]) (rest := [.int p2, .int r_1, .ref (h 7)]) nxE_stable hs ⟨hx, hb, hml, hown, hts⟩ (cC_X3_easing l D h cy _ _ _ _ hw) (cwV 2 hts gX2_oddsOfFall_X3_easing rfl rfl rfl (by decide +kernel) ⟨Nat.le_of_ble_eq_true rfl, Nat.le_of_ble_eq_true rfl⟩) (va_recv hK hP (ci := 3) (q0 := 6) rfl rfl) hK hP hD hS hA rfl hl.1 rfl (Nat.le_of_ble_eq_true rfl) dX2_oddsOfFall_43 ⟨Nat.zero_le _, Nat.zero_le _⟩ (fun r_7 S_8 H locs hw hP hD hS => ?_)
  refine e_callVv (As := [.int r_1, .int p2, .int r_7]) (rest := []) nxE_stable hs ⟨hx, hb, hml, hown, hts⟩ (cC_X2_moves l D h cy _ _ _ _ _ hw) (cwV 3 hts gX2_oddsOfFall_X2_moves rfl rfl rfl (by decide +kernel) ⟨Nat.le_of_ble_eq_true rfl, Nat.le_of_ble_eq_true rfl⟩) (va_recv hK hP (ci := 2) (q0 := 7) rfl rfl) hK hP hD hS hA rfl hl.1 rfl (Nat.le_of_ble_eq_true rfl) dX2_oddsOfFall_46 ⟨Nat.zero_le _, Nat.zero_le _⟩ (fun S_10 H locs hw hP hD hS => ?_)
  refine lv_aload_n hx hb dX2_oddsOfFall_49 rfl (lv_at hl 3 rfl) ?_
  refine va_get (D := D) (ci := 2) (v := .ref (h 6)) (C := RX2) (T := TX2) (N := 3) hx hb hts hin2 hown hK hP 7 rfl rfl 1 (by decide) w21 (fun _ h9 => h9) rfl dX2_oddsOfFall_50 ?_
  refine lv_iload_n hx hb dX2_oddsOfFall_53 rfl (lv_at hl 4 rfl) ?_
  refine lv_iload_n hx hb dX2_oddsOfFall_54 rfl (lv_at hl 5 rfl) ?_
  refine e_callVi (As := [.int p1, .int p2]) (rest := []) nxE_stable hs ⟨hx, hb, hml, hown, hts⟩ (cC_X3_laughing l D h cy _ _ _ _ hw) (cwV 2 hts gX2_oddsOfFall_X3_laughing rfl rfl rfl (by decide +kernel) ⟨Nat.le_of_ble_eq_true rfl, Nat.le_of_ble_eq_true rfl⟩) (va_recv hK hP (ci := 3) (q0 := 6) rfl rfl) hK hP hD hS hA rfl hl.1 rfl (Nat.le_of_ble_eq_true rfl) dX2_oddsOfFall_55 ⟨Nat.zero_le _, Nat.zero_le _⟩ (fun r_11 S_12 H locs hw hP hD hS => ?_)
  refine lv_istore (lv' := [(6, .int r_11), (5, .int r_5), (4, .int r_3), (3, .int r_1), (0, .ref (h 7)), (1, .int p1), (2, .int p2)]) hx hb dX2_oddsOfFall_58 hl (by decide) rfl (fun ls hl => ?_)
  refine lv_aload_n hx hb dX2_oddsOfFall_60 rfl (lv_at hl 4 rfl) ?_
  refine va_get (D := D) (ci := 2) (v := .ref (h 1)) (C := RX2) (T := TX2) (N := 3) hx hb hts hin2 hown hK hP 7 rfl rfl 0 (by decide) w17 (fun _ h9 => h9) rfl dX2_oddsOfFall_61 ?_
  refine lv_iconst (v := 0) hx hb dX2_oddsOfFall_64 (by decide) ?_
  refine lv_iload_n hx hb dX2_oddsOfFall_65 rfl (lv_at hl 3 rfl) ?_
  refine lv_iload hx hb dX2_oddsOfFall_66 (lv_at hl 2 rfl) ?_
  refine e_callVv (As := [.int 0, .int r_1, .int r_3]) (rest := []) nxE_stable hs ⟨hx, hb, hml, hown, hts⟩ (cC_X0_set l D h cy _ _ _ _ _ hw) (cwV 3 hts gX2_oddsOfFall_X0_set rfl rfl rfl (by decide +kernel) ⟨Nat.le_of_ble_eq_true rfl, Nat.le_of_ble_eq_true rfl⟩) (va_recv hK hP (ci := 0) (q0 := 1) rfl rfl) hK hP hD hS hA rfl hl.1 rfl (Nat.le_of_ble_eq_true rfl) dX2_oddsOfFall_68 ⟨Nat.zero_le _, Nat.zero_le _⟩ (fun S_14 H locs hw hP hD hS => ?_)
  refine lv_aload_n hx hb dX2_oddsOfFall_71 rfl (lv_at hl 4 rfl) ?_
  refine va_get (D := D) (ci := 2) (v := .ref (h 1)) (C := RX2) (T := TX2) (N := 3) hx hb hts hin2 hown hK hP 7 rfl rfl 0 (by decide) w17 (fun _ h9 => h9) rfl dX2_oddsOfFall_72 ?_
  refine lv_bipush (v := 6) hx hb dX2_oddsOfFall_75 (by decide) ?_
  refine lv_iload_n hx hb dX2_oddsOfFall_77 rfl (lv_at hl 3 rfl) ?_
  refine lv_iload hx hb dX2_oddsOfFall_78 (lv_at hl 1 rfl) ?_
  refine e_callVv (As := [.int 6, .int r_1, .int r_5]) (rest := []) nxE_stable hs ⟨hx, hb, hml, hown, hts⟩ (cC_X0_set l D h cy _ _ _ _ _ hw) (cwV 3 hts gX2_oddsOfFall_X0_set rfl rfl rfl (by decide +kernel) ⟨Nat.le_of_ble_eq_true rfl, Nat.le_of_ble_eq_true rfl⟩) (va_recv hK hP (ci := 0) (q0 := 1) rfl rfl) hK hP hD hS hA rfl hl.1 rfl (Nat.le_of_ble_eq_true rfl) dX2_oddsOfFall_80 ⟨Nat.zero_le _, Nat.zero_le _⟩ (fun S_16 H locs hw hP hD hS => ?_)
  refine lv_iload hx hb dX2_oddsOfFall_83 (lv_at hl 0 rfl) ?_
  exact W.iret (v := r_11) hx hb hr (fun t ht hW => ⟨⟨r_11, S_16, rfl, hw, by rw [ht]; exact hP, va_K.moved hW.alike hK, hD⟩, hS.F ht⟩) hS.2.2 dX2_oddsOfFall_85
def wC_X11_laughs (p1 : Int32) (p2 : Int32) (S : CS) (post : Int32 → CS → Prop) : Prop := wC_X0_isOut p1 S (fun r_1 S_2 => ((r_1 = 0 → post (-1) S_2) ∧ (¬ (r_1 = 0) → wC_X11_isFall p2 S_2 (fun r_4 S_5 => ((r_4 = 0 → post (-1) S_5) ∧ (¬ (r_4 = 0) → wC_X2_oddsOfFall p1 p2 S_5 (fun r_7 S_8 => post r_7 S_8)))))))
set_option maxHeartbeats 4000000 in
set_option maxRecDepth 100000 in
theorem cC_X11_laughs (l : Launch) (D : va_G) (h : Nat → Nat) (cy : Nat → ClassId) (p1 : Int32) (p2 : Int32) (S : CS) (post : Int32 → CS → Prop) (hw : wC_X11_laughs p1 p2 S post) : e_Mi nxE l yX11_laughs wsX11_laughs { frames := 5, cells := 0, slots := 0, locals := 126 } D (tyC cy) (wC h cy) [.ref (h 0), .int p1, .int p2] S post := by
  intro sz
  refine Met.ofW (cc := cX11_laughs) (maxL := 3) (ret := (some .int)) (by decide) rfl ?_
  intro p e s m args below meth c s₁ B hml hv
  obtain ⟨rfl, hsz, hP, hK, hD0, hs⟩ := hv
  have hx := B.exec
  have hb := B.bytes
  have hr := B.returns
  have hts := atoms_spec (ws := wsX11_laughs) B.pre
  have hown : s.vm.findClass RX11 = some m.cls := findClass_of_methodNamed B.named
  have hlocks := B.notSynchronized
  subst hsz
  have hD := hD0.self (sz := s.heap.size)
  generalize hAe : va_A (wC h cy S) s.heap.size = A at hD ⊢
  have hA : ∀ q : Nat, s.heap.size ≤ q → A q := fun q h => by rw [← hAe]; exact Or.inr h
  have hS : va_S A s.heap s.heap [] := va_S.rf
  have hin11 : ∀ w ∈ wsX110, w ∈ wsX11_laughs := fun _ h => List.mem_cons_of_mem _ (List.mem_append_left _ (List.mem_append_left _ (List.mem_append_left _ (List.mem_append_left _ (List.mem_append_right _ h)))))
  have hin0 : ∀ w ∈ wsX00, w ∈ wsX11_laughs := fun _ h => List.mem_cons_of_mem _ (List.mem_append_left _ (List.mem_append_left _ (List.mem_append_left _ (List.mem_append_right _ h))))
  have hin2 : ∀ w ∈ wsX20, w ∈ wsX11_laughs := fun _ h => List.mem_cons_of_mem _ (List.mem_append_left _ (List.mem_append_left _ (List.mem_append_right _ h)))
  have hin3 : ∀ w ∈ wsX30, w ∈ wsX11_laughs := fun _ h => List.mem_cons_of_mem _ (List.mem_append_left _ (List.mem_append_right _ h))
  have hin9 : ∀ w ∈ wsX90, w ∈ wsX11_laughs := fun _ h => List.mem_cons_of_mem _ (List.mem_append_right _ h)
  have w10 := hts (.fieldLink RX11 10 "ClownsMourn" "city" "LClownsMourn$City;") (List.mem_of_getElem? (i := 1) rfl)
  have w40 := hts (.fieldLink RX11 40 "ClownsMourn" "guild" "LClownsMourn$Guild;") (List.mem_of_getElem? (i := 2) rfl)
  have hl := lv_entry ([.ref (h 0), .int p1, .int p2]) (n := 3) (Nat.le_of_ble_eq_true rfl)
  rw [lg_entry_eq]
  generalize (lg_sl ([.ref (h 0), .int p1, .int p2]) ++ List.replicate (3 - (lg_sl ([.ref (h 0), .int p1, .int p2])).length) Slot.unset).toArray = ls at hl ⊢
  have hl : lv_has ls 3 [(0, .ref (h 0)), (1, .int p1), (2, .int p2)] := hl
  unfold wC_X11_laughs at hw
  clear hD0
  refine lv_aload_n hx hb dX11_laughs_0 rfl (lv_at hl 0 rfl) ?_
  refine va_get (D := D) (ci := 10) (v := .ref (h 1)) (C := RX11) (T := TX11) (N := 9) hx hb hts hin11 hown hK hP 0 rfl rfl 0 (by decide) w10 (fun _ h9 => h9) rfl dX11_laughs_1 ?_
  refine lv_iload_n hx hb dX11_laughs_4 rfl (lv_at hl 1 rfl) ?_
  refine e_callVi (As := [.int p1]) (rest := []) nxE_stable hs ⟨hx, hb, hml, hown, hts⟩ (cC_X0_isOut l D h cy _ _ _ hw) (cwV 1 hts gX11_laughs_X0_isOut rfl rfl rfl (by decide +kernel) ⟨Nat.le_of_ble_eq_true rfl, Nat.le_of_ble_eq_true rfl⟩) (va_recv hK hP (ci := 0) (q0 := 1) rfl rfl) hK hP hD hS hA rfl hl.1 rfl (Nat.le_of_ble_eq_true rfl) dX11_laughs_5 ⟨Nat.zero_le _, Nat.zero_le _⟩ (fun r_1 S_2 H locs hw hP hD hS => ?_)
  obtain ⟨hc_3t, hc_3f⟩ := hw
  refine lv_if_eq (tgt := 30) hx hb dX11_laughs_8 (by decide) (fun c_3 => ?_) (fun c_3 => ?_)
  · have hw := hc_3t c_3
    clear hc_3t hc_3f
    refine lv_iconst (v := (-1)) hx hb dX11_laughs_30 (by decide) ?_
    exact W.iret (v := (-1)) hx hb hr (fun t ht hW => ⟨⟨(-1), S_2, rfl, hw, by rw [ht]; exact hP, va_K.moved hW.alike hK, hD⟩, hS.F ht⟩) hS.2.2 dX11_laughs_31
  · have hw := hc_3f c_3
    clear hc_3t hc_3f
    refine lv_iload_n hx hb dX11_laughs_11 rfl (lv_at hl 2 rfl) ?_
    refine e_callSi (As := [.int p2]) (rest := []) nxE_stable hs ⟨hx, hb, hml, hown, hts⟩ (cC_X11_isFall l D h cy _ _ _ hw) (va_cwS 1 hts gX11_laughs_X11_isFall rfl rfl rfl (by decide +kernel) ⟨Nat.le_of_ble_eq_true rfl, Nat.le_of_ble_eq_true rfl⟩) hK hP hD hS hA rfl hl.1 rfl (Nat.le_of_ble_eq_true rfl) dX11_laughs_12 ⟨Nat.zero_le _, Nat.zero_le _⟩ (fun r_4 S_5 H locs hw hP hD hS => ?_)
    obtain ⟨hc_6t, hc_6f⟩ := hw
    refine lv_if_eq (tgt := 30) hx hb dX11_laughs_15 (by decide) (fun c_6 => ?_) (fun c_6 => ?_)
    · have hw := hc_6t c_6
      clear hc_6t hc_6f
      refine lv_iconst (v := (-1)) hx hb dX11_laughs_30 (by decide) ?_
      exact W.iret (v := (-1)) hx hb hr (fun t ht hW => ⟨⟨(-1), S_5, rfl, hw, by rw [ht]; exact hP, va_K.moved hW.alike hK, hD⟩, hS.F ht⟩) hS.2.2 dX11_laughs_31
    · have hw := hc_6f c_6
      clear hc_6t hc_6f
      refine lv_aload_n hx hb dX11_laughs_18 rfl (lv_at hl 0 rfl) ?_
      refine va_get (D := D) (ci := 10) (v := .ref (h 7)) (C := RX11) (T := TX11) (N := 9) hx hb hts hin11 hown hK hP 0 rfl rfl 4 (by decide) w40 (fun _ h9 => h9) rfl dX11_laughs_19 ?_
      refine lv_iload_n hx hb dX11_laughs_22 rfl (lv_at hl 1 rfl) ?_
      refine lv_iload_n hx hb dX11_laughs_23 rfl (lv_at hl 2 rfl) ?_
      refine e_callVi (As := [.int p1, .int p2]) (rest := []) nxE_stable hs ⟨hx, hb, hml, hown, hts⟩ (cC_X2_oddsOfFall l D h cy _ _ _ _ hw) (cwV 2 hts gX11_laughs_X2_oddsOfFall rfl rfl rfl (by decide +kernel) ⟨Nat.le_of_ble_eq_true rfl, Nat.le_of_ble_eq_true rfl⟩) (va_recv hK hP (ci := 2) (q0 := 7) rfl rfl) hK hP hD hS hA rfl hl.1 rfl (Nat.le_of_ble_eq_true rfl) dX11_laughs_24 ⟨Nat.zero_le _, Nat.zero_le _⟩ (fun r_7 S_8 H locs hw hP hD hS => ?_)
      refine lv_goto (tgt := 31) hx hb dX11_laughs_27 (by decide) ?_
      exact W.iret (v := r_7) hx hb hr (fun t ht hW => ⟨⟨r_7, S_8, rfl, hw, by rw [ht]; exact hP, va_K.moved hW.alike hK, hD⟩, hS.F ht⟩) hS.2.2 dX11_laughs_31
def wC_X11_is (p1 : Int32) (S : CS) (post : Int32 → CS → Prop) : Prop := ((p1 = 0 → wC_X0_today S (fun r_1 S_2 => post r_1 S_2)) ∧ (p1 = 1 → wC_X0_see 40 0 S (fun r_4 S_5 => post r_4 S_5)) ∧ (¬ p1 = 0 → ¬ p1 = 1 → post (-2) S))
set_option maxHeartbeats 4000000 in
set_option maxRecDepth 100000 in
theorem cC_X11_is (l : Launch) (D : va_G) (h : Nat → Nat) (cy : Nat → ClassId) (p1 : Int32) (S : CS) (post : Int32 → CS → Prop) (hw : wC_X11_is p1 S post) : e_Mi nxE l yX11_is wsX11_is { frames := 2, cells := 0, slots := 0, locals := 43 } D (tyC cy) (wC h cy) [.ref (h 0), .int p1] S post := by
  intro sz
  refine Met.ofW (cc := cX11_is) (maxL := 2) (ret := (some .int)) (by decide) rfl ?_
  intro p e s m args below meth c s₁ B hml hv
  obtain ⟨rfl, hsz, hP, hK, hD0, hs⟩ := hv
  have hx := B.exec
  have hb := B.bytes
  have hr := B.returns
  have hts := atoms_spec (ws := wsX11_is) B.pre
  have hown : s.vm.findClass RX11 = some m.cls := findClass_of_methodNamed B.named
  have hlocks := B.notSynchronized
  subst hsz
  have hD := hD0.self (sz := s.heap.size)
  generalize hAe : va_A (wC h cy S) s.heap.size = A at hD ⊢
  have hA : ∀ q : Nat, s.heap.size ≤ q → A q := fun q h => by rw [← hAe]; exact Or.inr h
  have hS : va_S A s.heap s.heap [] := va_S.rf
  have hin11 : ∀ w ∈ wsX110, w ∈ wsX11_is := fun _ h => List.mem_cons_of_mem _ (List.mem_append_left _ (List.mem_append_right _ h))
  have hin0 : ∀ w ∈ wsX00, w ∈ wsX11_is := fun _ h => List.mem_cons_of_mem _ (List.mem_append_right _ h)
  have w10 := hts (.fieldLink RX11 10 "ClownsMourn" "city" "LClownsMourn$City;") (List.mem_of_getElem? (i := 1) rfl)
  have hl := lv_entry ([.ref (h 0), .int p1]) (n := 2) (Nat.le_of_ble_eq_true rfl)
  rw [lg_entry_eq]
  generalize (lg_sl ([.ref (h 0), .int p1]) ++ List.replicate (2 - (lg_sl ([.ref (h 0), .int p1])).length) Slot.unset).toArray = ls at hl ⊢
  have hl : lv_has ls 2 [(0, .ref (h 0)), (1, .int p1)] := hl
  unfold wC_X11_is at hw
  clear hD0
  refine lv_iload_n hx hb dX11_is_0 rfl (lv_at hl 1 rfl) ?_
  obtain ⟨hc_3, hw⟩ := hw
  by_cases c_3 : p1 = 0
  · have hw := hc_3 c_3
    refine lv_lookup (off := 27) (tgt := 28) hx hb dX11_is_1 (by decide) (by rw [c_3]; decide) (by decide) ?_
    refine lv_aload_n hx hb dX11_is_28 rfl (lv_at hl 0 rfl) ?_
    refine va_get (D := D) (ci := 10) (v := .ref (h 1)) (C := RX11) (T := TX11) (N := 9) hx hb hts hin11 hown hK hP 0 rfl rfl 0 (by decide) w10 (fun _ h9 => h9) rfl dX11_is_29 ?_
    refine e_callVi (As := []) (rest := []) nxE_stable hs ⟨hx, hb, hml, hown, hts⟩ (cC_X0_today l D h cy _ _ hw) (cwV 0 hts gX11_is_X0_today rfl rfl rfl (by decide +kernel) ⟨Nat.le_of_ble_eq_true rfl, Nat.le_of_ble_eq_true rfl⟩) (va_recv hK hP (ci := 0) (q0 := 1) rfl rfl) hK hP hD hS hA rfl hl.1 rfl (Nat.le_of_ble_eq_true rfl) dX11_is_32 ⟨Nat.zero_le _, Nat.zero_le _⟩ (fun r_1 S_2 H locs hw hP hD hS => ?_)
    exact W.iret (v := r_1) hx hb hr (fun t ht hW => ⟨⟨r_1, S_2, rfl, hw, by rw [ht]; exact hP, va_K.moved hW.alike hK, hD⟩, hS.F ht⟩) hS.2.2 dX11_is_35
  obtain ⟨hc_6, hw⟩ := hw
  by_cases c_6 : p1 = 1
  · have hw := hc_6 c_6
    refine lv_lookup (off := 35) (tgt := 36) hx hb dX11_is_1 (by decide) (by rw [c_6]; decide) (by decide) ?_
    refine lv_aload_n hx hb dX11_is_36 rfl (lv_at hl 0 rfl) ?_
    refine va_get (D := D) (ci := 10) (v := .ref (h 1)) (C := RX11) (T := TX11) (N := 9) hx hb hts hin11 hown hK hP 0 rfl rfl 0 (by decide) w10 (fun _ h9 => h9) rfl dX11_is_37 ?_
    refine lv_bipush (v := 40) hx hb dX11_is_40 (by decide) ?_
    refine lv_iconst (v := 0) hx hb dX11_is_42 (by decide) ?_
    refine e_callVi (As := [.int 40, .int 0]) (rest := []) nxE_stable hs ⟨hx, hb, hml, hown, hts⟩ (cC_X0_see l D h cy _ _ _ _ hw) (cwV 2 hts gX11_is_X0_see rfl rfl rfl (by decide +kernel) ⟨Nat.le_of_ble_eq_true rfl, Nat.le_of_ble_eq_true rfl⟩) (va_recv hK hP (ci := 0) (q0 := 1) rfl rfl) hK hP hD hS hA rfl hl.1 rfl (Nat.le_of_ble_eq_true rfl) dX11_is_43 ⟨Nat.zero_le _, Nat.zero_le _⟩ (fun r_4 S_5 H locs hw hP hD hS => ?_)
    exact W.iret (v := r_4) hx hb hr (fun t ht hW => ⟨⟨r_4, S_5, rfl, hw, by rw [ht]; exact hP, va_K.moved hW.alike hK, hD⟩, hS.F ht⟩) hS.2.2 dX11_is_46
  have hw := hw c_3 c_6
  have c_3n := lv_neT c_3 (a := 0) (by decide)
  have c_6n := lv_neT c_6 (a := 1) (by decide)
  refine lv_lookup (off := 46) (tgt := 47) hx hb dX11_is_1 (by decide) (by simp [Op.lookupswitch.offset, c_3n, Ne.symm c_3n, c_6n, Ne.symm c_6n]) (by decide) ?_
  refine lv_bipush (v := (-2)) hx hb dX11_is_47 (by decide) ?_
  exact W.iret (v := (-2)) hx hb hr (fun t ht hW => ⟨⟨(-2), S, rfl, hw, by rw [ht]; exact hP, va_K.moved hW.alike hK, hD⟩, hS.F ht⟩) hS.2.2 dX11_is_49
def wC_X11_book (p1 : Int32) (p2 : Int32) (S : CS) (post : Int32 → CS → Prop) : Prop := wC_X0_see 41 0 S (fun r_1 S_2 => ((p1 = (-1) → post r_1 S_2) ∧ (¬ (p1 = (-1)) → wC_X11_within p1 0 (r_1 - 1) S_2 (fun r_4 S_5 => ((r_4 = 0 → post (-2) S_5) ∧ (¬ (r_4 = 0) → wC_X0_see 42 p1 S_5 (fun r_7 S_8 => ((p2 = 0 → post (k_shr r_7 6) S_8) ∧ (p2 = 1 → post ((k_shr r_7 3) &&& 7) S_8) ∧ (p2 = 2 → post (r_7 &&& 7) S_8) ∧ (¬ p2 = 0 → ¬ p2 = 1 → ¬ p2 = 2 → post (-2) S_8)))))))))
set_option maxHeartbeats 4000000 in
set_option maxRecDepth 100000 in
theorem cC_X11_book (l : Launch) (D : va_G) (h : Nat → Nat) (cy : Nat → ClassId) (p1 : Int32) (p2 : Int32) (S : CS) (post : Int32 → CS → Prop) (hw : wC_X11_book p1 p2 S post) : e_Mi nxE l yX11_book wsX11_book { frames := 2, cells := 0, slots := 0, locals := 43 } D (tyC cy) (wC h cy) [.ref (h 0), .int p1, .int p2] S post := by
  intro sz
  refine Met.ofW (cc := cX11_book) (maxL := 5) (ret := (some .int)) (by decide) rfl ?_
  intro p e s m args below meth c s₁ B hml hv
  obtain ⟨rfl, hsz, hP, hK, hD0, hs⟩ := hv
  have hx := B.exec
  have hb := B.bytes
  have hr := B.returns
  have hts := atoms_spec (ws := wsX11_book) B.pre
  have hown : s.vm.findClass RX11 = some m.cls := findClass_of_methodNamed B.named
  have hlocks := B.notSynchronized
  subst hsz
  have hD := hD0.self (sz := s.heap.size)
  generalize hAe : va_A (wC h cy S) s.heap.size = A at hD ⊢
  have hA : ∀ q : Nat, s.heap.size ≤ q → A q := fun q h => by rw [← hAe]; exact Or.inr h
  have hS : va_S A s.heap s.heap [] := va_S.rf
  have hin11 : ∀ w ∈ wsX110, w ∈ wsX11_book := fun _ h => List.mem_cons_of_mem _ (List.mem_append_left _ (List.mem_append_right _ h))
  have hin0 : ∀ w ∈ wsX00, w ∈ wsX11_book := fun _ h => List.mem_cons_of_mem _ (List.mem_append_right _ h)
  have w10 := hts (.fieldLink RX11 10 "ClownsMourn" "city" "LClownsMourn$City;") (List.mem_of_getElem? (i := 1) rfl)
  have hl := lv_entry ([.ref (h 0), .int p1, .int p2]) (n := 5) (Nat.le_of_ble_eq_true rfl)
  rw [lg_entry_eq]
  generalize (lg_sl ([.ref (h 0), .int p1, .int p2]) ++ List.replicate (5 - (lg_sl ([.ref (h 0), .int p1, .int p2])).length) Slot.unset).toArray = ls at hl ⊢
  have hl : lv_has ls 5 [(0, .ref (h 0)), (1, .int p1), (2, .int p2)] := hl
  unfold wC_X11_book at hw
  clear hD0
  refine lv_aload_n hx hb dX11_book_0 rfl (lv_at hl 0 rfl) ?_
  refine va_get (D := D) (ci := 10) (v := .ref (h 1)) (C := RX11) (T := TX11) (N := 9) hx hb hts hin11 hown hK hP 0 rfl rfl 0 (by decide) w10 (fun _ h9 => h9) rfl dX11_book_1 ?_
  refine lv_bipush (v := 41) hx hb dX11_book_4 (by decide) ?_
  refine lv_iconst (v := 0) hx hb dX11_book_6 (by decide) ?_
  refine e_callVi (As := [.int 41, .int 0]) (rest := []) nxE_stable hs ⟨hx, hb, hml, hown, hts⟩ (cC_X0_see l D h cy _ _ _ _ hw) (cwV 2 hts gX11_book_X0_see rfl rfl rfl (by decide +kernel) ⟨Nat.le_of_ble_eq_true rfl, Nat.le_of_ble_eq_true rfl⟩) (va_recv hK hP (ci := 0) (q0 := 1) rfl rfl) hK hP hD hS hA rfl hl.1 rfl (Nat.le_of_ble_eq_true rfl) dX11_book_7 ⟨Nat.zero_le _, Nat.zero_le _⟩ (fun r_1 S_2 H locs hw hP hD hS => ?_)
  refine lv_istore_n (lv' := [(3, .int r_1), (0, .ref (h 0)), (1, .int p1), (2, .int p2)]) hx hb dX11_book_10 rfl hl (by decide) rfl (fun ls hl => ?_)
  refine lv_iload_n hx hb dX11_book_11 rfl (lv_at hl 2 rfl) ?_
  refine lv_iconst (v := (-1)) hx hb dX11_book_12 (by decide) ?_
  obtain ⟨hc_3t, hc_3f⟩ := hw
  refine lv_icmp_ne (tgt := 18) hx hb dX11_book_13 (by decide) (fun c_3 => ?_) (fun c_3 => ?_)
  · have hw := hc_3f c_3
    clear hc_3t hc_3f
    refine lv_iload_n hx hb dX11_book_18 rfl (lv_at hl 2 rfl) ?_
    refine lv_iconst (v := 0) hx hb dX11_book_19 (by decide) ?_
    refine lv_iload_n hx hb dX11_book_20 rfl (lv_at hl 0 rfl) ?_
    refine lv_iconst (v := 1) hx hb dX11_book_21 (by decide) ?_
    refine lv_isub hx hb dX11_book_22 ?_
    refine e_callSi (As := [.int p1, .int 0, .int (r_1 - 1)]) (rest := []) nxE_stable hs ⟨hx, hb, hml, hown, hts⟩ (cC_X11_within l D h cy _ _ _ _ _ hw) (va_cwS 3 hts gX11_book_X11_within rfl rfl rfl (by decide +kernel) ⟨Nat.le_of_ble_eq_true rfl, Nat.le_of_ble_eq_true rfl⟩) hK hP hD hS hA rfl hl.1 rfl (Nat.le_of_ble_eq_true rfl) dX11_book_23 ⟨Nat.zero_le _, Nat.zero_le _⟩ (fun r_4 S_5 H locs hw hP hD hS => ?_)
    obtain ⟨hc_6t, hc_6f⟩ := hw
    refine lv_if_ne (tgt := 32) hx hb dX11_book_26 (by decide) (fun c_6 => ?_) (fun c_6 => ?_)
    · have hw := hc_6f c_6
      clear hc_6t hc_6f
      refine lv_aload_n hx hb dX11_book_32 rfl (lv_at hl 1 rfl) ?_
      refine va_get (D := D) (ci := 10) (v := .ref (h 1)) (C := RX11) (T := TX11) (N := 9) hx hb hts hin11 hown hK hP 0 rfl rfl 0 (by decide) w10 (fun _ h9 => h9) rfl dX11_book_33 ?_
      refine lv_bipush (v := 42) hx hb dX11_book_36 (by decide) ?_
      refine lv_iload_n hx hb dX11_book_38 rfl (lv_at hl 2 rfl) ?_
      refine e_callVi (As := [.int 42, .int p1]) (rest := []) nxE_stable hs ⟨hx, hb, hml, hown, hts⟩ (cC_X0_see l D h cy _ _ _ _ hw) (cwV 2 hts gX11_book_X0_see rfl rfl rfl (by decide +kernel) ⟨Nat.le_of_ble_eq_true rfl, Nat.le_of_ble_eq_true rfl⟩) (va_recv hK hP (ci := 0) (q0 := 1) rfl rfl) hK hP hD hS hA rfl hl.1 rfl (Nat.le_of_ble_eq_true rfl) dX11_book_39 ⟨Nat.zero_le _, Nat.zero_le _⟩ (fun r_7 S_8 H locs hw hP hD hS => ?_)
      refine lv_istore (lv' := [(4, .int r_7), (3, .int r_1), (0, .ref (h 0)), (1, .int p1), (2, .int p2)]) hx hb dX11_book_42 hl (by decide) rfl (fun ls hl => ?_)
      refine lv_iload_n hx hb dX11_book_44 rfl (lv_at hl 4 rfl) ?_
      obtain ⟨hc_9, hw⟩ := hw
      by_cases c_9 : p2 = 0
      · have hw := hc_9 c_9
        refine lv_tableIn (off := 27) (tgt := 72) hx hb dX11_book_45 (by rw [c_9]; decide) (by rw [c_9]; decide) (by rw [c_9]; rfl) (by decide) ?_
        refine lv_iload hx hb dX11_book_72 (lv_at hl 0 rfl) ?_
        refine lv_bipush (v := 6) hx hb dX11_book_74 (by decide) ?_
        refine k_ishr hx hb dX11_book_76 ?_
        exact W.iret (v := k_shr r_7 6) hx hb hr (fun t ht hW => ⟨⟨k_shr r_7 6, S_8, rfl, hw, by rw [ht]; exact hP, va_K.moved hW.alike hK, hD⟩, hS.F ht⟩) hS.2.2 dX11_book_77
      obtain ⟨hc_10, hw⟩ := hw
      by_cases c_10 : p2 = 1
      · have hw := hc_10 c_10
        refine lv_tableIn (off := 33) (tgt := 78) hx hb dX11_book_45 (by rw [c_10]; decide) (by rw [c_10]; decide) (by rw [c_10]; rfl) (by decide) ?_
        refine lv_iload hx hb dX11_book_78 (lv_at hl 0 rfl) ?_
        refine lv_iconst (v := 3) hx hb dX11_book_80 (by decide) ?_
        refine k_ishr hx hb dX11_book_81 ?_
        refine lv_bipush (v := 7) hx hb dX11_book_82 (by decide) ?_
        refine lv_iand hx hb dX11_book_84 ?_
        exact W.iret (v := (k_shr r_7 3) &&& 7) hx hb hr (fun t ht hW => ⟨⟨(k_shr r_7 3) &&& 7, S_8, rfl, hw, by rw [ht]; exact hP, va_K.moved hW.alike hK, hD⟩, hS.F ht⟩) hS.2.2 dX11_book_85
      obtain ⟨hc_11, hw⟩ := hw
      by_cases c_11 : p2 = 2
      · have hw := hc_11 c_11
        refine lv_tableIn (off := 41) (tgt := 86) hx hb dX11_book_45 (by rw [c_11]; decide) (by rw [c_11]; decide) (by rw [c_11]; rfl) (by decide) ?_
        refine lv_iload hx hb dX11_book_86 (lv_at hl 0 rfl) ?_
        refine lv_bipush (v := 7) hx hb dX11_book_88 (by decide) ?_
        refine lv_iand hx hb dX11_book_90 ?_
        exact W.iret (v := r_7 &&& 7) hx hb hr (fun t ht hW => ⟨⟨r_7 &&& 7, S_8, rfl, hw, by rw [ht]; exact hP, va_K.moved hW.alike hK, hD⟩, hS.F ht⟩) hS.2.2 dX11_book_91
      have hw := hw c_9 c_10 c_11
      have c_9n := lv_neT c_9 (a := 0) (by decide)
      have c_10n := lv_neT c_10 (a := 1) (by decide)
      have c_11n := lv_neT c_11 (a := 2) (by decide)
      refine lv_tableOut (tgt := 92) hx hb dX11_book_45 (by omega) (by decide) ?_
      refine lv_bipush (v := (-2)) hx hb dX11_book_92 (by decide) ?_
      exact W.iret (v := (-2)) hx hb hr (fun t ht hW => ⟨⟨(-2), S_8, rfl, hw, by rw [ht]; exact hP, va_K.moved hW.alike hK, hD⟩, hS.F ht⟩) hS.2.2 dX11_book_94
    · have hw := hc_6t c_6
      clear hc_6t hc_6f
      refine lv_bipush (v := (-2)) hx hb dX11_book_29 (by decide) ?_
      exact W.iret (v := (-2)) hx hb hr (fun t ht hW => ⟨⟨(-2), S_5, rfl, hw, by rw [ht]; exact hP, va_K.moved hW.alike hK, hD⟩, hS.F ht⟩) hS.2.2 dX11_book_31
  · have hw := hc_3t c_3
    clear hc_3t hc_3f
    refine lv_iload_n hx hb dX11_book_16 rfl (lv_at hl 0 rfl) ?_
    exact W.iret (v := r_1) hx hb hr (fun t ht hW => ⟨⟨r_1, S_2, rfl, hw, by rw [ht]; exact hP, va_K.moved hW.alike hK, hD⟩, hS.F ht⟩) hS.2.2 dX11_book_17
def wC_X2_endForetelling (S : CS) (post : CS → Prop) : Prop := (∀ S_1 : CS, S_1 = (cx_set_c_now S (k_copyW 74 74 (cx_g_asItIs S) (cx_c_now S))) → post S_1)
set_option maxHeartbeats 4000000 in
set_option maxRecDepth 100000 in
theorem cC_X2_endForetelling (l : Launch) (D : va_G) (h : Nat → Nat) (cy : Nat → ClassId) (S : CS) (post : CS → Prop) (hw : wC_X2_endForetelling S post) : e_Mv nxE l yX2_endForetelling wsX2_endForetelling { frames := 3, cells := 0, slots := 0, locals := 105 } D (tyC cy) (wC h cy) [.ref (h 7)] S post := by
  intro sz
  refine Met.ofW (cc := cX2_endForetelling) (maxL := 1) (ret := none) (by decide) rfl ?_
  intro p e s m args below meth c s₁ B hml hv
  obtain ⟨rfl, hsz, hP, hK, hD0, hs⟩ := hv
  have hx := B.exec
  have hb := B.bytes
  have hr := B.returns
  have hts := atoms_spec (ws := wsX2_endForetelling) B.pre
  have hown : s.vm.findClass RX2 = some m.cls := findClass_of_methodNamed B.named
  have hlocks := B.notSynchronized
  subst hsz
  have hD := hD0.self (sz := s.heap.size)
  generalize hAe : va_A (wC h cy S) s.heap.size = A at hD ⊢
  have hA : ∀ q : Nat, s.heap.size ≤ q → A q := fun q h => by rw [← hAe]; exact Or.inr h
  have hS : va_S A s.heap s.heap [] := va_S.rf
  have hin2 : ∀ w ∈ wsX20, w ∈ wsX2_endForetelling := fun _ h => List.mem_cons_of_mem _ (List.mem_append_left _ (List.mem_append_right _ h))
  have hin0 : ∀ w ∈ wsX00, w ∈ wsX2_endForetelling := fun _ h => List.mem_cons_of_mem _ (List.mem_append_right _ h)
  have w11 := hts (.fieldLink RX2 11 "ClownsMourn$Guild" "asItIs" "[I") (List.mem_of_getElem? (i := 1) rfl)
  have w120 := hts (.fieldLink RX2 120 "ClownsMourn$City" "now" "[I") (List.mem_of_getElem? (i := 3) rfl)
  have w17 := hts (.fieldLink RX2 17 "ClownsMourn$Guild" "city" "LClownsMourn$City;") (List.mem_of_getElem? (i := 2) rfl)
  have wiX11 := hts (.initialized RX11) (List.mem_of_getElem? (i := 5) rfl)
  have wstcopyWhole := hts (.static yX11_copyWhole) (List.mem_of_getElem? (i := 4) rfl)
  have hl := lv_entry ([.ref (h 7)]) (n := 1) (Nat.le_of_ble_eq_true rfl)
  rw [lg_entry_eq]
  generalize (lg_sl ([.ref (h 7)]) ++ List.replicate (1 - (lg_sl ([.ref (h 7)])).length) Slot.unset).toArray = ls at hl ⊢
  have hl : lv_has ls 1 [(0, .ref (h 7))] := hl
  unfold wC_X2_endForetelling at hw
  clear hD0
  refine lv_aload_n hx hb dX2_endForetelling_0 rfl (lv_at hl 0 rfl) ?_
  refine va_get (D := D) (ci := 2) (v := .ref (h 42)) (C := RX2) (T := TX2) (N := 3) hx hb hts hin2 hown hK hP 7 rfl rfl 2 (by decide) w11 (fun _ h9 => h9) rfl dX2_endForetelling_1 ?_
  refine lv_aload_n hx hb dX2_endForetelling_4 rfl (lv_at hl 0 rfl) ?_
  refine va_get (D := D) (ci := 2) (v := .ref (h 1)) (C := RX2) (T := TX2) (N := 3) hx hb hts hin2 hown hK hP 7 rfl rfl 0 (by decide) w17 (fun _ h9 => h9) rfl dX2_endForetelling_5 ?_
  refine va_get (D := D) (ci := 0) (v := .ref (h 12)) (C := RX0) (T := TX0) (N := 16) hx hb hts hin0 hown hK hP 1 rfl rfl 0 (by decide) w120 (fun _ h9 => h9) rfl dX2_endForetelling_8 ?_
  refine e_callNv (As := [.ref (h 42), .ref (h 12)]) (rest := []) nxE_stable hs ⟨hx, hb, hml, hown, hts⟩ (cA_copyWhole l D nxE nxE_stable (tyC cy) (wC h cy) S 42 30 12 0 _ _ _ _ 74 74 cx_g_asItIs cx_c_now cx_set_c_now rfl rfl (wCs_c_now h cy S) rfl rfl (by decide) (by decide) (fun S0 => S0 = (cx_set_c_now S (k_copyW 74 74 (cx_g_asItIs S) (cx_c_now S)))) rfl) ⟨va_cnB 2 hts gX2_endForetelling_X11_copyWhole_n123 rfl rfl rfl hs.2.2.2.2.2.2.2.2.2.2.2.2.2.2.2.2.2.2.2.1 wiX11 (by decide +kernel) ⟨Nat.le_of_ble_eq_true rfl, Nat.le_of_ble_eq_true rfl⟩, wstcopyWhole, trivial⟩ hK hP hD hS hA rfl hl.1 rfl (Nat.le_of_ble_eq_true rfl) dX2_endForetelling_11 ⟨Nat.zero_le _, Nat.zero_le _⟩ (fun S_1 H locs eS_1 hP hD hS => ?_)
  replace hw := hw S_1 eS_1
  exact W.vret hx hb hr (fun t ht hW => ⟨⟨S_1, rfl, hw, by rw [ht]; exact hP, va_K.moved hW.alike hK, hD⟩, hS.F ht⟩) hS.2.2 dX2_endForetelling_14
def wC_X2_beginForetelling (S : CS) (post : CS → Prop) : Prop := (∀ S_1 : CS, S_1 = (cx_set_g_asItIs S (k_copyW 74 74 (cx_c_now S) (cx_g_asItIs S))) → post S_1)
set_option maxHeartbeats 4000000 in
set_option maxRecDepth 100000 in
theorem cC_X2_beginForetelling (l : Launch) (D : va_G) (h : Nat → Nat) (cy : Nat → ClassId) (S : CS) (post : CS → Prop) (hw : wC_X2_beginForetelling S post) : e_Mv nxE l yX2_beginForetelling wsX2_beginForetelling { frames := 3, cells := 0, slots := 0, locals := 105 } D (tyC cy) (wC h cy) [.ref (h 7)] S post := by
  intro sz
  refine Met.ofW (cc := cX2_beginForetelling) (maxL := 1) (ret := none) (by decide) rfl ?_
  intro p e s m args below meth c s₁ B hml hv
  obtain ⟨rfl, hsz, hP, hK, hD0, hs⟩ := hv
  have hx := B.exec
  have hb := B.bytes
  have hr := B.returns
  have hts := atoms_spec (ws := wsX2_beginForetelling) B.pre
  have hown : s.vm.findClass RX2 = some m.cls := findClass_of_methodNamed B.named
  have hlocks := B.notSynchronized
  subst hsz
  have hD := hD0.self (sz := s.heap.size)
  generalize hAe : va_A (wC h cy S) s.heap.size = A at hD ⊢
  have hA : ∀ q : Nat, s.heap.size ≤ q → A q := fun q h => by rw [← hAe]; exact Or.inr h
  have hS : va_S A s.heap s.heap [] := va_S.rf
  have hin2 : ∀ w ∈ wsX20, w ∈ wsX2_beginForetelling := fun _ h => List.mem_cons_of_mem _ (List.mem_append_left _ (List.mem_append_right _ h))
  have hin0 : ∀ w ∈ wsX00, w ∈ wsX2_beginForetelling := fun _ h => List.mem_cons_of_mem _ (List.mem_append_right _ h)
  have w11 := hts (.fieldLink RX2 11 "ClownsMourn$Guild" "asItIs" "[I") (List.mem_of_getElem? (i := 3) rfl)
  have w120 := hts (.fieldLink RX2 120 "ClownsMourn$City" "now" "[I") (List.mem_of_getElem? (i := 2) rfl)
  have w17 := hts (.fieldLink RX2 17 "ClownsMourn$Guild" "city" "LClownsMourn$City;") (List.mem_of_getElem? (i := 1) rfl)
  have wiX11 := hts (.initialized RX11) (List.mem_of_getElem? (i := 5) rfl)
  have wstcopyWhole := hts (.static yX11_copyWhole) (List.mem_of_getElem? (i := 4) rfl)
  have hl := lv_entry ([.ref (h 7)]) (n := 1) (Nat.le_of_ble_eq_true rfl)
  rw [lg_entry_eq]
  generalize (lg_sl ([.ref (h 7)]) ++ List.replicate (1 - (lg_sl ([.ref (h 7)])).length) Slot.unset).toArray = ls at hl ⊢
  have hl : lv_has ls 1 [(0, .ref (h 7))] := hl
  unfold wC_X2_beginForetelling at hw
  clear hD0
  refine lv_aload_n hx hb dX2_beginForetelling_0 rfl (lv_at hl 0 rfl) ?_
  refine va_get (D := D) (ci := 2) (v := .ref (h 1)) (C := RX2) (T := TX2) (N := 3) hx hb hts hin2 hown hK hP 7 rfl rfl 0 (by decide) w17 (fun _ h9 => h9) rfl dX2_beginForetelling_1 ?_
  refine va_get (D := D) (ci := 0) (v := .ref (h 12)) (C := RX0) (T := TX0) (N := 16) hx hb hts hin0 hown hK hP 1 rfl rfl 0 (by decide) w120 (fun _ h9 => h9) rfl dX2_beginForetelling_4 ?_
  refine lv_aload_n hx hb dX2_beginForetelling_7 rfl (lv_at hl 0 rfl) ?_
  refine va_get (D := D) (ci := 2) (v := .ref (h 42)) (C := RX2) (T := TX2) (N := 3) hx hb hts hin2 hown hK hP 7 rfl rfl 2 (by decide) w11 (fun _ h9 => h9) rfl dX2_beginForetelling_8 ?_
  refine e_callNv (As := [.ref (h 12), .ref (h 42)]) (rest := []) nxE_stable hs ⟨hx, hb, hml, hown, hts⟩ (cA_copyWhole l D nxE nxE_stable (tyC cy) (wC h cy) S 12 0 42 30 _ _ _ _ 74 74 cx_c_now cx_g_asItIs cx_set_g_asItIs rfl rfl (wCs_g_asItIs h cy S) rfl rfl (by decide) (by decide) (fun S0 => S0 = (cx_set_g_asItIs S (k_copyW 74 74 (cx_c_now S) (cx_g_asItIs S)))) rfl) ⟨va_cnB 2 hts gX2_beginForetelling_X11_copyWhole_n123 rfl rfl rfl hs.2.2.2.2.2.2.2.2.2.2.2.2.2.2.2.2.2.2.2.1 wiX11 (by decide +kernel) ⟨Nat.le_of_ble_eq_true rfl, Nat.le_of_ble_eq_true rfl⟩, wstcopyWhole, trivial⟩ hK hP hD hS hA rfl hl.1 rfl (Nat.le_of_ble_eq_true rfl) dX2_beginForetelling_11 ⟨Nat.zero_le _, Nat.zero_le _⟩ (fun S_1 H locs eS_1 hP hD hS => ?_)
  replace hw := hw S_1 eS_1
  exact W.vret hx hb hr (fun t ht hW => ⟨⟨S_1, rfl, hw, by rw [ht]; exact hP, va_K.moved hW.alike hK, hD⟩, hS.F ht⟩) hS.2.2 dX2_beginForetelling_14
def wC_X11_foretold_60 (post : Int32 → CS → Prop) (x2 : Int32) (S : CS) : Prop := wC_X0_see 0 x2 S (fun r_1 S_2 => wC_X2_endForetelling S_2 (fun S_4 => post r_1 S_4))
def wC_X11_foretold_32 (post : Int32 → CS → Prop) : Nat → Int32 → Int32 → Int32 → CS → Prop
  | 0, _, _, _, _ => False
  | n + 1, x1, x2, x3, S => ((x1 ≤ x3 → wC_X11_foretold_60 post x2 S) ∧ (¬ (x1 ≤ x3) → wC_X2_canPass S (fun r_2 S_3 => ((r_2 = 0 → wC_X11_foretold_60 post x2 S_3) ∧ (¬ (r_2 = 0) → wC_X2_passes S_3 (fun S_6 => wC_X11_foretold_32 post n x1 x2 (x3 + 1) S_6))))))
def wC_X11_foretold (p1 : Int32) (p2 : Int32) (S : CS) (post : Int32 → CS → Prop) : Prop := wC_X11_within p1 1 60 S (fun r_1 S_2 => ((r_1 = 0 → post (-1) S_2) ∧ (¬ (r_1 = 0) → wC_X0_hasHouse p2 S_2 (fun r_4 S_5 => ((r_4 = 0 → post (-1) S_5) ∧ (¬ (r_4 = 0) → wC_X2_beginForetelling S_5 (fun S_8 => ∃ k_ : Nat, wC_X11_foretold_32 post k_ p1 p2 0 S_8)))))))
set_option maxHeartbeats 4000000 in
set_option maxRecDepth 100000 in
theorem cC_X11_foretold (l : Launch) (D : va_G) (h : Nat → Nat) (cy : Nat → ClassId) (p1 : Int32) (p2 : Int32) (S : CS) (post : Int32 → CS → Prop) (hw : wC_X11_foretold p1 p2 S post) : e_Mi nxE l yX11_foretold wsX11_foretold { frames := 5, cells := 0, slots := 0, locals := 125 } D (tyC cy) (wC h cy) [.ref (h 0), .int p1, .int p2] S post := by
  intro sz
  refine Met.ofW (cc := cX11_foretold) (maxL := 4) (ret := (some .int)) (by decide) rfl ?_
  intro p e s m args below meth c s₁ B hml hv
  obtain ⟨rfl, hsz, hP, hK, hD0, hs⟩ := hv
  have hx := B.exec
  have hb := B.bytes
  have hr := B.returns
  have hts := atoms_spec (ws := wsX11_foretold) B.pre
  have hown : s.vm.findClass RX11 = some m.cls := findClass_of_methodNamed B.named
  have hlocks := B.notSynchronized
  subst hsz
  have hD := hD0.self (sz := s.heap.size)
  generalize hAe : va_A (wC h cy S) s.heap.size = A at hD ⊢
  have hA : ∀ q : Nat, s.heap.size ≤ q → A q := fun q h => by rw [← hAe]; exact Or.inr h
  have hS : va_S A s.heap s.heap [] := va_S.rf
  have hin11 : ∀ w ∈ wsX110, w ∈ wsX11_foretold := fun _ h => List.mem_cons_of_mem _ (List.mem_append_left _ (List.mem_append_left _ (List.mem_append_left _ (List.mem_append_left _ (List.mem_append_right _ h)))))
  have hin0 : ∀ w ∈ wsX00, w ∈ wsX11_foretold := fun _ h => List.mem_cons_of_mem _ (List.mem_append_left _ (List.mem_append_left _ (List.mem_append_left _ (List.mem_append_right _ h))))
  have hin2 : ∀ w ∈ wsX20, w ∈ wsX11_foretold := fun _ h => List.mem_cons_of_mem _ (List.mem_append_left _ (List.mem_append_left _ (List.mem_append_right _ h)))
  have hin3 : ∀ w ∈ wsX30, w ∈ wsX11_foretold := fun _ h => List.mem_cons_of_mem _ (List.mem_append_left _ (List.mem_append_right _ h))
  have hin9 : ∀ w ∈ wsX90, w ∈ wsX11_foretold := fun _ h => List.mem_cons_of_mem _ (List.mem_append_right _ h)
  have w10 := hts (.fieldLink RX11 10 "ClownsMourn" "city" "LClownsMourn$City;") (List.mem_of_getElem? (i := 1) rfl)
  have w40 := hts (.fieldLink RX11 40 "ClownsMourn" "guild" "LClownsMourn$Guild;") (List.mem_of_getElem? (i := 2) rfl)
  have hl := lv_entry ([.ref (h 0), .int p1, .int p2]) (n := 4) (Nat.le_of_ble_eq_true rfl)
  rw [lg_entry_eq]
  generalize (lg_sl ([.ref (h 0), .int p1, .int p2]) ++ List.replicate (4 - (lg_sl ([.ref (h 0), .int p1, .int p2])).length) Slot.unset).toArray = ls at hl ⊢
  have hl : lv_has ls 4 [(0, .ref (h 0)), (1, .int p1), (2, .int p2)] := hl
  unfold wC_X11_foretold at hw
  clear hD0
  have J_60 : ∀ (x2 : Int32) (S : CS) (H : Heap) (locs : List Loc) (ls : Array Slot), wC_X11_foretold_60 post x2 S → va_P D vwCl (wC h cy S) H → va_D A (wC h cy S) → va_S A s.heap H locs → lv_has ls 4 [(0, .ref (h 0)), (2, .int x2)] → W p l e (headSpec wsX11_foretold { frames := 5, cells := 0, slots := 0, locals := 125 }).room s m (([.ref (h 0), .int p1, .int p2] : List Value).toArray) below meth c H locs 0 0 (MQ below (va_Qi post (k_Post D (tyC cy) (wC h cy) A) A) (([.ref (h 0), .int p1, .int p2] : List Value).toArray) s 0 0 A) (F0 m 60 ls []) := by
    intro x2 S H locs ls hw hP hD hS hl
    unfold wC_X11_foretold_60 at hw
    refine lv_aload_n hx hb dX11_foretold_60 rfl (lv_at hl 0 rfl) ?_
    refine va_get (D := D) (ci := 10) (v := .ref (h 1)) (C := RX11) (T := TX11) (N := 9) hx hb hts hin11 hown hK hP 0 rfl rfl 0 (by decide) w10 (fun _ h9 => h9) rfl dX11_foretold_61 ?_
    refine lv_iconst (v := 0) hx hb dX11_foretold_64 (by decide) ?_
    refine lv_iload_n hx hb dX11_foretold_65 rfl (lv_at hl 1 rfl) ?_
    refine e_callVi (As := [.int 0, .int x2]) (rest := []) nxE_stable hs ⟨hx, hb, hml, hown, hts⟩ (cC_X0_see l D h cy _ _ _ _ hw) (cwV 2 hts gX11_foretold_X0_see rfl rfl rfl (by decide +kernel) ⟨Nat.le_of_ble_eq_true rfl, Nat.le_of_ble_eq_true rfl⟩) (va_recv hK hP (ci := 0) (q0 := 1) rfl rfl) hK hP hD hS hA rfl hl.1 rfl (Nat.le_of_ble_eq_true rfl) dX11_foretold_66 ⟨Nat.zero_le _, Nat.zero_le _⟩ (fun r_1 S_2 H locs hw hP hD hS => ?_)
    refine lv_istore_n (lv' := [(3, .int r_1), (0, .ref (h 0)), (2, .int x2)]) hx hb dX11_foretold_69 rfl hl (by decide) rfl (fun ls hl => ?_)
    refine lv_aload_n hx hb dX11_foretold_70 rfl (lv_at hl 1 rfl) ?_
    refine va_get (D := D) (ci := 10) (v := .ref (h 7)) (C := RX11) (T := TX11) (N := 9) hx hb hts hin11 hown hK hP 0 rfl rfl 4 (by decide) w40 (fun _ h9 => h9) rfl dX11_foretold_71 ?_
    refine e_callVv (As := []) (rest := []) nxE_stable hs ⟨hx, hb, hml, hown, hts⟩ (cC_X2_endForetelling l D h cy _ _ hw) (cwV 0 hts gX11_foretold_X2_endForetelling rfl rfl rfl (by decide +kernel) ⟨Nat.le_of_ble_eq_true rfl, Nat.le_of_ble_eq_true rfl⟩) (va_recv hK hP (ci := 2) (q0 := 7) rfl rfl) hK hP hD hS hA rfl hl.1 rfl (Nat.le_of_ble_eq_true rfl) dX11_foretold_74 ⟨Nat.zero_le _, Nat.zero_le _⟩ (fun S_4 H locs hw hP hD hS => ?_)
    refine lv_iload_n hx hb dX11_foretold_77 rfl (lv_at hl 0 rfl) ?_
    exact W.iret (v := r_1) hx hb hr (fun t ht hW => ⟨⟨r_1, S_4, rfl, hw, by rw [ht]; exact hP, va_K.moved hW.alike hK, hD⟩, hS.F ht⟩) hS.2.2 dX11_foretold_78
  have L_32 : ∀ (n32 : Nat) (x1 : Int32) (x2 : Int32) (x3 : Int32) (S : CS) (H : Heap) (locs : List Loc) (ls : Array Slot), wC_X11_foretold_32 post n32 x1 x2 x3 S → va_P D vwCl (wC h cy S) H → va_D A (wC h cy S) → va_S A s.heap H locs → lv_has ls 4 [(0, .ref (h 0)), (1, .int x1), (2, .int x2), (3, .int x3)] → W p l e (headSpec wsX11_foretold { frames := 5, cells := 0, slots := 0, locals := 125 }).room s m (([.ref (h 0), .int p1, .int p2] : List Value).toArray) below meth c H locs 0 0 (MQ below (va_Qi post (k_Post D (tyC cy) (wC h cy) A) A) (([.ref (h 0), .int p1, .int p2] : List Value).toArray) s 0 0 A) (F0 m 32 ls []) := by
    intro n32
    induction n32 with
    | zero => intro x1 x2 x3 S H locs ls hw; exact False.elim hw
    | succ n32 ih_32 =>
      intro x1 x2 x3 S H locs ls hw hP hD hS hl
      unfold wC_X11_foretold_32 at hw
      refine lv_iload_n hx hb dX11_foretold_32 rfl (lv_at hl 3 rfl) ?_
      refine lv_iload_n hx hb dX11_foretold_33 rfl (lv_at hl 1 rfl) ?_
      obtain ⟨hc_5t, hc_5f⟩ := hw
      refine lv_icmp_ge (tgt := 60) hx hb dX11_foretold_34 (by decide) (fun c_5 => ?_) (fun c_5 => ?_)
      · have hw := hc_5t c_5
        clear hc_5t hc_5f
        exact J_60 x2 S _ _ _ hw hP hD hS (lv_sub hl [0, 2] rfl)
      · have hw := hc_5f c_5
        clear hc_5t hc_5f
        refine lv_aload_n hx hb dX11_foretold_37 rfl (lv_at hl 0 rfl) ?_
        refine va_get (D := D) (ci := 10) (v := .ref (h 7)) (C := RX11) (T := TX11) (N := 9) hx hb hts hin11 hown hK hP 0 rfl rfl 4 (by decide) w40 (fun _ h9 => h9) rfl dX11_foretold_38 ?_
        refine e_callVi (As := []) (rest := []) nxE_stable hs ⟨hx, hb, hml, hown, hts⟩ (cC_X2_canPass l D h cy _ _ hw) (cwV 0 hts gX11_foretold_X2_canPass rfl rfl rfl (by decide +kernel) ⟨Nat.le_of_ble_eq_true rfl, Nat.le_of_ble_eq_true rfl⟩) (va_recv hK hP (ci := 2) (q0 := 7) rfl rfl) hK hP hD hS hA rfl hl.1 rfl (Nat.le_of_ble_eq_true rfl) dX11_foretold_41 ⟨Nat.zero_le _, Nat.zero_le _⟩ (fun r_6 S_7 H locs hw hP hD hS => ?_)
        obtain ⟨hc_8t, hc_8f⟩ := hw
        refine lv_if_eq (tgt := 60) hx hb dX11_foretold_44 (by decide) (fun c_8 => ?_) (fun c_8 => ?_)
        · have hw := hc_8t c_8
          clear hc_8t hc_8f
          exact J_60 x2 S_7 _ _ _ hw hP hD hS (lv_sub hl [0, 2] rfl)
        · have hw := hc_8f c_8
          clear hc_8t hc_8f
          refine lv_aload_n hx hb dX11_foretold_47 rfl (lv_at hl 0 rfl) ?_
          refine va_get (D := D) (ci := 10) (v := .ref (h 7)) (C := RX11) (T := TX11) (N := 9) hx hb hts hin11 hown hK hP 0 rfl rfl 4 (by decide) w40 (fun _ h9 => h9) rfl dX11_foretold_48 ?_
          refine e_callVv (As := []) (rest := []) nxE_stable hs ⟨hx, hb, hml, hown, hts⟩ (cC_X2_passes l D h cy _ _ hw) (cwV 0 hts gX11_foretold_X2_passes rfl rfl rfl (by decide +kernel) ⟨Nat.le_of_ble_eq_true rfl, Nat.le_of_ble_eq_true rfl⟩) (va_recv hK hP (ci := 2) (q0 := 7) rfl rfl) hK hP hD hS hA rfl hl.1 rfl (Nat.le_of_ble_eq_true rfl) dX11_foretold_51 ⟨Nat.zero_le _, Nat.zero_le _⟩ (fun S_10 H locs hw hP hD hS => ?_)
          refine lv_iinc (v := x3 + 1) (lv' := [(3, .int (x3 + 1)), (0, .ref (h 0)), (1, .int x1), (2, .int x2)]) hx hb dX11_foretold_54 hl (k := 3) rfl (k_inc (by decide)) (by decide) rfl (fun ls hl => ?_)
          refine lv_goto (tgt := 32) hx hb dX11_foretold_57 (by decide) ?_
          exact ih_32 x1 x2 (x3 + 1) S_10 _ _ _ hw hP hD hS (lv_sub hl [1, 2, 3, 0] rfl)
  refine lv_iload_n hx hb dX11_foretold_0 rfl (lv_at hl 1 rfl) ?_
  refine lv_iconst (v := 1) hx hb dX11_foretold_1 (by decide) ?_
  refine lv_bipush (v := 60) hx hb dX11_foretold_2 (by decide) ?_
  refine e_callSi (As := [.int p1, .int 1, .int 60]) (rest := []) nxE_stable hs ⟨hx, hb, hml, hown, hts⟩ (cC_X11_within l D h cy _ _ _ _ _ hw) (va_cwS 3 hts gX11_foretold_X11_within rfl rfl rfl (by decide +kernel) ⟨Nat.le_of_ble_eq_true rfl, Nat.le_of_ble_eq_true rfl⟩) hK hP hD hS hA rfl hl.1 rfl (Nat.le_of_ble_eq_true rfl) dX11_foretold_4 ⟨Nat.zero_le _, Nat.zero_le _⟩ (fun r_11 S_12 H locs hw hP hD hS => ?_)
  obtain ⟨hc_13t, hc_13f⟩ := hw
  refine lv_if_eq (tgt := 21) hx hb dX11_foretold_7 (by decide) (fun c_13 => ?_) (fun c_13 => ?_)
  · have hw := hc_13t c_13
    clear hc_13t hc_13f
    refine lv_iconst (v := (-1)) hx hb dX11_foretold_21 (by decide) ?_
    exact W.iret (v := (-1)) hx hb hr (fun t ht hW => ⟨⟨(-1), S_12, rfl, hw, by rw [ht]; exact hP, va_K.moved hW.alike hK, hD⟩, hS.F ht⟩) hS.2.2 dX11_foretold_22
  · have hw := hc_13f c_13
    clear hc_13t hc_13f
    refine lv_aload_n hx hb dX11_foretold_10 rfl (lv_at hl 0 rfl) ?_
    refine va_get (D := D) (ci := 10) (v := .ref (h 1)) (C := RX11) (T := TX11) (N := 9) hx hb hts hin11 hown hK hP 0 rfl rfl 0 (by decide) w10 (fun _ h9 => h9) rfl dX11_foretold_11 ?_
    refine lv_iload_n hx hb dX11_foretold_14 rfl (lv_at hl 2 rfl) ?_
    refine e_callVi (As := [.int p2]) (rest := []) nxE_stable hs ⟨hx, hb, hml, hown, hts⟩ (cC_X0_hasHouse l D h cy _ _ _ hw) (cwV 1 hts gX11_foretold_X0_hasHouse rfl rfl rfl (by decide +kernel) ⟨Nat.le_of_ble_eq_true rfl, Nat.le_of_ble_eq_true rfl⟩) (va_recv hK hP (ci := 0) (q0 := 1) rfl rfl) hK hP hD hS hA rfl hl.1 rfl (Nat.le_of_ble_eq_true rfl) dX11_foretold_15 ⟨Nat.zero_le _, Nat.zero_le _⟩ (fun r_14 S_15 H locs hw hP hD hS => ?_)
    obtain ⟨hc_16t, hc_16f⟩ := hw
    refine lv_if_ne (tgt := 23) hx hb dX11_foretold_18 (by decide) (fun c_16 => ?_) (fun c_16 => ?_)
    · have hw := hc_16f c_16
      clear hc_16t hc_16f
      refine lv_aload_n hx hb dX11_foretold_23 rfl (lv_at hl 0 rfl) ?_
      refine va_get (D := D) (ci := 10) (v := .ref (h 7)) (C := RX11) (T := TX11) (N := 9) hx hb hts hin11 hown hK hP 0 rfl rfl 4 (by decide) w40 (fun _ h9 => h9) rfl dX11_foretold_24 ?_
      refine e_callVv (As := []) (rest := []) nxE_stable hs ⟨hx, hb, hml, hown, hts⟩ (cC_X2_beginForetelling l D h cy _ _ hw) (cwV 0 hts gX11_foretold_X2_beginForetelling rfl rfl rfl (by decide +kernel) ⟨Nat.le_of_ble_eq_true rfl, Nat.le_of_ble_eq_true rfl⟩) (va_recv hK hP (ci := 2) (q0 := 7) rfl rfl) hK hP hD hS hA rfl hl.1 rfl (Nat.le_of_ble_eq_true rfl) dX11_foretold_27 ⟨Nat.zero_le _, Nat.zero_le _⟩ (fun S_18 H locs hw hP hD hS => ?_)
      refine lv_iconst (v := 0) hx hb dX11_foretold_30 (by decide) ?_
      refine lv_istore_n (lv' := [(3, .int 0), (0, .ref (h 0)), (1, .int p1), (2, .int p2)]) hx hb dX11_foretold_31 rfl hl (by decide) rfl (fun ls hl => ?_)
      obtain ⟨n_32, hw⟩ := hw
      exact L_32 n_32 p1 p2 0 S_18 _ _ _ hw hP hD hS (lv_sub hl [1, 2, 3, 0] rfl)
    · have hw := hc_16t c_16
      clear hc_16t hc_16f
      refine lv_iconst (v := (-1)) hx hb dX11_foretold_21 (by decide) ?_
      exact W.iret (v := (-1)) hx hb hr (fun t ht hW => ⟨⟨(-1), S_15, rfl, hw, by rw [ht]; exact hP, va_K.moved hW.alike hK, hD⟩, hS.F ht⟩) hS.2.2 dX11_foretold_22
def wC_X0_allGrief_4 (post : Int32 → CS → Prop) : Nat → Int32 → Int32 → CS → Prop
  | 0, _, _, _ => False
  | n + 1, x1, x2, S => wC_X0_houseCount S (fun r_1 S_2 => ((r_1 ≤ x2 → post x1 S_2) ∧ (¬ (r_1 ≤ x2) → wC_X0_see 0 x2 S_2 (fun r_4 S_5 => wC_X0_allGrief_4 post n (x1 + r_4) (x2 + 1) S_5))))
def wC_X0_allGrief (S : CS) (post : Int32 → CS → Prop) : Prop := ∃ k_ : Nat, wC_X0_allGrief_4 post k_ 0 0 S
set_option maxHeartbeats 4000000 in
set_option maxRecDepth 100000 in
theorem cC_X0_allGrief (l : Launch) (D : va_G) (h : Nat → Nat) (cy : Nat → ClassId) (S : CS) (post : Int32 → CS → Prop) (hw : wC_X0_allGrief S post) : e_Mi nxE l yX0_allGrief wsX0_allGrief { frames := 2, cells := 0, slots := 0, locals := 43 } D (tyC cy) (wC h cy) [.ref (h 1)] S post := by
  intro sz
  refine Met.ofW (cc := cX0_allGrief) (maxL := 3) (ret := (some .int)) (by decide) rfl ?_
  intro p e s m args below meth c s₁ B hml hv
  obtain ⟨rfl, hsz, hP, hK, hD0, hs⟩ := hv
  have hx := B.exec
  have hb := B.bytes
  have hr := B.returns
  have hts := atoms_spec (ws := wsX0_allGrief) B.pre
  have hown : s.vm.findClass RX0 = some m.cls := findClass_of_methodNamed B.named
  have hlocks := B.notSynchronized
  subst hsz
  have hD := hD0.self (sz := s.heap.size)
  generalize hAe : va_A (wC h cy S) s.heap.size = A at hD ⊢
  have hA : ∀ q : Nat, s.heap.size ≤ q → A q := fun q h => by rw [← hAe]; exact Or.inr h
  have hS : va_S A s.heap s.heap [] := va_S.rf
  have hl := lv_entry ([.ref (h 1)]) (n := 3) (Nat.le_of_ble_eq_true rfl)
  rw [lg_entry_eq]
  generalize (lg_sl ([.ref (h 1)]) ++ List.replicate (3 - (lg_sl ([.ref (h 1)])).length) Slot.unset).toArray = ls at hl ⊢
  have hl : lv_has ls 3 [(0, .ref (h 1))] := hl
  unfold wC_X0_allGrief at hw
  clear hD0
  have L_4 : ∀ (n4 : Nat) (x1 : Int32) (x2 : Int32) (S : CS) (H : Heap) (locs : List Loc) (ls : Array Slot), wC_X0_allGrief_4 post n4 x1 x2 S → va_P D vwCl (wC h cy S) H → va_D A (wC h cy S) → va_S A s.heap H locs → lv_has ls 3 [(0, .ref (h 1)), (1, .int x1), (2, .int x2)] → W p l e (headSpec wsX0_allGrief { frames := 2, cells := 0, slots := 0, locals := 43 }).room s m (([.ref (h 1)] : List Value).toArray) below meth c H locs 0 0 (MQ below (va_Qi post (k_Post D (tyC cy) (wC h cy) A) A) (([.ref (h 1)] : List Value).toArray) s 0 0 A) (F0 m 4 ls []) := by
    intro n4
    induction n4 with
    | zero => intro x1 x2 S H locs ls hw; exact False.elim hw
    | succ n4 ih_4 =>
      intro x1 x2 S H locs ls hw hP hD hS hl
      unfold wC_X0_allGrief_4 at hw
      refine lv_iload_n hx hb dX0_allGrief_4 rfl (lv_at hl 2 rfl) ?_
      refine lv_aload_n hx hb dX0_allGrief_5 rfl (lv_at hl 0 rfl) ?_
      refine e_callVi (As := []) (rest := [.int x2]) nxE_stable hs ⟨hx, hb, hml, hown, hts⟩ (cC_X0_houseCount l D h cy _ _ hw) (cwV 0 hts gX0_allGrief_X0_houseCount rfl rfl rfl (by decide +kernel) ⟨Nat.le_of_ble_eq_true rfl, Nat.le_of_ble_eq_true rfl⟩) (va_recv hK hP (ci := 0) (q0 := 1) rfl rfl) hK hP hD hS hA rfl hl.1 rfl (Nat.le_of_ble_eq_true rfl) dX0_allGrief_6 ⟨Nat.zero_le _, Nat.zero_le _⟩ (fun r_1 S_2 H locs hw hP hD hS => ?_)
      obtain ⟨hc_3t, hc_3f⟩ := hw
      refine lv_icmp_ge (tgt := 27) hx hb dX0_allGrief_9 (by decide) (fun c_3 => ?_) (fun c_3 => ?_)
      · have hw := hc_3t c_3
        clear hc_3t hc_3f
        refine lv_iload_n hx hb dX0_allGrief_27 rfl (lv_at hl 1 rfl) ?_
        exact W.iret (v := x1) hx hb hr (fun t ht hW => ⟨⟨x1, S_2, rfl, hw, by rw [ht]; exact hP, va_K.moved hW.alike hK, hD⟩, hS.F ht⟩) hS.2.2 dX0_allGrief_28
      · have hw := hc_3f c_3
        clear hc_3t hc_3f
        refine lv_iload_n hx hb dX0_allGrief_12 rfl (lv_at hl 1 rfl) ?_
        refine lv_aload_n hx hb dX0_allGrief_13 rfl (lv_at hl 0 rfl) ?_
        refine lv_iconst (v := 0) hx hb dX0_allGrief_14 (by decide) ?_
        refine lv_iload_n hx hb dX0_allGrief_15 rfl (lv_at hl 2 rfl) ?_
        refine e_callVi (As := [.int 0, .int x2]) (rest := [.int x1]) nxE_stable hs ⟨hx, hb, hml, hown, hts⟩ (cC_X0_see l D h cy _ _ _ _ hw) (cwV 2 hts gX0_allGrief_X0_see rfl rfl rfl (by decide +kernel) ⟨Nat.le_of_ble_eq_true rfl, Nat.le_of_ble_eq_true rfl⟩) (va_recv hK hP (ci := 0) (q0 := 1) rfl rfl) hK hP hD hS hA rfl hl.1 rfl (Nat.le_of_ble_eq_true rfl) dX0_allGrief_16 ⟨Nat.zero_le _, Nat.zero_le _⟩ (fun r_4 S_5 H locs hw hP hD hS => ?_)
        refine lv_iadd hx hb dX0_allGrief_19 ?_
        refine lv_istore_n (lv' := [(1, .int (x1 + r_4)), (0, .ref (h 1)), (2, .int x2)]) hx hb dX0_allGrief_20 rfl hl (by decide) rfl (fun ls hl => ?_)
        refine lv_iinc (v := x2 + 1) (lv' := [(2, .int (x2 + 1)), (1, .int (x1 + r_4)), (0, .ref (h 1))]) hx hb dX0_allGrief_21 hl (k := 2) rfl (k_inc (by decide)) (by decide) rfl (fun ls hl => ?_)
        refine lv_goto (tgt := 4) hx hb dX0_allGrief_24 (by decide) ?_
        exact ih_4 (x1 + r_4) (x2 + 1) S_5 _ _ _ hw hP hD hS (lv_sub hl [2, 1, 0] rfl)
  refine lv_iconst (v := 0) hx hb dX0_allGrief_0 (by decide) ?_
  refine lv_istore_n (lv' := [(1, .int 0), (0, .ref (h 1))]) hx hb dX0_allGrief_1 rfl hl (by decide) rfl (fun ls hl => ?_)
  refine lv_iconst (v := 0) hx hb dX0_allGrief_2 (by decide) ?_
  refine lv_istore_n (lv' := [(2, .int 0), (1, .int 0), (0, .ref (h 1))]) hx hb dX0_allGrief_3 rfl hl (by decide) rfl (fun ls hl => ?_)
  obtain ⟨n_4, hw⟩ := hw
  exact L_4 n_4 0 0 S _ _ _ hw hP hD hS (lv_sub hl [2, 1, 0] rfl)
def wC_X11_heavy_62 (post : Int32 → CS → Prop) (x1 : Int32) (x2 : Int32) (S : CS) : Prop := wC_X0_allGrief S (fun r_1 S_2 => ((r_1 < x1 → wC_X2_endForetelling S_2 (fun S_5 => post (-1) S_5)) ∧ (¬ (r_1 < x1) → wC_X2_endForetelling S_2 (fun S_7 => post x2 S_7))))
def wC_X11_heavy_22 (post : Int32 → CS → Prop) : Nat → Int32 → Int32 → CS → Prop
  | 0, _, _, _ => False
  | n + 1, x1, x2, S => ((60 ≤ x2 → wC_X11_heavy_62 post x1 x2 S) ∧ (¬ (60 ≤ x2) → wC_X2_canPass S (fun r_2 S_3 => ((r_2 = 0 → wC_X11_heavy_62 post x1 x2 S_3) ∧ (¬ (r_2 = 0) → wC_X0_allGrief S_3 (fun r_5 S_6 => ((x1 ≤ r_5 → wC_X11_heavy_62 post x1 x2 S_6) ∧ (¬ (x1 ≤ r_5) → wC_X2_passes S_6 (fun S_9 => wC_X11_heavy_22 post n x1 (x2 + 1) S_9)))))))))
def wC_X11_heavy (p1 : Int32) (S : CS) (post : Int32 → CS → Prop) : Prop := wC_X11_within p1 0 600 S (fun r_1 S_2 => ((r_1 = 0 → post (-1) S_2) ∧ (¬ (r_1 = 0) → wC_X2_beginForetelling S_2 (fun S_5 => ∃ k_ : Nat, wC_X11_heavy_22 post k_ p1 0 S_5))))
set_option maxHeartbeats 4000000 in
set_option maxRecDepth 100000 in
theorem cC_X11_heavy (l : Launch) (D : va_G) (h : Nat → Nat) (cy : Nat → ClassId) (p1 : Int32) (S : CS) (post : Int32 → CS → Prop) (hw : wC_X11_heavy p1 S post) : e_Mi nxE l yX11_heavy wsX11_heavy { frames := 5, cells := 0, slots := 0, locals := 125 } D (tyC cy) (wC h cy) [.ref (h 0), .int p1] S post := by
  intro sz
  refine Met.ofW (cc := cX11_heavy) (maxL := 4) (ret := (some .int)) (by decide) rfl ?_
  intro p e s m args below meth c s₁ B hml hv
  obtain ⟨rfl, hsz, hP, hK, hD0, hs⟩ := hv
  have hx := B.exec
  have hb := B.bytes
  have hr := B.returns
  have hts := atoms_spec (ws := wsX11_heavy) B.pre
  have hown : s.vm.findClass RX11 = some m.cls := findClass_of_methodNamed B.named
  have hlocks := B.notSynchronized
  subst hsz
  have hD := hD0.self (sz := s.heap.size)
  generalize hAe : va_A (wC h cy S) s.heap.size = A at hD ⊢
  have hA : ∀ q : Nat, s.heap.size ≤ q → A q := fun q h => by rw [← hAe]; exact Or.inr h
  have hS : va_S A s.heap s.heap [] := va_S.rf
  have hin11 : ∀ w ∈ wsX110, w ∈ wsX11_heavy := fun _ h => List.mem_cons_of_mem _ (List.mem_append_left _ (List.mem_append_left _ (List.mem_append_left _ (List.mem_append_left _ (List.mem_append_right _ h)))))
  have hin2 : ∀ w ∈ wsX20, w ∈ wsX11_heavy := fun _ h => List.mem_cons_of_mem _ (List.mem_append_left _ (List.mem_append_left _ (List.mem_append_left _ (List.mem_append_right _ h))))
  have hin0 : ∀ w ∈ wsX00, w ∈ wsX11_heavy := fun _ h => List.mem_cons_of_mem _ (List.mem_append_left _ (List.mem_append_left _ (List.mem_append_right _ h)))
  have hin3 : ∀ w ∈ wsX30, w ∈ wsX11_heavy := fun _ h => List.mem_cons_of_mem _ (List.mem_append_left _ (List.mem_append_right _ h))
  have hin9 : ∀ w ∈ wsX90, w ∈ wsX11_heavy := fun _ h => List.mem_cons_of_mem _ (List.mem_append_right _ h)
  have w10 := hts (.fieldLink RX11 10 "ClownsMourn" "city" "LClownsMourn$City;") (List.mem_of_getElem? (i := 2) rfl)
  have w40 := hts (.fieldLink RX11 40 "ClownsMourn" "guild" "LClownsMourn$Guild;") (List.mem_of_getElem? (i := 1) rfl)
  have hl := lv_entry ([.ref (h 0), .int p1]) (n := 4) (Nat.le_of_ble_eq_true rfl)
  rw [lg_entry_eq]
  generalize (lg_sl ([.ref (h 0), .int p1]) ++ List.replicate (4 - (lg_sl ([.ref (h 0), .int p1])).length) Slot.unset).toArray = ls at hl ⊢
  have hl : lv_has ls 4 [(0, .ref (h 0)), (1, .int p1)] := hl
  unfold wC_X11_heavy at hw
  clear hD0
  have J_62 : ∀ (x1 : Int32) (x2 : Int32) (S : CS) (H : Heap) (locs : List Loc) (ls : Array Slot), wC_X11_heavy_62 post x1 x2 S → va_P D vwCl (wC h cy S) H → va_D A (wC h cy S) → va_S A s.heap H locs → lv_has ls 4 [(0, .ref (h 0)), (1, .int x1), (2, .int x2)] → W p l e (headSpec wsX11_heavy { frames := 5, cells := 0, slots := 0, locals := 125 }).room s m (([.ref (h 0), .int p1] : List Value).toArray) below meth c H locs 0 0 (MQ below (va_Qi post (k_Post D (tyC cy) (wC h cy) A) A) (([.ref (h 0), .int p1] : List Value).toArray) s 0 0 A) (F0 m 62 ls []) := by
    intro x1 x2 S H locs ls hw hP hD hS hl
    unfold wC_X11_heavy_62 at hw
    refine lv_aload_n hx hb dX11_heavy_62 rfl (lv_at hl 0 rfl) ?_
    refine va_get (D := D) (ci := 10) (v := .ref (h 1)) (C := RX11) (T := TX11) (N := 9) hx hb hts hin11 hown hK hP 0 rfl rfl 0 (by decide) w10 (fun _ h9 => h9) rfl dX11_heavy_63 ?_
    refine e_callVi (As := []) (rest := []) nxE_stable hs ⟨hx, hb, hml, hown, hts⟩ (cC_X0_allGrief l D h cy _ _ hw) (cwV 0 hts gX11_heavy_X0_allGrief rfl rfl rfl (by decide +kernel) ⟨Nat.le_of_ble_eq_true rfl, Nat.le_of_ble_eq_true rfl⟩) (va_recv hK hP (ci := 0) (q0 := 1) rfl rfl) hK hP hD hS hA rfl hl.1 rfl (Nat.le_of_ble_eq_true rfl) dX11_heavy_66 ⟨Nat.zero_le _, Nat.zero_le _⟩ (fun r_1 S_2 H locs hw hP hD hS => ?_)
    refine lv_iload_n hx hb dX11_heavy_69 rfl (lv_at hl 1 rfl) ?_
    obtain ⟨hc_3t, hc_3f⟩ := hw
    refine lv_icmp_lt (tgt := 77) hx hb dX11_heavy_70 (by decide) (fun c_3 => ?_) (fun c_3 => ?_)
    · have hw := hc_3t c_3
      clear hc_3t hc_3f
      refine lv_iconst (v := (-1)) hx hb dX11_heavy_77 (by decide) ?_
      refine lv_istore_n (lv' := [(3, .int (-1)), (0, .ref (h 0)), (1, .int x1), (2, .int x2)]) hx hb dX11_heavy_78 rfl hl (by decide) rfl (fun ls hl => ?_)
      refine lv_aload_n hx hb dX11_heavy_79 rfl (lv_at hl 1 rfl) ?_
      refine va_get (D := D) (ci := 10) (v := .ref (h 7)) (C := RX11) (T := TX11) (N := 9) hx hb hts hin11 hown hK hP 0 rfl rfl 4 (by decide) w40 (fun _ h9 => h9) rfl dX11_heavy_80 ?_
      refine e_callVv (As := []) (rest := []) nxE_stable hs ⟨hx, hb, hml, hown, hts⟩ (cC_X2_endForetelling l D h cy _ _ hw) (cwV 0 hts gX11_heavy_X2_endForetelling rfl rfl rfl (by decide +kernel) ⟨Nat.le_of_ble_eq_true rfl, Nat.le_of_ble_eq_true rfl⟩) (va_recv hK hP (ci := 2) (q0 := 7) rfl rfl) hK hP hD hS hA rfl hl.1 rfl (Nat.le_of_ble_eq_true rfl) dX11_heavy_83 ⟨Nat.zero_le _, Nat.zero_le _⟩ (fun S_5 H locs hw hP hD hS => ?_)
      refine lv_iload_n hx hb dX11_heavy_86 rfl (lv_at hl 0 rfl) ?_
      exact W.iret (v := (-1)) hx hb hr (fun t ht hW => ⟨⟨(-1), S_5, rfl, hw, by rw [ht]; exact hP, va_K.moved hW.alike hK, hD⟩, hS.F ht⟩) hS.2.2 dX11_heavy_87
    · have hw := hc_3f c_3
      clear hc_3t hc_3f
      refine lv_iload_n hx hb dX11_heavy_73 rfl (lv_at hl 2 rfl) ?_
      refine lv_goto (tgt := 78) hx hb dX11_heavy_74 (by decide) ?_
      refine lv_istore_n (lv' := [(3, .int x2), (0, .ref (h 0)), (1, .int x1), (2, .int x2)]) hx hb dX11_heavy_78 rfl hl (by decide) rfl (fun ls hl => ?_)
      refine lv_aload_n hx hb dX11_heavy_79 rfl (lv_at hl 1 rfl) ?_
      refine va_get (D := D) (ci := 10) (v := .ref (h 7)) (C := RX11) (T := TX11) (N := 9) hx hb hts hin11 hown hK hP 0 rfl rfl 4 (by decide) w40 (fun _ h9 => h9) rfl dX11_heavy_80 ?_
      refine e_callVv (As := []) (rest := []) nxE_stable hs ⟨hx, hb, hml, hown, hts⟩ (cC_X2_endForetelling l D h cy _ _ hw) (cwV 0 hts gX11_heavy_X2_endForetelling rfl rfl rfl (by decide +kernel) ⟨Nat.le_of_ble_eq_true rfl, Nat.le_of_ble_eq_true rfl⟩) (va_recv hK hP (ci := 2) (q0 := 7) rfl rfl) hK hP hD hS hA rfl hl.1 rfl (Nat.le_of_ble_eq_true rfl) dX11_heavy_83 ⟨Nat.zero_le _, Nat.zero_le _⟩ (fun S_7 H locs hw hP hD hS => ?_)
      refine lv_iload_n hx hb dX11_heavy_86 rfl (lv_at hl 0 rfl) ?_
      exact W.iret (v := x2) hx hb hr (fun t ht hW => ⟨⟨x2, S_7, rfl, hw, by rw [ht]; exact hP, va_K.moved hW.alike hK, hD⟩, hS.F ht⟩) hS.2.2 dX11_heavy_87
  have L_22 : ∀ (n22 : Nat) (x1 : Int32) (x2 : Int32) (S : CS) (H : Heap) (locs : List Loc) (ls : Array Slot), wC_X11_heavy_22 post n22 x1 x2 S → va_P D vwCl (wC h cy S) H → va_D A (wC h cy S) → va_S A s.heap H locs → lv_has ls 4 [(0, .ref (h 0)), (1, .int x1), (2, .int x2)] → W p l e (headSpec wsX11_heavy { frames := 5, cells := 0, slots := 0, locals := 125 }).room s m (([.ref (h 0), .int p1] : List Value).toArray) below meth c H locs 0 0 (MQ below (va_Qi post (k_Post D (tyC cy) (wC h cy) A) A) (([.ref (h 0), .int p1] : List Value).toArray) s 0 0 A) (F0 m 22 ls []) := by
    intro n22
    induction n22 with
    | zero => intro x1 x2 S H locs ls hw; exact False.elim hw
    | succ n22 ih_22 =>
      intro x1 x2 S H locs ls hw hP hD hS hl
      unfold wC_X11_heavy_22 at hw
      refine lv_iload_n hx hb dX11_heavy_22 rfl (lv_at hl 2 rfl) ?_
      refine lv_bipush (v := 60) hx hb dX11_heavy_23 (by decide) ?_
      obtain ⟨hc_8t, hc_8f⟩ := hw
      refine lv_icmp_ge (tgt := 62) hx hb dX11_heavy_25 (by decide) (fun c_8 => ?_) (fun c_8 => ?_)
      · have hw := hc_8t c_8
        clear hc_8t hc_8f
        exact J_62 x1 x2 S _ _ _ hw hP hD hS (lv_sub hl [0, 1, 2] rfl)
      · have hw := hc_8f c_8
        clear hc_8t hc_8f
        refine lv_aload_n hx hb dX11_heavy_28 rfl (lv_at hl 0 rfl) ?_
        refine va_get (D := D) (ci := 10) (v := .ref (h 7)) (C := RX11) (T := TX11) (N := 9) hx hb hts hin11 hown hK hP 0 rfl rfl 4 (by decide) w40 (fun _ h9 => h9) rfl dX11_heavy_29 ?_
        refine e_callVi (As := []) (rest := []) nxE_stable hs ⟨hx, hb, hml, hown, hts⟩ (cC_X2_canPass l D h cy _ _ hw) (cwV 0 hts gX11_heavy_X2_canPass rfl rfl rfl (by decide +kernel) ⟨Nat.le_of_ble_eq_true rfl, Nat.le_of_ble_eq_true rfl⟩) (va_recv hK hP (ci := 2) (q0 := 7) rfl rfl) hK hP hD hS hA rfl hl.1 rfl (Nat.le_of_ble_eq_true rfl) dX11_heavy_32 ⟨Nat.zero_le _, Nat.zero_le _⟩ (fun r_9 S_10 H locs hw hP hD hS => ?_)
        obtain ⟨hc_11t, hc_11f⟩ := hw
        refine lv_if_eq (tgt := 62) hx hb dX11_heavy_35 (by decide) (fun c_11 => ?_) (fun c_11 => ?_)
        · have hw := hc_11t c_11
          clear hc_11t hc_11f
          exact J_62 x1 x2 S_10 _ _ _ hw hP hD hS (lv_sub hl [0, 1, 2] rfl)
        · have hw := hc_11f c_11
          clear hc_11t hc_11f
          refine lv_aload_n hx hb dX11_heavy_38 rfl (lv_at hl 0 rfl) ?_
          refine va_get (D := D) (ci := 10) (v := .ref (h 1)) (C := RX11) (T := TX11) (N := 9) hx hb hts hin11 hown hK hP 0 rfl rfl 0 (by decide) w10 (fun _ h9 => h9) rfl dX11_heavy_39 ?_
          refine e_callVi (As := []) (rest := []) nxE_stable hs ⟨hx, hb, hml, hown, hts⟩ (cC_X0_allGrief l D h cy _ _ hw) (cwV 0 hts gX11_heavy_X0_allGrief rfl rfl rfl (by decide +kernel) ⟨Nat.le_of_ble_eq_true rfl, Nat.le_of_ble_eq_true rfl⟩) (va_recv hK hP (ci := 0) (q0 := 1) rfl rfl) hK hP hD hS hA rfl hl.1 rfl (Nat.le_of_ble_eq_true rfl) dX11_heavy_42 ⟨Nat.zero_le _, Nat.zero_le _⟩ (fun r_12 S_13 H locs hw hP hD hS => ?_)
          refine lv_iload_n hx hb dX11_heavy_45 rfl (lv_at hl 1 rfl) ?_
          obtain ⟨hc_14t, hc_14f⟩ := hw
          refine lv_icmp_ge (tgt := 62) hx hb dX11_heavy_46 (by decide) (fun c_14 => ?_) (fun c_14 => ?_)
          · have hw := hc_14t c_14
            clear hc_14t hc_14f
            exact J_62 x1 x2 S_13 _ _ _ hw hP hD hS (lv_sub hl [0, 1, 2] rfl)
          · have hw := hc_14f c_14
            clear hc_14t hc_14f
            refine lv_aload_n hx hb dX11_heavy_49 rfl (lv_at hl 0 rfl) ?_
            refine va_get (D := D) (ci := 10) (v := .ref (h 7)) (C := RX11) (T := TX11) (N := 9) hx hb hts hin11 hown hK hP 0 rfl rfl 4 (by decide) w40 (fun _ h9 => h9) rfl dX11_heavy_50 ?_
            refine e_callVv (As := []) (rest := []) nxE_stable hs ⟨hx, hb, hml, hown, hts⟩ (cC_X2_passes l D h cy _ _ hw) (cwV 0 hts gX11_heavy_X2_passes rfl rfl rfl (by decide +kernel) ⟨Nat.le_of_ble_eq_true rfl, Nat.le_of_ble_eq_true rfl⟩) (va_recv hK hP (ci := 2) (q0 := 7) rfl rfl) hK hP hD hS hA rfl hl.1 rfl (Nat.le_of_ble_eq_true rfl) dX11_heavy_53 ⟨Nat.zero_le _, Nat.zero_le _⟩ (fun S_16 H locs hw hP hD hS => ?_)
            refine lv_iinc (v := x2 + 1) (lv' := [(2, .int (x2 + 1)), (0, .ref (h 0)), (1, .int x1)]) hx hb dX11_heavy_56 hl (k := 2) rfl (k_inc (by decide)) (by decide) rfl (fun ls hl => ?_)
            refine lv_goto (tgt := 22) hx hb dX11_heavy_59 (by decide) ?_
            exact ih_22 x1 (x2 + 1) S_16 _ _ _ hw hP hD hS (lv_sub hl [1, 2, 0] rfl)
  refine lv_iload_n hx hb dX11_heavy_0 rfl (lv_at hl 1 rfl) ?_
  refine lv_iconst (v := 0) hx hb dX11_heavy_1 (by decide) ?_
  refine lv_sipush (v := 600) hx hb dX11_heavy_2 (by decide) ?_
  refine e_callSi (As := [.int p1, .int 0, .int 600]) (rest := []) nxE_stable hs ⟨hx, hb, hml, hown, hts⟩ (cC_X11_within l D h cy _ _ _ _ _ hw) (va_cwS 3 hts gX11_heavy_X11_within rfl rfl rfl (by decide +kernel) ⟨Nat.le_of_ble_eq_true rfl, Nat.le_of_ble_eq_true rfl⟩) hK hP hD hS hA rfl hl.1 rfl (Nat.le_of_ble_eq_true rfl) dX11_heavy_5 ⟨Nat.zero_le _, Nat.zero_le _⟩ (fun r_17 S_18 H locs hw hP hD hS => ?_)
  obtain ⟨hc_19t, hc_19f⟩ := hw
  refine lv_if_ne (tgt := 13) hx hb dX11_heavy_8 (by decide) (fun c_19 => ?_) (fun c_19 => ?_)
  · have hw := hc_19f c_19
    clear hc_19t hc_19f
    refine lv_aload_n hx hb dX11_heavy_13 rfl (lv_at hl 0 rfl) ?_
    refine va_get (D := D) (ci := 10) (v := .ref (h 7)) (C := RX11) (T := TX11) (N := 9) hx hb hts hin11 hown hK hP 0 rfl rfl 4 (by decide) w40 (fun _ h9 => h9) rfl dX11_heavy_14 ?_
    refine e_callVv (As := []) (rest := []) nxE_stable hs ⟨hx, hb, hml, hown, hts⟩ (cC_X2_beginForetelling l D h cy _ _ hw) (cwV 0 hts gX11_heavy_X2_beginForetelling rfl rfl rfl (by decide +kernel) ⟨Nat.le_of_ble_eq_true rfl, Nat.le_of_ble_eq_true rfl⟩) (va_recv hK hP (ci := 2) (q0 := 7) rfl rfl) hK hP hD hS hA rfl hl.1 rfl (Nat.le_of_ble_eq_true rfl) dX11_heavy_17 ⟨Nat.zero_le _, Nat.zero_le _⟩ (fun S_21 H locs hw hP hD hS => ?_)
    refine lv_iconst (v := 0) hx hb dX11_heavy_20 (by decide) ?_
    refine lv_istore_n (lv' := [(2, .int 0), (0, .ref (h 0)), (1, .int p1)]) hx hb dX11_heavy_21 rfl hl (by decide) rfl (fun ls hl => ?_)
    obtain ⟨n_22, hw⟩ := hw
    exact L_22 n_22 p1 0 S_21 _ _ _ hw hP hD hS (lv_sub hl [1, 2, 0] rfl)
  · have hw := hc_19t c_19
    clear hc_19t hc_19f
    refine lv_iconst (v := (-1)) hx hb dX11_heavy_11 (by decide) ?_
    exact W.iret (v := (-1)) hx hb hr (fun t ht hW => ⟨⟨(-1), S_18, rfl, hw, by rw [ht]; exact hP, va_K.moved hW.alike hK, hD⟩, hS.F ht⟩) hS.2.2 dX11_heavy_12
def wC_X11_told (p1 : Int32) (p2 : Int32) (S : CS) (post : Int32 → CS → Prop) : Prop := wC_X11_isFall p1 S (fun r_1 S_2 => ((r_1 = 0 → post (-1) S_2) ∧ (¬ (r_1 = 0) → wC_X11_isMood p2 S_2 (fun r_4 S_5 => ((r_4 = 0 → post (-1) S_5) ∧ (¬ (r_4 = 0) → wC_X0_turned p1 p2 S_5 (fun r_7 S_8 => post r_7 S_8)))))))
set_option maxHeartbeats 4000000 in
set_option maxRecDepth 100000 in
theorem cC_X11_told (l : Launch) (D : va_G) (h : Nat → Nat) (cy : Nat → ClassId) (p1 : Int32) (p2 : Int32) (S : CS) (post : Int32 → CS → Prop) (hw : wC_X11_told p1 p2 S post) : e_Mi nxE l yX11_told wsX11_told { frames := 2, cells := 0, slots := 0, locals := 43 } D (tyC cy) (wC h cy) [.ref (h 0), .int p1, .int p2] S post := by
  intro sz
  refine Met.ofW (cc := cX11_told) (maxL := 3) (ret := (some .int)) (by decide) rfl ?_
  intro p e s m args below meth c s₁ B hml hv
  obtain ⟨rfl, hsz, hP, hK, hD0, hs⟩ := hv
  have hx := B.exec
  have hb := B.bytes
  have hr := B.returns
  have hts := atoms_spec (ws := wsX11_told) B.pre
  have hown : s.vm.findClass RX11 = some m.cls := findClass_of_methodNamed B.named
  have hlocks := B.notSynchronized
  subst hsz
  have hD := hD0.self (sz := s.heap.size)
  generalize hAe : va_A (wC h cy S) s.heap.size = A at hD ⊢
  have hA : ∀ q : Nat, s.heap.size ≤ q → A q := fun q h => by rw [← hAe]; exact Or.inr h
  have hS : va_S A s.heap s.heap [] := va_S.rf
  have hin11 : ∀ w ∈ wsX110, w ∈ wsX11_told := fun _ h => List.mem_cons_of_mem _ (List.mem_append_left _ (List.mem_append_right _ h))
  have hin0 : ∀ w ∈ wsX00, w ∈ wsX11_told := fun _ h => List.mem_cons_of_mem _ (List.mem_append_right _ h)
  have w10 := hts (.fieldLink RX11 10 "ClownsMourn" "city" "LClownsMourn$City;") (List.mem_of_getElem? (i := 1) rfl)
  have hl := lv_entry ([.ref (h 0), .int p1, .int p2]) (n := 3) (Nat.le_of_ble_eq_true rfl)
  rw [lg_entry_eq]
  generalize (lg_sl ([.ref (h 0), .int p1, .int p2]) ++ List.replicate (3 - (lg_sl ([.ref (h 0), .int p1, .int p2])).length) Slot.unset).toArray = ls at hl ⊢
  have hl : lv_has ls 3 [(0, .ref (h 0)), (1, .int p1), (2, .int p2)] := hl
  unfold wC_X11_told at hw
  clear hD0
  refine lv_iload_n hx hb dX11_told_0 rfl (lv_at hl 1 rfl) ?_
  refine e_callSi (As := [.int p1]) (rest := []) nxE_stable hs ⟨hx, hb, hml, hown, hts⟩ (cC_X11_isFall l D h cy _ _ _ hw) (va_cwS 1 hts gX11_told_X11_isFall rfl rfl rfl (by decide +kernel) ⟨Nat.le_of_ble_eq_true rfl, Nat.le_of_ble_eq_true rfl⟩) hK hP hD hS hA rfl hl.1 rfl (Nat.le_of_ble_eq_true rfl) dX11_told_1 ⟨Nat.zero_le _, Nat.zero_le _⟩ (fun r_1 S_2 H locs hw hP hD hS => ?_)
  obtain ⟨hc_3t, hc_3f⟩ := hw
  refine lv_if_eq (tgt := 26) hx hb dX11_told_4 (by decide) (fun c_3 => ?_) (fun c_3 => ?_)
  · have hw := hc_3t c_3
    clear hc_3t hc_3f
    refine lv_iconst (v := (-1)) hx hb dX11_told_26 (by decide) ?_
    exact W.iret (v := (-1)) hx hb hr (fun t ht hW => ⟨⟨(-1), S_2, rfl, hw, by rw [ht]; exact hP, va_K.moved hW.alike hK, hD⟩, hS.F ht⟩) hS.2.2 dX11_told_27
  · have hw := hc_3f c_3
    clear hc_3t hc_3f
    refine lv_iload_n hx hb dX11_told_7 rfl (lv_at hl 2 rfl) ?_
    refine e_callSi (As := [.int p2]) (rest := []) nxE_stable hs ⟨hx, hb, hml, hown, hts⟩ (cC_X11_isMood l D h cy _ _ _ hw) (va_cwS 1 hts gX11_told_X11_isMood rfl rfl rfl (by decide +kernel) ⟨Nat.le_of_ble_eq_true rfl, Nat.le_of_ble_eq_true rfl⟩) hK hP hD hS hA rfl hl.1 rfl (Nat.le_of_ble_eq_true rfl) dX11_told_8 ⟨Nat.zero_le _, Nat.zero_le _⟩ (fun r_4 S_5 H locs hw hP hD hS => ?_)
    obtain ⟨hc_6t, hc_6f⟩ := hw
    refine lv_if_eq (tgt := 26) hx hb dX11_told_11 (by decide) (fun c_6 => ?_) (fun c_6 => ?_)
    · have hw := hc_6t c_6
      clear hc_6t hc_6f
      refine lv_iconst (v := (-1)) hx hb dX11_told_26 (by decide) ?_
      exact W.iret (v := (-1)) hx hb hr (fun t ht hW => ⟨⟨(-1), S_5, rfl, hw, by rw [ht]; exact hP, va_K.moved hW.alike hK, hD⟩, hS.F ht⟩) hS.2.2 dX11_told_27
    · have hw := hc_6f c_6
      clear hc_6t hc_6f
      refine lv_aload_n hx hb dX11_told_14 rfl (lv_at hl 0 rfl) ?_
      refine va_get (D := D) (ci := 10) (v := .ref (h 1)) (C := RX11) (T := TX11) (N := 9) hx hb hts hin11 hown hK hP 0 rfl rfl 0 (by decide) w10 (fun _ h9 => h9) rfl dX11_told_15 ?_
      refine lv_iload_n hx hb dX11_told_18 rfl (lv_at hl 1 rfl) ?_
      refine lv_iload_n hx hb dX11_told_19 rfl (lv_at hl 2 rfl) ?_
      refine e_callVi (As := [.int p1, .int p2]) (rest := []) nxE_stable hs ⟨hx, hb, hml, hown, hts⟩ (cC_X0_turned l D h cy _ _ _ _ hw) (cwV 2 hts gX11_told_X0_turned rfl rfl rfl (by decide +kernel) ⟨Nat.le_of_ble_eq_true rfl, Nat.le_of_ble_eq_true rfl⟩) (va_recv hK hP (ci := 0) (q0 := 1) rfl rfl) hK hP hD hS hA rfl hl.1 rfl (Nat.le_of_ble_eq_true rfl) dX11_told_20 ⟨Nat.zero_le _, Nat.zero_le _⟩ (fun r_7 S_8 H locs hw hP hD hS => ?_)
      refine lv_goto (tgt := 27) hx hb dX11_told_23 (by decide) ?_
      exact W.iret (v := r_7) hx hb hr (fun t ht hW => ⟨⟨r_7, S_8, rfl, hw, by rw [ht]; exact hP, va_K.moved hW.alike hK, hD⟩, hS.F ht⟩) hS.2.2 dX11_told_27
def wC_X5_fromMood (p1 : Int32) (S : CS) (post : Int32 → CS → Prop) : Prop := (∀ S_1 : CS, S_1 = (cx_set_m_toGladness S 1) → post (k_shl 1 p1) S_1)
set_option maxHeartbeats 4000000 in
set_option maxRecDepth 100000 in
theorem cC_X5_fromMood (l : Launch) (D : va_G) (h : Nat → Nat) (cy : Nat → ClassId) (p1 : Int32) (S : CS) (post : Int32 → CS → Prop) (hw : wC_X5_fromMood p1 S post) : e_Mi nxE l yX5_fromMood wsX5_fromMood { frames := 0, cells := 0, slots := 0, locals := 0 } D (tyC cy) (wC h cy) [.ref (h 9), .int p1] S post := by
  intro sz
  refine Met.ofW (cc := cX5_fromMood) (maxL := 2) (ret := (some .int)) (by decide) rfl ?_
  intro p e s m args below meth c s₁ B hml hv
  obtain ⟨rfl, hsz, hP, hK, hD0, hs⟩ := hv
  have hx := B.exec
  have hb := B.bytes
  have hr := B.returns
  have hts := atoms_spec (ws := wsX5_fromMood) B.pre
  have hown : s.vm.findClass RX5 = some m.cls := findClass_of_methodNamed B.named
  have hlocks := B.notSynchronized
  subst hsz
  have hD := hD0.self (sz := s.heap.size)
  generalize hAe : va_A (wC h cy S) s.heap.size = A at hD ⊢
  have hA : ∀ q : Nat, s.heap.size ≤ q → A q := fun q h => by rw [← hAe]; exact Or.inr h
  have hS : va_S A s.heap s.heap [] := va_S.rf
  have hin5 : ∀ w ∈ wsX50, w ∈ wsX5_fromMood := fun _ h => List.mem_cons_of_mem _ (List.mem_append_right _ h)
  have w9 := hts (.fieldLink RX5 9 "ClownsMourn$MoodWalk" "toGladness" "Z") (List.mem_of_getElem? (i := 1) rfl)
  have hl := lv_entry ([.ref (h 9), .int p1]) (n := 2) (Nat.le_of_ble_eq_true rfl)
  rw [lg_entry_eq]
  generalize (lg_sl ([.ref (h 9), .int p1]) ++ List.replicate (2 - (lg_sl ([.ref (h 9), .int p1])).length) Slot.unset).toArray = ls at hl ⊢
  have hl : lv_has ls 2 [(0, .ref (h 9)), (1, .int p1)] := hl
  unfold wC_X5_fromMood at hw
  clear hD0
  refine lv_aload_n hx hb dX5_fromMood_0 rfl (lv_at hl 0 rfl) ?_
  refine lv_iconst (v := 1) hx hb dX5_fromMood_1 (by decide) ?_
  refine va_put (D := D) (ci := 5) (v := .int 1) (ty := .boolean) (C := RX5) (T := TX5) (N := 2) hx hb hts hin5 tyX5 tyX5_ok nmX5 hown hK hP hD hS 9 rfl rfl 1 (by decide) w9 (fun _ h9 => h9) rfl (tyX5_ok 1 (by decide)) (by decide +kernel) (by decide +kernel) (Nat.le_of_ble_eq_true rfl) dX5_fromMood_2 (fun H locs hP hD hS => ?_)
  obtain ⟨S_1, eS_1⟩ : ∃ z : CS, z = (cx_set_m_toGladness S 1) := ⟨_, rfl⟩
  replace hw := hw S_1 eS_1
  have hP : va_P D vwCl (wC h cy S_1) H := by rw [eS_1, ← wCp_m_toGladness]; exact hP
  have hD : va_D A (wC h cy S_1) := by rw [eS_1, ← wCp_m_toGladness]; exact hD
  refine lv_iconst (v := 1) hx hb dX5_fromMood_5 (by decide) ?_
  refine lv_iload_n hx hb dX5_fromMood_6 rfl (lv_at hl 1 rfl) ?_
  refine k_ishl hx hb dX5_fromMood_7 ?_
  exact W.iret (v := k_shl 1 p1) hx hb hr (fun t ht hW => ⟨⟨k_shl 1 p1, S_1, rfl, hw, by rw [ht]; exact hP, va_K.moved hW.alike hK, hD⟩, hS.F ht⟩) hS.2.2 dX5_fromMood_8
def wC_X7_answer_47 (post : Int32 → CS → Prop) : Nat → Int32 → Int64 → Int32 → CS → Prop
  | 0, _, _, _, _ => False
  | n + 1, x1, x2, x4, S => ((x4 ≤ x1 → post (Int64.toInt32 (k_remL x2 5)) S) ∧ (¬ (x4 ≤ x1) → wC_X7_answer_47 post n x1 (x2 / 5) (x4 + (-1)) S))
def wC_X7_answer (p1 : Int32) (S : CS) (post : Int32 → CS → Prop) : Prop := (((cx_s_length S) = (-1) → post (-2) S) ∧ (¬ ((cx_s_length S) = (-1)) → ((p1 < (-1) → post (-2) S) ∧ (¬ (p1 < (-1)) → ((p1 < (cx_s_length S) → ((p1 = (-1) → post (cx_s_length S) S) ∧ (¬ (p1 = (-1)) → ∃ k_ : Nat, wC_X7_answer_47 post k_ p1 (cx_s_path S) ((cx_s_length S) - 1) S))) ∧ (¬ (p1 < (cx_s_length S)) → post (-2) S))))))
set_option maxHeartbeats 4000000 in
set_option maxRecDepth 100000 in
theorem cC_X7_answer (l : Launch) (D : va_G) (h : Nat → Nat) (cy : Nat → ClassId) (p1 : Int32) (S : CS) (post : Int32 → CS → Prop) (hw : wC_X7_answer p1 S post) : e_Mi nxE l yX7_answer wsX7_answer { frames := 0, cells := 0, slots := 0, locals := 0 } D (tyC cy) (wC h cy) [.ref (h 8), .int p1] S post := by
  intro sz
  refine Met.ofW (cc := cX7_answer) (maxL := 5) (ret := (some .int)) (by decide) rfl ?_
  intro p e s m args below meth c s₁ B hml hv
  obtain ⟨rfl, hsz, hP, hK, hD0, hs⟩ := hv
  have hx := B.exec
  have hb := B.bytes
  have hr := B.returns
  have hts := atoms_spec (ws := wsX7_answer) B.pre
  have hown : s.vm.findClass RX7 = some m.cls := findClass_of_methodNamed B.named
  have hlocks := B.notSynchronized
  subst hsz
  have hD := hD0.self (sz := s.heap.size)
  generalize hAe : va_A (wC h cy S) s.heap.size = A at hD ⊢
  have hA : ∀ q : Nat, s.heap.size ≤ q → A q := fun q h => by rw [← hAe]; exact Or.inr h
  have hS : va_S A s.heap s.heap [] := va_S.rf
  have hin7 : ∀ w ∈ wsX70, w ∈ wsX7_answer := fun _ h => List.mem_cons_of_mem _ (List.mem_append_right _ h)
  have wc55 := hts (.constantLong RX7 55 (5)) (List.mem_of_getElem? (i := 3) rfl)
  have w26 := hts (.fieldLink RX7 26 "ClownsMourn$Search" "length" "I") (List.mem_of_getElem? (i := 1) rfl)
  have w29 := hts (.fieldLink RX7 29 "ClownsMourn$Search" "path" "J") (List.mem_of_getElem? (i := 2) rfl)
  have hl := lv_entry ([.ref (h 8), .int p1]) (n := 5) (Nat.le_of_ble_eq_true rfl)
  rw [lg_entry_eq]
  generalize (lg_sl ([.ref (h 8), .int p1]) ++ List.replicate (5 - (lg_sl ([.ref (h 8), .int p1])).length) Slot.unset).toArray = ls at hl ⊢
  have hl : lv_has ls 5 [(0, .ref (h 8)), (1, .int p1)] := hl
  unfold wC_X7_answer at hw
  clear hD0
  have L_47 : ∀ (n47 : Nat) (x1 : Int32) (x2 : Int64) (x4 : Int32) (S : CS) (H : Heap) (locs : List Loc) (ls : Array Slot), wC_X7_answer_47 post n47 x1 x2 x4 S → va_P D vwCl (wC h cy S) H → va_D A (wC h cy S) → va_S A s.heap H locs → lv_has ls 5 [(1, .int x1), (2, .long x2), (4, .int x4)] → W p l e (headSpec wsX7_answer { frames := 0, cells := 0, slots := 0, locals := 0 }).room s m (([.ref (h 8), .int p1] : List Value).toArray) below meth c H locs 0 0 (MQ below (va_Qi post (k_Post D (tyC cy) (wC h cy) A) A) (([.ref (h 8), .int p1] : List Value).toArray) s 0 0 A) (F0 m 47 ls []) := by
    intro n47
    induction n47 with
    | zero => intro x1 x2 x4 S H locs ls hw; exact False.elim hw
    | succ n47 ih_47 =>
      intro x1 x2 x4 S H locs ls hw hP hD hS hl
      unfold wC_X7_answer_47 at hw
      refine lv_iload hx hb dX7_answer_47 (lv_at hl 2 rfl) ?_
      refine lv_iload_n hx hb dX7_answer_49 rfl (lv_at hl 0 rfl) ?_
      obtain ⟨hc_1t, hc_1f⟩ := hw
      refine lv_icmp_le (tgt := 65) hx hb dX7_answer_50 (by decide) (fun c_1 => ?_) (fun c_1 => ?_)
      · have hw := hc_1t c_1
        clear hc_1t hc_1f
        refine lv_lload_n hx hb dX7_answer_65 rfl (lv_at hl 1 rfl) ?_
        refine lv_ldc2 (v := 5) hx hb hown wc55 dX7_answer_66 ?_
        refine k_lrem hx hb dX7_answer_69 (by decide) ?_
        refine lv_l2i (v := Int64.toInt32 (k_remL x2 5)) hx hb dX7_answer_70 rfl ?_
        exact W.iret (v := Int64.toInt32 (k_remL x2 5)) hx hb hr (fun t ht hW => ⟨⟨Int64.toInt32 (k_remL x2 5), S, rfl, hw, by rw [ht]; exact hP, va_K.moved hW.alike hK, hD⟩, hS.F ht⟩) hS.2.2 dX7_answer_71
      · have hw := hc_1f c_1
        clear hc_1t hc_1f
        refine lv_lload_n hx hb dX7_answer_53 rfl (lv_at hl 1 rfl) ?_
        refine lv_ldc2 (v := 5) hx hb hown wc55 dX7_answer_54 ?_
        refine lv_ldiv hx hb dX7_answer_57 (by decide) ?_
        refine lv_lstore_n (lv' := [(2, .long (x2 / 5)), (1, .int x1), (4, .int x4)]) hx hb dX7_answer_58 rfl hl (by decide) rfl (fun ls hl => ?_)
        refine lv_iinc (v := x4 + (-1)) (lv' := [(4, .int (x4 + (-1))), (2, .long (x2 / 5)), (1, .int x1)]) hx hb dX7_answer_59 hl (k := 2) rfl (k_inc (by decide)) (by decide) rfl (fun ls hl => ?_)
        refine lv_goto (tgt := 47) hx hb dX7_answer_62 (by decide) ?_
        exact ih_47 x1 (x2 / 5) (x4 + (-1)) S _ _ _ hw hP hD hS (lv_sub hl [2, 1, 0] rfl)
  refine lv_aload_n hx hb dX7_answer_0 rfl (lv_at hl 0 rfl) ?_
  refine va_get (D := D) (ci := 7) (v := .int (cx_s_length S)) (C := RX7) (T := TX7) (N := 6) hx hb hts hin7 hown hK hP 8 rfl rfl 4 (by decide) w26 (fun _ h9 => h9) rfl dX7_answer_1 ?_
  refine lv_iconst (v := (-1)) hx hb dX7_answer_4 (by decide) ?_
  obtain ⟨hc_2t, hc_2f⟩ := hw
  refine lv_icmp_eq (tgt := 21) hx hb dX7_answer_5 (by decide) (fun c_2 => ?_) (fun c_2 => ?_)
  · have hw := hc_2t c_2
    clear hc_2t hc_2f
    refine lv_bipush (v := (-2)) hx hb dX7_answer_21 (by decide) ?_
    exact W.iret (v := (-2)) hx hb hr (fun t ht hW => ⟨⟨(-2), S, rfl, hw, by rw [ht]; exact hP, va_K.moved hW.alike hK, hD⟩, hS.F ht⟩) hS.2.2 dX7_answer_23
  · have hw := hc_2f c_2
    clear hc_2t hc_2f
    refine lv_iload_n hx hb dX7_answer_8 rfl (lv_at hl 1 rfl) ?_
    refine lv_iconst (v := (-1)) hx hb dX7_answer_9 (by decide) ?_
    obtain ⟨hc_3t, hc_3f⟩ := hw
    refine lv_icmp_lt (tgt := 21) hx hb dX7_answer_10 (by decide) (fun c_3 => ?_) (fun c_3 => ?_)
    · have hw := hc_3t c_3
      clear hc_3t hc_3f
      refine lv_bipush (v := (-2)) hx hb dX7_answer_21 (by decide) ?_
      exact W.iret (v := (-2)) hx hb hr (fun t ht hW => ⟨⟨(-2), S, rfl, hw, by rw [ht]; exact hP, va_K.moved hW.alike hK, hD⟩, hS.F ht⟩) hS.2.2 dX7_answer_23
    · have hw := hc_3f c_3
      clear hc_3t hc_3f
      refine lv_iload_n hx hb dX7_answer_13 rfl (lv_at hl 1 rfl) ?_
      refine lv_aload_n hx hb dX7_answer_14 rfl (lv_at hl 0 rfl) ?_
      refine va_get (D := D) (ci := 7) (v := .int (cx_s_length S)) (C := RX7) (T := TX7) (N := 6) hx hb hts hin7 hown hK hP 8 rfl rfl 4 (by decide) w26 (fun _ h9 => h9) rfl dX7_answer_15 ?_
      obtain ⟨hc_4t, hc_4f⟩ := hw
      refine lv_icmp_lt (tgt := 24) hx hb dX7_answer_18 (by decide) (fun c_4 => ?_) (fun c_4 => ?_)
      · have hw := hc_4t c_4
        clear hc_4t hc_4f
        refine lv_iload_n hx hb dX7_answer_24 rfl (lv_at hl 1 rfl) ?_
        refine lv_iconst (v := (-1)) hx hb dX7_answer_25 (by decide) ?_
        obtain ⟨hc_5t, hc_5f⟩ := hw
        refine lv_icmp_ne (tgt := 34) hx hb dX7_answer_26 (by decide) (fun c_5 => ?_) (fun c_5 => ?_)
        · have hw := hc_5f c_5
          clear hc_5t hc_5f
          refine lv_aload_n hx hb dX7_answer_34 rfl (lv_at hl 0 rfl) ?_
          refine va_get (D := D) (ci := 7) (v := .long (cx_s_path S)) (C := RX7) (T := TX7) (N := 6) hx hb hts hin7 hown hK hP 8 rfl rfl 5 (by decide) w29 (fun _ h9 => h9) rfl dX7_answer_35 ?_
          refine lv_lstore_n (lv' := [(2, .long (cx_s_path S)), (0, .ref (h 8)), (1, .int p1)]) hx hb dX7_answer_38 rfl hl (by decide) rfl (fun ls hl => ?_)
          refine lv_aload_n hx hb dX7_answer_39 rfl (lv_at hl 1 rfl) ?_
          refine va_get (D := D) (ci := 7) (v := .int (cx_s_length S)) (C := RX7) (T := TX7) (N := 6) hx hb hts hin7 hown hK hP 8 rfl rfl 4 (by decide) w26 (fun _ h9 => h9) rfl dX7_answer_40 ?_
          refine lv_iconst (v := 1) hx hb dX7_answer_43 (by decide) ?_
          refine lv_isub hx hb dX7_answer_44 ?_
          refine lv_istore (lv' := [(4, .int ((cx_s_length S) - 1)), (2, .long (cx_s_path S)), (0, .ref (h 8)), (1, .int p1)]) hx hb dX7_answer_45 hl (by decide) rfl (fun ls hl => ?_)
          obtain ⟨n_47, hw⟩ := hw
          exact L_47 n_47 p1 (cx_s_path S) ((cx_s_length S) - 1) S _ _ _ hw hP hD hS (lv_sub hl [3, 1, 0] rfl)
        · have hw := hc_5t c_5
          clear hc_5t hc_5f
          refine lv_aload_n hx hb dX7_answer_29 rfl (lv_at hl 0 rfl) ?_
          refine va_get (D := D) (ci := 7) (v := .int (cx_s_length S)) (C := RX7) (T := TX7) (N := 6) hx hb hts hin7 hown hK hP 8 rfl rfl 4 (by decide) w26 (fun _ h9 => h9) rfl dX7_answer_30 ?_
          exact W.iret (v := (cx_s_length S)) hx hb hr (fun t ht hW => ⟨⟨(cx_s_length S), S, rfl, hw, by rw [ht]; exact hP, va_K.moved hW.alike hK, hD⟩, hS.F ht⟩) hS.2.2 dX7_answer_33
      · have hw := hc_4f c_4
        clear hc_4t hc_4f
        refine lv_bipush (v := (-2)) hx hb dX7_answer_21 (by decide) ?_
        exact W.iret (v := (-2)) hx hb hr (fun t ht hW => ⟨⟨(-2), S, rfl, hw, by rw [ht]; exact hP, va_K.moved hW.alike hK, hD⟩, hS.F ht⟩) hS.2.2 dX7_answer_23
def wC_X5_fromEveryMood (S : CS) (post : Int32 → CS → Prop) : Prop := (∀ S_1 : CS, S_1 = (cx_set_m_toGladness S 0) → post 1023 S_1)
set_option maxHeartbeats 4000000 in
set_option maxRecDepth 100000 in
theorem cC_X5_fromEveryMood (l : Launch) (D : va_G) (h : Nat → Nat) (cy : Nat → ClassId) (S : CS) (post : Int32 → CS → Prop) (hw : wC_X5_fromEveryMood S post) : e_Mi nxE l yX5_fromEveryMood wsX5_fromEveryMood { frames := 0, cells := 0, slots := 0, locals := 0 } D (tyC cy) (wC h cy) [.ref (h 9)] S post := by
  intro sz
  refine Met.ofW (cc := cX5_fromEveryMood) (maxL := 1) (ret := (some .int)) (by decide) rfl ?_
  intro p e s m args below meth c s₁ B hml hv
  obtain ⟨rfl, hsz, hP, hK, hD0, hs⟩ := hv
  have hx := B.exec
  have hb := B.bytes
  have hr := B.returns
  have hts := atoms_spec (ws := wsX5_fromEveryMood) B.pre
  have hown : s.vm.findClass RX5 = some m.cls := findClass_of_methodNamed B.named
  have hlocks := B.notSynchronized
  subst hsz
  have hD := hD0.self (sz := s.heap.size)
  generalize hAe : va_A (wC h cy S) s.heap.size = A at hD ⊢
  have hA : ∀ q : Nat, s.heap.size ≤ q → A q := fun q h => by rw [← hAe]; exact Or.inr h
  have hS : va_S A s.heap s.heap [] := va_S.rf
  have hin5 : ∀ w ∈ wsX50, w ∈ wsX5_fromEveryMood := fun _ h => List.mem_cons_of_mem _ (List.mem_append_right _ h)
  have w9 := hts (.fieldLink RX5 9 "ClownsMourn$MoodWalk" "toGladness" "Z") (List.mem_of_getElem? (i := 1) rfl)
  have hl := lv_entry ([.ref (h 9)]) (n := 1) (Nat.le_of_ble_eq_true rfl)
  rw [lg_entry_eq]
  generalize (lg_sl ([.ref (h 9)]) ++ List.replicate (1 - (lg_sl ([.ref (h 9)])).length) Slot.unset).toArray = ls at hl ⊢
  have hl : lv_has ls 1 [(0, .ref (h 9))] := hl
  unfold wC_X5_fromEveryMood at hw
  clear hD0
  refine lv_aload_n hx hb dX5_fromEveryMood_0 rfl (lv_at hl 0 rfl) ?_
  refine lv_iconst (v := 0) hx hb dX5_fromEveryMood_1 (by decide) ?_
  refine va_put (D := D) (ci := 5) (v := .int 0) (ty := .boolean) (C := RX5) (T := TX5) (N := 2) hx hb hts hin5 tyX5 tyX5_ok nmX5 hown hK hP hD hS 9 rfl rfl 1 (by decide) w9 (fun _ h9 => h9) rfl (tyX5_ok 1 (by decide)) (by decide +kernel) (by decide +kernel) (Nat.le_of_ble_eq_true rfl) dX5_fromEveryMood_2 (fun H locs hP hD hS => ?_)
  obtain ⟨S_1, eS_1⟩ : ∃ z : CS, z = (cx_set_m_toGladness S 0) := ⟨_, rfl⟩
  replace hw := hw S_1 eS_1
  have hP : va_P D vwCl (wC h cy S_1) H := by rw [eS_1, ← wCp_m_toGladness]; exact hP
  have hD : va_D A (wC h cy S_1) := by rw [eS_1, ← wCp_m_toGladness]; exact hD
  refine lv_sipush (v := 1023) hx hb dX5_fromEveryMood_5 (by decide) ?_
  exact W.iret (v := 1023) hx hb hr (fun t ht hW => ⟨⟨1023, S_1, rfl, hw, by rw [ht]; exact hP, va_K.moved hW.alike hK, hD⟩, hS.F ht⟩) hS.2.2 dX5_fromEveryMood_8
def wC_X1_begin (p1 : Int32) (p2 : Int32) (S : CS) (post : Int32 → CS → Prop) : Prop := (∀ S_1 : CS, S_1 = (cx_set_f_clown S p1) → wC_X0_see 29 p1 S_1 (fun r_2 S_3 => (∀ S_4 : CS, S_4 = (cx_set_f_house S_3 r_2) → wC_X0_see 24 p1 S_4 (fun r_5 S_6 => (∀ S_7 : CS, S_7 = (cx_set_f_tired S_6 r_5) → (∀ S_8 : CS, S_8 = (cx_set_f_enough S_7 p2) → wC_X0_see 6 (cx_f_house S_8) S_8 (fun r_9 S_10 => wC_X0_see 0 (cx_f_house S_10) S_10 (fun r_11 S_12 => post ((r_9 * 100) + r_11) S_12))))))))
set_option maxHeartbeats 4000000 in
set_option maxRecDepth 100000 in
theorem cC_X1_begin (l : Launch) (D : va_G) (h : Nat → Nat) (cy : Nat → ClassId) (p1 : Int32) (p2 : Int32) (S : CS) (post : Int32 → CS → Prop) (hw : wC_X1_begin p1 p2 S post) : e_Mi nxE l yX1_begin wsX1_begin { frames := 2, cells := 0, slots := 0, locals := 43 } D (tyC cy) (wC h cy) [.ref (h 10), .int p1, .int p2] S post := by
  intro sz
  refine Met.ofW (cc := cX1_begin) (maxL := 3) (ret := (some .int)) (by decide) rfl ?_
  intro p e s m args below meth c s₁ B hml hv
  obtain ⟨rfl, hsz, hP, hK, hD0, hs⟩ := hv
  have hx := B.exec
  have hb := B.bytes
  have hr := B.returns
  have hts := atoms_spec (ws := wsX1_begin) B.pre
  have hown : s.vm.findClass RX1 = some m.cls := findClass_of_methodNamed B.named
  have hlocks := B.notSynchronized
  subst hsz
  have hD := hD0.self (sz := s.heap.size)
  generalize hAe : va_A (wC h cy S) s.heap.size = A at hD ⊢
  have hA : ∀ q : Nat, s.heap.size ≤ q → A q := fun q h => by rw [← hAe]; exact Or.inr h
  have hS : va_S A s.heap s.heap [] := va_S.rf
  have hin1 : ∀ w ∈ wsX10, w ∈ wsX1_begin := fun _ h => List.mem_cons_of_mem _ (List.mem_append_left _ (List.mem_append_right _ h))
  have hin0 : ∀ w ∈ wsX00, w ∈ wsX1_begin := fun _ h => List.mem_cons_of_mem _ (List.mem_append_right _ h)
  have w13 := hts (.fieldLink RX1 13 "ClownsMourn$ComfortWalk" "clown" "I") (List.mem_of_getElem? (i := 1) rfl)
  have w16 := hts (.fieldLink RX1 16 "ClownsMourn$ComfortWalk" "house" "I") (List.mem_of_getElem? (i := 3) rfl)
  have w19 := hts (.fieldLink RX1 19 "ClownsMourn$ComfortWalk" "enough" "I") (List.mem_of_getElem? (i := 5) rfl)
  have w22 := hts (.fieldLink RX1 22 "ClownsMourn$ComfortWalk" "city" "LClownsMourn$City;") (List.mem_of_getElem? (i := 2) rfl)
  have w7 := hts (.fieldLink RX1 7 "ClownsMourn$ComfortWalk" "tired" "I") (List.mem_of_getElem? (i := 4) rfl)
  have hl := lv_entry ([.ref (h 10), .int p1, .int p2]) (n := 3) (Nat.le_of_ble_eq_true rfl)
  rw [lg_entry_eq]
  generalize (lg_sl ([.ref (h 10), .int p1, .int p2]) ++ List.replicate (3 - (lg_sl ([.ref (h 10), .int p1, .int p2])).length) Slot.unset).toArray = ls at hl ⊢
  have hl : lv_has ls 3 [(0, .ref (h 10)), (1, .int p1), (2, .int p2)] := hl
  unfold wC_X1_begin at hw
  clear hD0
  refine lv_aload_n hx hb dX1_begin_0 rfl (lv_at hl 0 rfl) ?_
  refine lv_iload_n hx hb dX1_begin_1 rfl (lv_at hl 1 rfl) ?_
  refine va_put (D := D) (ci := 1) (v := .int p1) (ty := .int) (C := RX1) (T := TX1) (N := 6) hx hb hts hin1 tyX1 tyX1_ok nmX1 hown hK hP hD hS 10 rfl rfl 3 (by decide) w13 (fun _ h9 => h9) rfl (tyX1_ok 3 (by decide)) rfl rfl (Nat.le_of_ble_eq_true rfl) dX1_begin_2 (fun H locs hP hD hS => ?_)
  obtain ⟨S_1, eS_1⟩ : ∃ z : CS, z = (cx_set_f_clown S p1) := ⟨_, rfl⟩
  replace hw := hw S_1 eS_1
  have hP : va_P D vwCl (wC h cy S_1) H := by rw [eS_1, ← wCp_f_clown]; exact hP
  have hD : va_D A (wC h cy S_1) := by rw [eS_1, ← wCp_f_clown]; exact hD
  refine lv_aload_n hx hb dX1_begin_5 rfl (lv_at hl 0 rfl) ?_
  refine lv_aload_n hx hb dX1_begin_6 rfl (lv_at hl 0 rfl) ?_
  refine va_get (D := D) (ci := 1) (v := .ref (h 1)) (C := RX1) (T := TX1) (N := 6) hx hb hts hin1 hown hK hP 10 rfl rfl 1 (by decide) w22 (fun _ h9 => h9) rfl dX1_begin_7 ?_
  refine lv_bipush (v := 29) hx hb dX1_begin_10 (by decide) ?_
  refine lv_iload_n hx hb dX1_begin_12 rfl (lv_at hl 1 rfl) ?_
  refine e_callVi (As := [.int 29, .int p1]) (rest := [.ref (h 10)]) nxE_stable hs ⟨hx, hb, hml, hown, hts⟩ (cC_X0_see l D h cy _ _ _ _ hw) (cwV 2 hts gX1_begin_X0_see rfl rfl rfl (by decide +kernel) ⟨Nat.le_of_ble_eq_true rfl, Nat.le_of_ble_eq_true rfl⟩) (va_recv hK hP (ci := 0) (q0 := 1) rfl rfl) hK hP hD hS hA rfl hl.1 rfl (Nat.le_of_ble_eq_true rfl) dX1_begin_13 ⟨Nat.zero_le _, Nat.zero_le _⟩ (fun r_2 S_3 H locs hw hP hD hS => ?_)
  refine va_put (D := D) (ci := 1) (v := .int r_2) (ty := .int) (C := RX1) (T := TX1) (N := 6) hx hb hts hin1 tyX1 tyX1_ok nmX1 hown hK hP hD hS 10 rfl rfl 4 (by decide) w16 (fun _ h9 => h9) rfl (tyX1_ok 4 (by decide)) rfl rfl (Nat.le_of_ble_eq_true rfl) dX1_begin_16 (fun H locs hP hD hS => ?_)
  obtain ⟨S_4, eS_4⟩ : ∃ z : CS, z = (cx_set_f_house S_3 r_2) := ⟨_, rfl⟩
  replace hw := hw S_4 eS_4
  have hP : va_P D vwCl (wC h cy S_4) H := by rw [eS_4, ← wCp_f_house]; exact hP
  have hD : va_D A (wC h cy S_4) := by rw [eS_4, ← wCp_f_house]; exact hD
  refine lv_aload_n hx hb dX1_begin_19 rfl (lv_at hl 0 rfl) ?_
  refine lv_aload_n hx hb dX1_begin_20 rfl (lv_at hl 0 rfl) ?_
  refine va_get (D := D) (ci := 1) (v := .ref (h 1)) (C := RX1) (T := TX1) (N := 6) hx hb hts hin1 hown hK hP 10 rfl rfl 1 (by decide) w22 (fun _ h9 => h9) rfl dX1_begin_21 ?_
  refine lv_bipush (v := 24) hx hb dX1_begin_24 (by decide) ?_
  refine lv_iload_n hx hb dX1_begin_26 rfl (lv_at hl 1 rfl) ?_
  refine e_callVi (As := [.int 24, .int p1]) (rest := [.ref (h 10)]) nxE_stable hs ⟨hx, hb, hml, hown, hts⟩ (cC_X0_see l D h cy _ _ _ _ hw) (cwV 2 hts gX1_begin_X0_see rfl rfl rfl (by decide +kernel) ⟨Nat.le_of_ble_eq_true rfl, Nat.le_of_ble_eq_true rfl⟩) (va_recv hK hP (ci := 0) (q0 := 1) rfl rfl) hK hP hD hS hA rfl hl.1 rfl (Nat.le_of_ble_eq_true rfl) dX1_begin_27 ⟨Nat.zero_le _, Nat.zero_le _⟩ (fun r_5 S_6 H locs hw hP hD hS => ?_)
  refine va_put (D := D) (ci := 1) (v := .int r_5) (ty := .int) (C := RX1) (T := TX1) (N := 6) hx hb hts hin1 tyX1 tyX1_ok nmX1 hown hK hP hD hS 10 rfl rfl 0 (by decide) w7 (fun _ h9 => h9) rfl (tyX1_ok 0 (by decide)) rfl rfl (Nat.le_of_ble_eq_true rfl) dX1_begin_30 (fun H locs hP hD hS => ?_)
  obtain ⟨S_7, eS_7⟩ : ∃ z : CS, z = (cx_set_f_tired S_6 r_5) := ⟨_, rfl⟩
  replace hw := hw S_7 eS_7
  have hP : va_P D vwCl (wC h cy S_7) H := by rw [eS_7, ← wCp_f_tired]; exact hP
  have hD : va_D A (wC h cy S_7) := by rw [eS_7, ← wCp_f_tired]; exact hD
  refine lv_aload_n hx hb dX1_begin_33 rfl (lv_at hl 0 rfl) ?_
  refine lv_iload_n hx hb dX1_begin_34 rfl (lv_at hl 2 rfl) ?_
  refine va_put (D := D) (ci := 1) (v := .int p2) (ty := .int) (C := RX1) (T := TX1) (N := 6) hx hb hts hin1 tyX1 tyX1_ok nmX1 hown hK hP hD hS 10 rfl rfl 5 (by decide) w19 (fun _ h9 => h9) rfl (tyX1_ok 5 (by decide)) rfl rfl (Nat.le_of_ble_eq_true rfl) dX1_begin_35 (fun H locs hP hD hS => ?_)
  obtain ⟨S_8, eS_8⟩ : ∃ z : CS, z = (cx_set_f_enough S_7 p2) := ⟨_, rfl⟩
  replace hw := hw S_8 eS_8
  have hP : va_P D vwCl (wC h cy S_8) H := by rw [eS_8, ← wCp_f_enough]; exact hP
  have hD : va_D A (wC h cy S_8) := by rw [eS_8, ← wCp_f_enough]; exact hD
  refine lv_aload_n hx hb dX1_begin_38 rfl (lv_at hl 0 rfl) ?_
  refine va_get (D := D) (ci := 1) (v := .ref (h 1)) (C := RX1) (T := TX1) (N := 6) hx hb hts hin1 hown hK hP 10 rfl rfl 1 (by decide) w22 (fun _ h9 => h9) rfl dX1_begin_39 ?_
  refine lv_bipush (v := 6) hx hb dX1_begin_42 (by decide) ?_
  refine lv_aload_n hx hb dX1_begin_44 rfl (lv_at hl 0 rfl) ?_
  refine va_get (D := D) (ci := 1) (v := .int (cx_f_house S_8)) (C := RX1) (T := TX1) (N := 6) hx hb hts hin1 hown hK hP 10 rfl rfl 4 (by decide) w16 (fun _ h9 => h9) rfl dX1_begin_45 ?_
  refine e_callVi (As := [.int 6, .int (cx_f_house S_8)]) (rest := []) nxE_stable hs ⟨hx, hb, hml, hown, hts⟩ (cC_X0_see l D h cy _ _ _ _ hw) (cwV 2 hts gX1_begin_X0_see rfl rfl rfl (by decide +kernel) ⟨Nat.le_of_ble_eq_true rfl, Nat.le_of_ble_eq_true rfl⟩) (va_recv hK hP (ci := 0) (q0 := 1) rfl rfl) hK hP hD hS hA rfl hl.1 rfl (Nat.le_of_ble_eq_true rfl) dX1_begin_48 ⟨Nat.zero_le _, Nat.zero_le _⟩ (fun r_9 S_10 H locs hw hP hD hS => ?_)
  refine lv_bipush (v := 100) hx hb dX1_begin_51 (by decide) ?_
  refine lv_imul hx hb dX1_begin_53 ?_
  refine lv_aload_n hx hb dX1_begin_54 rfl (lv_at hl 0 rfl) ?_
  refine va_get (D := D) (ci := 1) (v := .ref (h 1)) (C := RX1) (T := TX1) (N := 6) hx hb hts hin1 hown hK hP 10 rfl rfl 1 (by decide) w22 (fun _ h9 => h9) rfl dX1_begin_55 ?_
  refine lv_iconst (v := 0) hx hb dX1_begin_58 (by decide) ?_
  refine lv_aload_n hx hb dX1_begin_59 rfl (lv_at hl 0 rfl) ?_
  refine va_get (D := D) (ci := 1) (v := .int (cx_f_house S_10)) (C := RX1) (T := TX1) (N := 6) hx hb hts hin1 hown hK hP 10 rfl rfl 4 (by decide) w16 (fun _ h9 => h9) rfl dX1_begin_60 ?_
  refine e_callVi (As := [.int 0, .int (cx_f_house S_10)]) (rest := [.int (r_9 * 100)]) nxE_stable hs ⟨hx, hb, hml, hown, hts⟩ (cC_X0_see l D h cy _ _ _ _ hw) (cwV 2 hts gX1_begin_X0_see rfl rfl rfl (by decide +kernel) ⟨Nat.le_of_ble_eq_true rfl, Nat.le_of_ble_eq_true rfl⟩) (va_recv hK hP (ci := 0) (q0 := 1) rfl rfl) hK hP hD hS hA rfl hl.1 rfl (Nat.le_of_ble_eq_true rfl) dX1_begin_63 ⟨Nat.zero_le _, Nat.zero_le _⟩ (fun r_11 S_12 H locs hw hP hD hS => ?_)
  refine lv_iadd hx hb dX1_begin_66 ?_
  exact W.iret (v := (r_9 * 100) + r_11) hx hb hr (fun t ht hW => ⟨⟨(r_9 * 100) + r_11, S_12, rfl, hw, by rw [ht]; exact hP, va_K.moved hW.alike hK, hD⟩, hS.F ht⟩) hS.2.2 dX1_begin_67
def wC_X1_become (p1 : Int32) (p2 : Int32) (S : CS) (post : CS → Prop) : Prop := wC_X0_set 6 (cx_f_house S) (p1 / 100) S (fun S_2 => wC_X0_set 0 (cx_f_house S_2) (k_rem p1 100) S_2 (fun S_4 => wC_X0_set 24 (cx_f_clown S_4) p2 S_4 (fun S_6 => post S_6)))
set_option maxHeartbeats 4000000 in
set_option maxRecDepth 100000 in
theorem cC_X1_become (l : Launch) (D : va_G) (h : Nat → Nat) (cy : Nat → ClassId) (p1 : Int32) (p2 : Int32) (S : CS) (post : CS → Prop) (hw : wC_X1_become p1 p2 S post) : e_Mv nxE l yX1_become wsX1_become { frames := 2, cells := 0, slots := 0, locals := 45 } D (tyC cy) (wC h cy) [.ref (h 10), .int p1, .int p2] S post := by
  intro sz
  refine Met.ofW (cc := cX1_become) (maxL := 3) (ret := none) (by decide) rfl ?_
  intro p e s m args below meth c s₁ B hml hv
  obtain ⟨rfl, hsz, hP, hK, hD0, hs⟩ := hv
  have hx := B.exec
  have hb := B.bytes
  have hr := B.returns
  have hts := atoms_spec (ws := wsX1_become) B.pre
  have hown : s.vm.findClass RX1 = some m.cls := findClass_of_methodNamed B.named
  have hlocks := B.notSynchronized
  subst hsz
  have hD := hD0.self (sz := s.heap.size)
  generalize hAe : va_A (wC h cy S) s.heap.size = A at hD ⊢
  have hA : ∀ q : Nat, s.heap.size ≤ q → A q := fun q h => by rw [← hAe]; exact Or.inr h
  have hS : va_S A s.heap s.heap [] := va_S.rf
  have hin1 : ∀ w ∈ wsX10, w ∈ wsX1_become := fun _ h => List.mem_cons_of_mem _ (List.mem_append_left _ (List.mem_append_right _ h))
  have hin0 : ∀ w ∈ wsX00, w ∈ wsX1_become := fun _ h => List.mem_cons_of_mem _ (List.mem_append_right _ h)
  have w13 := hts (.fieldLink RX1 13 "ClownsMourn$ComfortWalk" "clown" "I") (List.mem_of_getElem? (i := 3) rfl)
  have w16 := hts (.fieldLink RX1 16 "ClownsMourn$ComfortWalk" "house" "I") (List.mem_of_getElem? (i := 2) rfl)
  have w22 := hts (.fieldLink RX1 22 "ClownsMourn$ComfortWalk" "city" "LClownsMourn$City;") (List.mem_of_getElem? (i := 1) rfl)
  have hl := lv_entry ([.ref (h 10), .int p1, .int p2]) (n := 3) (Nat.le_of_ble_eq_true rfl)
  rw [lg_entry_eq]
  generalize (lg_sl ([.ref (h 10), .int p1, .int p2]) ++ List.replicate (3 - (lg_sl ([.ref (h 10), .int p1, .int p2])).length) Slot.unset).toArray = ls at hl ⊢
  have hl : lv_has ls 3 [(0, .ref (h 10)), (1, .int p1), (2, .int p2)] := hl
  unfold wC_X1_become at hw
  clear hD0
  refine lv_aload_n hx hb dX1_become_0 rfl (lv_at hl 0 rfl) ?_
  refine va_get (D := D) (ci := 1) (v := .ref (h 1)) (C := RX1) (T := TX1) (N := 6) hx hb hts hin1 hown hK hP 10 rfl rfl 1 (by decide) w22 (fun _ h9 => h9) rfl dX1_become_1 ?_
  refine lv_bipush (v := 6) hx hb dX1_become_4 (by decide) ?_
  refine lv_aload_n hx hb dX1_become_6 rfl (lv_at hl 0 rfl) ?_
  refine va_get (D := D) (ci := 1) (v := .int (cx_f_house S)) (C := RX1) (T := TX1) (N := 6) hx hb hts hin1 hown hK hP 10 rfl rfl 4 (by decide) w16 (fun _ h9 => h9) rfl dX1_become_7 ?_
  refine lv_iload_n hx hb dX1_become_10 rfl (lv_at hl 1 rfl) ?_
  refine lv_bipush (v := 100) hx hb dX1_become_11 (by decide) ?_
  refine lv_idiv hx hb dX1_become_13 (by decide) ?_
  refine e_callVv (As := [.int 6, .int (cx_f_house S), .int (p1 / 100)]) (rest := []) nxE_stable hs ⟨hx, hb, hml, hown, hts⟩ (cC_X0_set l D h cy _ _ _ _ _ hw) (cwV 3 hts gX1_become_X0_set rfl rfl rfl (by decide +kernel) ⟨Nat.le_of_ble_eq_true rfl, Nat.le_of_ble_eq_true rfl⟩) (va_recv hK hP (ci := 0) (q0 := 1) rfl rfl) hK hP hD hS hA rfl hl.1 rfl (Nat.le_of_ble_eq_true rfl) dX1_become_14 ⟨Nat.zero_le _, Nat.zero_le _⟩ (fun S_2 H locs hw hP hD hS => ?_)
  refine lv_aload_n hx hb dX1_become_17 rfl (lv_at hl 0 rfl) ?_
  refine va_get (D := D) (ci := 1) (v := .ref (h 1)) (C := RX1) (T := TX1) (N := 6) hx hb hts hin1 hown hK hP 10 rfl rfl 1 (by decide) w22 (fun _ h9 => h9) rfl dX1_become_18 ?_
  refine lv_iconst (v := 0) hx hb dX1_become_21 (by decide) ?_
  refine lv_aload_n hx hb dX1_become_22 rfl (lv_at hl 0 rfl) ?_
  refine va_get (D := D) (ci := 1) (v := .int (cx_f_house S_2)) (C := RX1) (T := TX1) (N := 6) hx hb hts hin1 hown hK hP 10 rfl rfl 4 (by decide) w16 (fun _ h9 => h9) rfl dX1_become_23 ?_
  refine lv_iload_n hx hb dX1_become_26 rfl (lv_at hl 1 rfl) ?_
  refine lv_bipush (v := 100) hx hb dX1_become_27 (by decide) ?_
  refine k_irem hx hb dX1_become_29 (by decide) ?_
  refine e_callVv (As := [.int 0, .int (cx_f_house S_2), .int (k_rem p1 100)]) (rest := []) nxE_stable hs ⟨hx, hb, hml, hown, hts⟩ (cC_X0_set l D h cy _ _ _ _ _ hw) (cwV 3 hts gX1_become_X0_set rfl rfl rfl (by decide +kernel) ⟨Nat.le_of_ble_eq_true rfl, Nat.le_of_ble_eq_true rfl⟩) (va_recv hK hP (ci := 0) (q0 := 1) rfl rfl) hK hP hD hS hA rfl hl.1 rfl (Nat.le_of_ble_eq_true rfl) dX1_become_30 ⟨Nat.zero_le _, Nat.zero_le _⟩ (fun S_4 H locs hw hP hD hS => ?_)
  refine lv_aload_n hx hb dX1_become_33 rfl (lv_at hl 0 rfl) ?_
  refine va_get (D := D) (ci := 1) (v := .ref (h 1)) (C := RX1) (T := TX1) (N := 6) hx hb hts hin1 hown hK hP 10 rfl rfl 1 (by decide) w22 (fun _ h9 => h9) rfl dX1_become_34 ?_
  refine lv_bipush (v := 24) hx hb dX1_become_37 (by decide) ?_
  refine lv_aload_n hx hb dX1_become_39 rfl (lv_at hl 0 rfl) ?_
  refine va_get (D := D) (ci := 1) (v := .int (cx_f_clown S_4)) (C := RX1) (T := TX1) (N := 6) hx hb hts hin1 hown hK hP 10 rfl rfl 3 (by decide) w13 (fun _ h9 => h9) rfl dX1_become_40 ?_
  refine lv_iload_n hx hb dX1_become_43 rfl (lv_at hl 2 rfl) ?_
  refine e_callVv (As := [.int 24, .int (cx_f_clown S_4), .int p2]) (rest := []) nxE_stable hs ⟨hx, hb, hml, hown, hts⟩ (cC_X0_set l D h cy _ _ _ _ _ hw) (cwV 3 hts gX1_become_X0_set rfl rfl rfl (by decide +kernel) ⟨Nat.le_of_ble_eq_true rfl, Nat.le_of_ble_eq_true rfl⟩) (va_recv hK hP (ci := 0) (q0 := 1) rfl rfl) hK hP hD hS hA rfl hl.1 rfl (Nat.le_of_ble_eq_true rfl) dX1_become_44 ⟨Nat.zero_le _, Nat.zero_le _⟩ (fun S_6 H locs hw hP hD hS => ?_)
  exact W.vret hx hb hr (fun t ht hW => ⟨⟨S_6, rfl, hw, by rw [ht]; exact hP, va_K.moved hW.alike hK, hD⟩, hS.F ht⟩) hS.2.2 dX1_become_47
def wC_X1_leaveAsItWas (p1 : Int32) (S : CS) (post : CS → Prop) : Prop := wC_X1_become p1 (cx_f_tired S) S (fun S_2 => post S_2)
set_option maxHeartbeats 4000000 in
set_option maxRecDepth 100000 in
theorem cC_X1_leaveAsItWas (l : Launch) (D : va_G) (h : Nat → Nat) (cy : Nat → ClassId) (p1 : Int32) (S : CS) (post : CS → Prop) (hw : wC_X1_leaveAsItWas p1 S post) : e_Mv nxE l yX1_leaveAsItWas wsX1_leaveAsItWas { frames := 3, cells := 0, slots := 0, locals := 67 } D (tyC cy) (wC h cy) [.ref (h 10), .int p1] S post := by
  intro sz
  refine Met.ofW (cc := cX1_leaveAsItWas) (maxL := 2) (ret := none) (by decide) rfl ?_
  intro p e s m args below meth c s₁ B hml hv
  obtain ⟨rfl, hsz, hP, hK, hD0, hs⟩ := hv
  have hx := B.exec
  have hb := B.bytes
  have hr := B.returns
  have hts := atoms_spec (ws := wsX1_leaveAsItWas) B.pre
  have hown : s.vm.findClass RX1 = some m.cls := findClass_of_methodNamed B.named
  have hlocks := B.notSynchronized
  subst hsz
  have hD := hD0.self (sz := s.heap.size)
  generalize hAe : va_A (wC h cy S) s.heap.size = A at hD ⊢
  have hA : ∀ q : Nat, s.heap.size ≤ q → A q := fun q h => by rw [← hAe]; exact Or.inr h
  have hS : va_S A s.heap s.heap [] := va_S.rf
  have hin1 : ∀ w ∈ wsX10, w ∈ wsX1_leaveAsItWas := fun _ h => List.mem_cons_of_mem _ (List.mem_append_left _ (List.mem_append_right _ h))
  have hin0 : ∀ w ∈ wsX00, w ∈ wsX1_leaveAsItWas := fun _ h => List.mem_cons_of_mem _ (List.mem_append_right _ h)
  have w7 := hts (.fieldLink RX1 7 "ClownsMourn$ComfortWalk" "tired" "I") (List.mem_of_getElem? (i := 1) rfl)
  have hl := lv_entry ([.ref (h 10), .int p1]) (n := 2) (Nat.le_of_ble_eq_true rfl)
  rw [lg_entry_eq]
  generalize (lg_sl ([.ref (h 10), .int p1]) ++ List.replicate (2 - (lg_sl ([.ref (h 10), .int p1])).length) Slot.unset).toArray = ls at hl ⊢
  have hl : lv_has ls 2 [(0, .ref (h 10)), (1, .int p1)] := hl
  unfold wC_X1_leaveAsItWas at hw
  clear hD0
  refine lv_aload_n hx hb dX1_leaveAsItWas_0 rfl (lv_at hl 0 rfl) ?_
  refine lv_iload_n hx hb dX1_leaveAsItWas_1 rfl (lv_at hl 1 rfl) ?_
  refine lv_aload_n hx hb dX1_leaveAsItWas_2 rfl (lv_at hl 0 rfl) ?_
  refine va_get (D := D) (ci := 1) (v := .int (cx_f_tired S)) (C := RX1) (T := TX1) (N := 6) hx hb hts hin1 hown hK hP 10 rfl rfl 0 (by decide) w7 (fun _ h9 => h9) rfl dX1_leaveAsItWas_3 ?_
  refine e_callVv (As := [.int p1, .int (cx_f_tired S)]) (rest := []) nxE_stable hs ⟨hx, hb, hml, hown, hts⟩ (cC_X1_become l D h cy _ _ _ _ hw) (cwV 2 hts gX1_leaveAsItWas_X1_become rfl rfl rfl (by decide +kernel) ⟨Nat.le_of_ble_eq_true rfl, Nat.le_of_ble_eq_true rfl⟩) (va_recv hK hP (ci := 1) (q0 := 10) rfl rfl) hK hP hD hS hA rfl hl.1 rfl (Nat.le_of_ble_eq_true rfl) dX1_leaveAsItWas_6 ⟨Nat.zero_le _, Nat.zero_le _⟩ (fun S_2 H locs hw hP hD hS => ?_)
  exact W.vret hx hb hr (fun t ht hW => ⟨⟨S_2, rfl, hw, by rw [ht]; exact hP, va_K.moved hW.alike hK, hD⟩, hS.F ht⟩) hS.2.2 dX1_leaveAsItWas_9
def wC_X0_turnedSet_5 (post : Int32 → CS → Prop) : Nat → Int32 → Int32 → Int32 → Int32 → CS → Prop
  | 0, _, _, _, _, _ => False
  | n + 1, x1, x2, x3, x4, S => ((10 ≤ x4 → post x3 S) ∧ (¬ (10 ≤ x4) → ((((k_shr x2 x4) &&& 1) = 1 → wC_X0_turned x1 x4 S (fun r_3 S_4 => wC_X0_turnedSet_5 post n x1 x2 (x3 ||| (k_shl 1 r_3)) (x4 + 1) S_4)) ∧ (¬ (((k_shr x2 x4) &&& 1) = 1) → wC_X0_turnedSet_5 post n x1 x2 x3 (x4 + 1) S))))
def wC_X0_turnedSet (p1 : Int32) (p2 : Int32) (S : CS) (post : Int32 → CS → Prop) : Prop := ∃ k_ : Nat, wC_X0_turnedSet_5 post k_ p1 p2 0 0 S
set_option maxHeartbeats 4000000 in
set_option maxRecDepth 100000 in
theorem cC_X0_turnedSet (l : Launch) (D : va_G) (h : Nat → Nat) (cy : Nat → ClassId) (p1 : Int32) (p2 : Int32) (S : CS) (post : Int32 → CS → Prop) (hw : wC_X0_turnedSet p1 p2 S post) : e_Mi nxE l yX0_turnedSet wsX0_turnedSet { frames := 2, cells := 0, slots := 0, locals := 43 } D (tyC cy) (wC h cy) [.ref (h 1), .int p1, .int p2] S post := by
  intro sz
  refine Met.ofW (cc := cX0_turnedSet) (maxL := 5) (ret := (some .int)) (by decide) rfl ?_
  intro p e s m args below meth c s₁ B hml hv
  obtain ⟨rfl, hsz, hP, hK, hD0, hs⟩ := hv
  have hx := B.exec
  have hb := B.bytes
  have hr := B.returns
  have hts := atoms_spec (ws := wsX0_turnedSet) B.pre
  have hown : s.vm.findClass RX0 = some m.cls := findClass_of_methodNamed B.named
  have hlocks := B.notSynchronized
  subst hsz
  have hD := hD0.self (sz := s.heap.size)
  generalize hAe : va_A (wC h cy S) s.heap.size = A at hD ⊢
  have hA : ∀ q : Nat, s.heap.size ≤ q → A q := fun q h => by rw [← hAe]; exact Or.inr h
  have hS : va_S A s.heap s.heap [] := va_S.rf
  have hl := lv_entry ([.ref (h 1), .int p1, .int p2]) (n := 5) (Nat.le_of_ble_eq_true rfl)
  rw [lg_entry_eq]
  generalize (lg_sl ([.ref (h 1), .int p1, .int p2]) ++ List.replicate (5 - (lg_sl ([.ref (h 1), .int p1, .int p2])).length) Slot.unset).toArray = ls at hl ⊢
  have hl : lv_has ls 5 [(0, .ref (h 1)), (1, .int p1), (2, .int p2)] := hl
  unfold wC_X0_turnedSet at hw
  clear hD0
  have L_5 : ∀ (n5 : Nat) (x1 : Int32) (x2 : Int32) (x3 : Int32) (x4 : Int32) (S : CS) (H : Heap) (locs : List Loc) (ls : Array Slot), wC_X0_turnedSet_5 post n5 x1 x2 x3 x4 S → va_P D vwCl (wC h cy S) H → va_D A (wC h cy S) → va_S A s.heap H locs → lv_has ls 5 [(0, .ref (h 1)), (1, .int x1), (2, .int x2), (3, .int x3), (4, .int x4)] → W p l e (headSpec wsX0_turnedSet { frames := 2, cells := 0, slots := 0, locals := 43 }).room s m (([.ref (h 1), .int p1, .int p2] : List Value).toArray) below meth c H locs 0 0 (MQ below (va_Qi post (k_Post D (tyC cy) (wC h cy) A) A) (([.ref (h 1), .int p1, .int p2] : List Value).toArray) s 0 0 A) (F0 m 5 ls []) := by
    intro n5
    induction n5 with
    | zero => intro x1 x2 x3 x4 S H locs ls hw; exact False.elim hw
    | succ n5 ih_5 =>
      intro x1 x2 x3 x4 S H locs ls hw hP hD hS hl
      unfold wC_X0_turnedSet_5 at hw
      refine lv_iload hx hb dX0_turnedSet_5 (lv_at hl 4 rfl) ?_
      refine lv_bipush (v := 10) hx hb dX0_turnedSet_7 (by decide) ?_
      obtain ⟨hc_1t, hc_1f⟩ := hw
      refine lv_icmp_ge (tgt := 40) hx hb dX0_turnedSet_9 (by decide) (fun c_1 => ?_) (fun c_1 => ?_)
      · have hw := hc_1t c_1
        clear hc_1t hc_1f
        refine lv_iload_n hx hb dX0_turnedSet_40 rfl (lv_at hl 3 rfl) ?_
        exact W.iret (v := x3) hx hb hr (fun t ht hW => ⟨⟨x3, S, rfl, hw, by rw [ht]; exact hP, va_K.moved hW.alike hK, hD⟩, hS.F ht⟩) hS.2.2 dX0_turnedSet_41
      · have hw := hc_1f c_1
        clear hc_1t hc_1f
        refine lv_iload_n hx hb dX0_turnedSet_12 rfl (lv_at hl 2 rfl) ?_
        refine lv_iload hx hb dX0_turnedSet_13 (lv_at hl 4 rfl) ?_
        refine k_ishr hx hb dX0_turnedSet_15 ?_
        refine lv_iconst (v := 1) hx hb dX0_turnedSet_16 (by decide) ?_
        refine lv_iand hx hb dX0_turnedSet_17 ?_
        refine lv_iconst (v := 1) hx hb dX0_turnedSet_18 (by decide) ?_
        obtain ⟨hc_2t, hc_2f⟩ := hw
        refine lv_icmp_ne (tgt := 34) hx hb dX0_turnedSet_19 (by decide) (fun c_2 => ?_) (fun c_2 => ?_)
        · have hw := hc_2f c_2
          clear hc_2t hc_2f
          refine lv_iinc (v := x4 + 1) (lv' := [(4, .int (x4 + 1)), (0, .ref (h 1)), (1, .int x1), (2, .int x2), (3, .int x3)]) hx hb dX0_turnedSet_34 hl (k := 4) rfl (k_inc (by decide)) (by decide) rfl (fun ls hl => ?_)
          refine lv_goto (tgt := 5) hx hb dX0_turnedSet_37 (by decide) ?_
          exact ih_5 x1 x2 x3 (x4 + 1) S _ _ _ hw hP hD hS (lv_sub hl [1, 2, 3, 4, 0] rfl)
        · have hw := hc_2t c_2
          clear hc_2t hc_2f
          refine lv_iload_n hx hb dX0_turnedSet_22 rfl (lv_at hl 3 rfl) ?_
          refine lv_iconst (v := 1) hx hb dX0_turnedSet_23 (by decide) ?_
          refine lv_aload_n hx hb dX0_turnedSet_24 rfl (lv_at hl 0 rfl) ?_
          refine lv_iload_n hx hb dX0_turnedSet_25 rfl (lv_at hl 1 rfl) ?_
          refine lv_iload hx hb dX0_turnedSet_26 (lv_at hl 4 rfl) ?_
          refine e_callVi (As := [.int x1, .int x4]) (rest := [.int 1, .int x3]) nxE_stable hs ⟨hx, hb, hml, hown, hts⟩ (cC_X0_turned l D h cy _ _ _ _ hw) (cwV 2 hts gX0_turnedSet_X0_turned rfl rfl rfl (by decide +kernel) ⟨Nat.le_of_ble_eq_true rfl, Nat.le_of_ble_eq_true rfl⟩) (va_recv hK hP (ci := 0) (q0 := 1) rfl rfl) hK hP hD hS hA rfl hl.1 rfl (Nat.le_of_ble_eq_true rfl) dX0_turnedSet_28 ⟨Nat.zero_le _, Nat.zero_le _⟩ (fun r_3 S_4 H locs hw hP hD hS => ?_)
          refine k_ishl hx hb dX0_turnedSet_31 ?_
          refine lv_ior hx hb dX0_turnedSet_32 ?_
          refine lv_istore_n (lv' := [(3, .int (x3 ||| (k_shl 1 r_3))), (0, .ref (h 1)), (1, .int x1), (2, .int x2), (4, .int x4)]) hx hb dX0_turnedSet_33 rfl hl (by decide) rfl (fun ls hl => ?_)
          refine lv_iinc (v := x4 + 1) (lv' := [(4, .int (x4 + 1)), (3, .int (x3 ||| (k_shl 1 r_3))), (0, .ref (h 1)), (1, .int x1), (2, .int x2)]) hx hb dX0_turnedSet_34 hl (k := 4) rfl (k_inc (by decide)) (by decide) rfl (fun ls hl => ?_)
          refine lv_goto (tgt := 5) hx hb dX0_turnedSet_37 (by decide) ?_
          exact ih_5 x1 x2 (x3 ||| (k_shl 1 r_3)) (x4 + 1) S_4 _ _ _ hw hP hD hS (lv_sub hl [2, 3, 4, 1, 0] rfl)
  refine lv_iconst (v := 0) hx hb dX0_turnedSet_0 (by decide) ?_
  refine lv_istore_n (lv' := [(3, .int 0), (0, .ref (h 1)), (1, .int p1), (2, .int p2)]) hx hb dX0_turnedSet_1 rfl hl (by decide) rfl (fun ls hl => ?_)
  refine lv_iconst (v := 0) hx hb dX0_turnedSet_2 (by decide) ?_
  refine lv_istore (lv' := [(4, .int 0), (3, .int 0), (0, .ref (h 1)), (1, .int p1), (2, .int p2)]) hx hb dX0_turnedSet_3 hl (by decide) rfl (fun ls hl => ?_)
  obtain ⟨n_5, hw⟩ := hw
  exact L_5 n_5 p1 p2 0 0 S _ _ _ hw hP hD hS (lv_sub hl [2, 3, 4, 1, 0] rfl)
def wC_X11_ring_15 (post : Int32 → CS → Prop) : Nat → Int32 → Int32 → Int32 → CS → Prop
  | 0, _, _, _, _ => False
  | n + 1, x1, x2, x3, S => ((10 ≤ x3 → post x2 S) ∧ (¬ (10 ≤ x3) → wC_X0_turnedSet x1 x2 S (fun r_2 S_3 => wC_X11_ring_15 post n x1 r_2 (x3 + 1) S_3)))
def wC_X11_ring (p1 : Int32) (S : CS) (post : Int32 → CS → Prop) : Prop := wC_X11_isFall p1 S (fun r_1 S_2 => ((r_1 = 0 → post (-1) S_2) ∧ (¬ (r_1 = 0) → ∃ k_ : Nat, wC_X11_ring_15 post k_ p1 1023 0 S_2)))
set_option maxHeartbeats 4000000 in
set_option maxRecDepth 100000 in
theorem cC_X11_ring (l : Launch) (D : va_G) (h : Nat → Nat) (cy : Nat → ClassId) (p1 : Int32) (S : CS) (post : Int32 → CS → Prop) (hw : wC_X11_ring p1 S post) : e_Mi nxE l yX11_ring wsX11_ring { frames := 3, cells := 0, slots := 0, locals := 67 } D (tyC cy) (wC h cy) [.ref (h 0), .int p1] S post := by
  intro sz
  refine Met.ofW (cc := cX11_ring) (maxL := 4) (ret := (some .int)) (by decide) rfl ?_
  intro p e s m args below meth c s₁ B hml hv
  obtain ⟨rfl, hsz, hP, hK, hD0, hs⟩ := hv
  have hx := B.exec
  have hb := B.bytes
  have hr := B.returns
  have hts := atoms_spec (ws := wsX11_ring) B.pre
  have hown : s.vm.findClass RX11 = some m.cls := findClass_of_methodNamed B.named
  have hlocks := B.notSynchronized
  subst hsz
  have hD := hD0.self (sz := s.heap.size)
  generalize hAe : va_A (wC h cy S) s.heap.size = A at hD ⊢
  have hA : ∀ q : Nat, s.heap.size ≤ q → A q := fun q h => by rw [← hAe]; exact Or.inr h
  have hS : va_S A s.heap s.heap [] := va_S.rf
  have hin11 : ∀ w ∈ wsX110, w ∈ wsX11_ring := fun _ h => List.mem_cons_of_mem _ (List.mem_append_left _ (List.mem_append_right _ h))
  have hin0 : ∀ w ∈ wsX00, w ∈ wsX11_ring := fun _ h => List.mem_cons_of_mem _ (List.mem_append_right _ h)
  have w10 := hts (.fieldLink RX11 10 "ClownsMourn" "city" "LClownsMourn$City;") (List.mem_of_getElem? (i := 1) rfl)
  have hl := lv_entry ([.ref (h 0), .int p1]) (n := 4) (Nat.le_of_ble_eq_true rfl)
  rw [lg_entry_eq]
  generalize (lg_sl ([.ref (h 0), .int p1]) ++ List.replicate (4 - (lg_sl ([.ref (h 0), .int p1])).length) Slot.unset).toArray = ls at hl ⊢
  have hl : lv_has ls 4 [(0, .ref (h 0)), (1, .int p1)] := hl
  unfold wC_X11_ring at hw
  clear hD0
  have L_15 : ∀ (n15 : Nat) (x1 : Int32) (x2 : Int32) (x3 : Int32) (S : CS) (H : Heap) (locs : List Loc) (ls : Array Slot), wC_X11_ring_15 post n15 x1 x2 x3 S → va_P D vwCl (wC h cy S) H → va_D A (wC h cy S) → va_S A s.heap H locs → lv_has ls 4 [(0, .ref (h 0)), (1, .int x1), (2, .int x2), (3, .int x3)] → W p l e (headSpec wsX11_ring { frames := 3, cells := 0, slots := 0, locals := 67 }).room s m (([.ref (h 0), .int p1] : List Value).toArray) below meth c H locs 0 0 (MQ below (va_Qi post (k_Post D (tyC cy) (wC h cy) A) A) (([.ref (h 0), .int p1] : List Value).toArray) s 0 0 A) (F0 m 15 ls []) := by
    intro n15
    induction n15 with
    | zero => intro x1 x2 x3 S H locs ls hw; exact False.elim hw
    | succ n15 ih_15 =>
      intro x1 x2 x3 S H locs ls hw hP hD hS hl
      unfold wC_X11_ring_15 at hw
      refine lv_iload_n hx hb dX11_ring_15 rfl (lv_at hl 3 rfl) ?_
      refine lv_bipush (v := 10) hx hb dX11_ring_16 (by decide) ?_
      obtain ⟨hc_1t, hc_1f⟩ := hw
      refine lv_icmp_ge (tgt := 37) hx hb dX11_ring_18 (by decide) (fun c_1 => ?_) (fun c_1 => ?_)
      · have hw := hc_1t c_1
        clear hc_1t hc_1f
        refine lv_iload_n hx hb dX11_ring_37 rfl (lv_at hl 2 rfl) ?_
        exact W.iret (v := x2) hx hb hr (fun t ht hW => ⟨⟨x2, S, rfl, hw, by rw [ht]; exact hP, va_K.moved hW.alike hK, hD⟩, hS.F ht⟩) hS.2.2 dX11_ring_38
      · have hw := hc_1f c_1
        clear hc_1t hc_1f
        refine lv_aload_n hx hb dX11_ring_21 rfl (lv_at hl 0 rfl) ?_
        refine va_get (D := D) (ci := 10) (v := .ref (h 1)) (C := RX11) (T := TX11) (N := 9) hx hb hts hin11 hown hK hP 0 rfl rfl 0 (by decide) w10 (fun _ h9 => h9) rfl dX11_ring_22 ?_
        refine lv_iload_n hx hb dX11_ring_25 rfl (lv_at hl 1 rfl) ?_
        refine lv_iload_n hx hb dX11_ring_26 rfl (lv_at hl 2 rfl) ?_
        refine e_callVi (As := [.int x1, .int x2]) (rest := []) nxE_stable hs ⟨hx, hb, hml, hown, hts⟩ (cC_X0_turnedSet l D h cy _ _ _ _ hw) (cwV 2 hts gX11_ring_X0_turnedSet rfl rfl rfl (by decide +kernel) ⟨Nat.le_of_ble_eq_true rfl, Nat.le_of_ble_eq_true rfl⟩) (va_recv hK hP (ci := 0) (q0 := 1) rfl rfl) hK hP hD hS hA rfl hl.1 rfl (Nat.le_of_ble_eq_true rfl) dX11_ring_27 ⟨Nat.zero_le _, Nat.zero_le _⟩ (fun r_2 S_3 H locs hw hP hD hS => ?_)
        refine lv_istore_n (lv' := [(2, .int r_2), (0, .ref (h 0)), (1, .int x1), (3, .int x3)]) hx hb dX11_ring_30 rfl hl (by decide) rfl (fun ls hl => ?_)
        refine lv_iinc (v := x3 + 1) (lv' := [(3, .int (x3 + 1)), (2, .int r_2), (0, .ref (h 0)), (1, .int x1)]) hx hb dX11_ring_31 hl (k := 3) rfl (k_inc (by decide)) (by decide) rfl (fun ls hl => ?_)
        refine lv_goto (tgt := 15) hx hb dX11_ring_34 (by decide) ?_
        exact ih_15 x1 r_2 (x3 + 1) S_3 _ _ _ hw hP hD hS (lv_sub hl [2, 3, 1, 0] rfl)
  refine lv_iload_n hx hb dX11_ring_0 rfl (lv_at hl 1 rfl) ?_
  refine e_callSi (As := [.int p1]) (rest := []) nxE_stable hs ⟨hx, hb, hml, hown, hts⟩ (cC_X11_isFall l D h cy _ _ _ hw) (va_cwS 1 hts gX11_ring_X11_isFall rfl rfl rfl (by decide +kernel) ⟨Nat.le_of_ble_eq_true rfl, Nat.le_of_ble_eq_true rfl⟩) hK hP hD hS hA rfl hl.1 rfl (Nat.le_of_ble_eq_true rfl) dX11_ring_1 ⟨Nat.zero_le _, Nat.zero_le _⟩ (fun r_4 S_5 H locs hw hP hD hS => ?_)
  obtain ⟨hc_6t, hc_6f⟩ := hw
  refine lv_if_ne (tgt := 9) hx hb dX11_ring_4 (by decide) (fun c_6 => ?_) (fun c_6 => ?_)
  · have hw := hc_6f c_6
    clear hc_6t hc_6f
    refine lv_sipush (v := 1023) hx hb dX11_ring_9 (by decide) ?_
    refine lv_istore_n (lv' := [(2, .int 1023), (0, .ref (h 0)), (1, .int p1)]) hx hb dX11_ring_12 rfl hl (by decide) rfl (fun ls hl => ?_)
    refine lv_iconst (v := 0) hx hb dX11_ring_13 (by decide) ?_
    refine lv_istore_n (lv' := [(3, .int 0), (2, .int 1023), (0, .ref (h 0)), (1, .int p1)]) hx hb dX11_ring_14 rfl hl (by decide) rfl (fun ls hl => ?_)
    obtain ⟨n_15, hw⟩ := hw
    exact L_15 n_15 p1 1023 0 S_5 _ _ _ hw hP hD hS (lv_sub hl [2, 3, 1, 0] rfl)
  · have hw := hc_6t c_6
    clear hc_6t hc_6f
    refine lv_iconst (v := (-1)) hx hb dX11_ring_7 (by decide) ?_
    exact W.iret (v := (-1)) hx hb hr (fun t ht hW => ⟨⟨(-1), S_5, rfl, hw, by rw [ht]; exact hP, va_K.moved hW.alike hK, hD⟩, hS.F ht⟩) hS.2.2 dX11_ring_8
def wC_X11_cost (p1 : Int32) (p2 : Int32) (p3 : Int32) (S : CS) (post : Int32 → CS → Prop) : Prop := wC_X11_within p1 0 4 S (fun r_1 S_2 => ((r_1 = 0 → post 0 S_2) ∧ (¬ (r_1 = 0) → wC_X11_within p2 0 5 S_2 (fun r_4 S_5 => ((r_4 = 0 → post 0 S_5) ∧ (¬ (r_4 = 0) → wC_X11_within p3 0 99 S_5 (fun r_7 S_8 => ((r_7 = 0 → post 0 S_8) ∧ (¬ (r_7 = 0) → (∀ S_10 : CS, S_10 = (cx_set_c_costs S_8 (k_put 30 (cx_c_costs S_8) ((p1 * 6) + p2) p3)) → post 1 S_10))))))))))
set_option maxHeartbeats 4000000 in
set_option maxRecDepth 100000 in
theorem cC_X11_cost (l : Launch) (D : va_G) (h : Nat → Nat) (cy : Nat → ClassId) (p1 : Int32) (p2 : Int32) (p3 : Int32) (S : CS) (post : Int32 → CS → Prop) (hw : wC_X11_cost p1 p2 p3 S post) : e_Mi nxE l yX11_cost wsX11_cost { frames := 1, cells := 0, slots := 0, locals := 22 } D (tyC cy) (wC h cy) [.ref (h 0), .int p1, .int p2, .int p3] S post := by
  intro sz
  refine Met.ofW (cc := cX11_cost) (maxL := 4) (ret := (some .boolean)) (by decide) rfl ?_
  intro p e s m args below meth c s₁ B hml hv
  obtain ⟨rfl, hsz, hP, hK, hD0, hs⟩ := hv
  have hx := B.exec
  have hb := B.bytes
  have hr := B.returns
  have hts := atoms_spec (ws := wsX11_cost) B.pre
  have hown : s.vm.findClass RX11 = some m.cls := findClass_of_methodNamed B.named
  have hlocks := B.notSynchronized
  subst hsz
  have hD := hD0.self (sz := s.heap.size)
  generalize hAe : va_A (wC h cy S) s.heap.size = A at hD ⊢
  have hA : ∀ q : Nat, s.heap.size ≤ q → A q := fun q h => by rw [← hAe]; exact Or.inr h
  have hS : va_S A s.heap s.heap [] := va_S.rf
  have hin11 : ∀ w ∈ wsX110, w ∈ wsX11_cost := fun _ h => List.mem_cons_of_mem _ (List.mem_append_left _ (List.mem_append_right _ h))
  have hin0 : ∀ w ∈ wsX00, w ∈ wsX11_cost := fun _ h => List.mem_cons_of_mem _ (List.mem_append_right _ h)
  have w10 := hts (.fieldLink RX11 10 "ClownsMourn" "city" "LClownsMourn$City;") (List.mem_of_getElem? (i := 1) rfl)
  have w275 := hts (.fieldLink RX11 275 "ClownsMourn$City" "costs" "[I") (List.mem_of_getElem? (i := 2) rfl)
  have hl := lv_entry ([.ref (h 0), .int p1, .int p2, .int p3]) (n := 4) (Nat.le_of_ble_eq_true rfl)
  rw [lg_entry_eq]
  generalize (lg_sl ([.ref (h 0), .int p1, .int p2, .int p3]) ++ List.replicate (4 - (lg_sl ([.ref (h 0), .int p1, .int p2, .int p3])).length) Slot.unset).toArray = ls at hl ⊢
  have hl : lv_has ls 4 [(0, .ref (h 0)), (1, .int p1), (2, .int p2), (3, .int p3)] := hl
  unfold wC_X11_cost at hw
  clear hD0
  refine lv_iload_n hx hb dX11_cost_0 rfl (lv_at hl 1 rfl) ?_
  refine lv_iconst (v := 0) hx hb dX11_cost_1 (by decide) ?_
  refine lv_iconst (v := 4) hx hb dX11_cost_2 (by decide) ?_
  refine e_callSi (As := [.int p1, .int 0, .int 4]) (rest := []) nxE_stable hs ⟨hx, hb, hml, hown, hts⟩ (cC_X11_within l D h cy _ _ _ _ _ hw) (va_cwS 3 hts gX11_cost_X11_within rfl rfl rfl (by decide +kernel) ⟨Nat.le_of_ble_eq_true rfl, Nat.le_of_ble_eq_true rfl⟩) hK hP hD hS hA rfl hl.1 rfl (Nat.le_of_ble_eq_true rfl) dX11_cost_3 ⟨Nat.zero_le _, Nat.zero_le _⟩ (fun r_1 S_2 H locs hw hP hD hS => ?_)
  obtain ⟨hc_3t, hc_3f⟩ := hw
  refine lv_if_eq (tgt := 28) hx hb dX11_cost_6 (by decide) (fun c_3 => ?_) (fun c_3 => ?_)
  · have hw := hc_3t c_3
    clear hc_3t hc_3f
    refine lv_iconst (v := 0) hx hb dX11_cost_28 (by decide) ?_
    exact W.zret (v := 0) hx hb hr (by decide +kernel) (fun t ht hW => ⟨⟨0, S_2, rfl, hw, by rw [ht]; exact hP, va_K.moved hW.alike hK, hD⟩, hS.F ht⟩) hS.2.2 dX11_cost_29
  · have hw := hc_3f c_3
    clear hc_3t hc_3f
    refine lv_iload_n hx hb dX11_cost_9 rfl (lv_at hl 2 rfl) ?_
    refine lv_iconst (v := 0) hx hb dX11_cost_10 (by decide) ?_
    refine lv_iconst (v := 5) hx hb dX11_cost_11 (by decide) ?_
    refine e_callSi (As := [.int p2, .int 0, .int 5]) (rest := []) nxE_stable hs ⟨hx, hb, hml, hown, hts⟩ (cC_X11_within l D h cy _ _ _ _ _ hw) (va_cwS 3 hts gX11_cost_X11_within rfl rfl rfl (by decide +kernel) ⟨Nat.le_of_ble_eq_true rfl, Nat.le_of_ble_eq_true rfl⟩) hK hP hD hS hA rfl hl.1 rfl (Nat.le_of_ble_eq_true rfl) dX11_cost_12 ⟨Nat.zero_le _, Nat.zero_le _⟩ (fun r_4 S_5 H locs hw hP hD hS => ?_)
    obtain ⟨hc_6t, hc_6f⟩ := hw
    refine lv_if_eq (tgt := 28) hx hb dX11_cost_15 (by decide) (fun c_6 => ?_) (fun c_6 => ?_)
    · have hw := hc_6t c_6
      clear hc_6t hc_6f
      refine lv_iconst (v := 0) hx hb dX11_cost_28 (by decide) ?_
      exact W.zret (v := 0) hx hb hr (by decide +kernel) (fun t ht hW => ⟨⟨0, S_5, rfl, hw, by rw [ht]; exact hP, va_K.moved hW.alike hK, hD⟩, hS.F ht⟩) hS.2.2 dX11_cost_29
    · have hw := hc_6f c_6
      clear hc_6t hc_6f
      refine lv_iload_n hx hb dX11_cost_18 rfl (lv_at hl 3 rfl) ?_
      refine lv_iconst (v := 0) hx hb dX11_cost_19 (by decide) ?_
      refine lv_bipush (v := 99) hx hb dX11_cost_20 (by decide) ?_
      refine e_callSi (As := [.int p3, .int 0, .int 99]) (rest := []) nxE_stable hs ⟨hx, hb, hml, hown, hts⟩ (cC_X11_within l D h cy _ _ _ _ _ hw) (va_cwS 3 hts gX11_cost_X11_within rfl rfl rfl (by decide +kernel) ⟨Nat.le_of_ble_eq_true rfl, Nat.le_of_ble_eq_true rfl⟩) hK hP hD hS hA rfl hl.1 rfl (Nat.le_of_ble_eq_true rfl) dX11_cost_22 ⟨Nat.zero_le _, Nat.zero_le _⟩ (fun r_7 S_8 H locs hw hP hD hS => ?_)
      obtain ⟨hc_9t, hc_9f⟩ := hw
      refine lv_if_ne (tgt := 30) hx hb dX11_cost_25 (by decide) (fun c_9 => ?_) (fun c_9 => ?_)
      · have hw := hc_9f c_9
        clear hc_9t hc_9f
        refine lv_aload_n hx hb dX11_cost_30 rfl (lv_at hl 0 rfl) ?_
        refine va_get (D := D) (ci := 10) (v := .ref (h 1)) (C := RX11) (T := TX11) (N := 9) hx hb hts hin11 hown hK hP 0 rfl rfl 0 (by decide) w10 (fun _ h9 => h9) rfl dX11_cost_31 ?_
        refine va_get (D := D) (ci := 0) (v := .ref (h 18)) (C := RX0) (T := TX0) (N := 16) hx hb hts hin0 hown hK hP 1 rfl rfl 9 (by decide) w275 (fun _ h9 => h9) rfl dX11_cost_34 ?_
        refine lv_iload_n hx hb dX11_cost_37 rfl (lv_at hl 1 rfl) ?_
        refine lv_bipush (v := 6) hx hb dX11_cost_38 (by decide) ?_
        refine lv_imul hx hb dX11_cost_40 ?_
        refine lv_iload_n hx hb dX11_cost_41 rfl (lv_at hl 2 rfl) ?_
        refine lv_iadd hx hb dX11_cost_42 ?_
        refine lv_iload_n hx hb dX11_cost_43 rfl (lv_at hl 3 rfl) ?_
        refine e_callSv (As := [.ref (h 18), .int ((p1 * 6) + p2), .int p3]) (rest := []) nxE_stable hs ⟨hx, hb, hml, hown, hts⟩ (cA_put l D nxE (tyC cy) (wC h cy) cx_c_costs cx_set_c_costs S_8 18 6 _ _ 30 rfl (wCs_c_costs h cy S_8) rfl (by decide) _ _ (fun S0 => S0 = (cx_set_c_costs S_8 (k_put 30 (cx_c_costs S_8) ((p1 * 6) + p2) p3))) rfl) (va_cwS 3 hts gX11_cost_X11_put rfl rfl rfl (by decide +kernel) ⟨Nat.le_of_ble_eq_true rfl, Nat.le_of_ble_eq_true rfl⟩) hK hP hD hS hA rfl hl.1 rfl (Nat.le_of_ble_eq_true rfl) dX11_cost_44 ⟨Nat.zero_le _, Nat.zero_le _⟩ (fun S_10 H locs eS_10 hP hD hS => ?_)
        replace hw := hw S_10 eS_10
        refine lv_iconst (v := 1) hx hb dX11_cost_47 (by decide) ?_
        exact W.zret (v := 1) hx hb hr (by decide +kernel) (fun t ht hW => ⟨⟨1, S_10, rfl, hw, by rw [ht]; exact hP, va_K.moved hW.alike hK, hD⟩, hS.F ht⟩) hS.2.2 dX11_cost_48
      · have hw := hc_9t c_9
        clear hc_9t hc_9f
        refine lv_iconst (v := 0) hx hb dX11_cost_28 (by decide) ?_
        exact W.zret (v := 0) hx hb hr (by decide +kernel) (fun t ht hW => ⟨⟨0, S_8, rfl, hw, by rw [ht]; exact hP, va_K.moved hW.alike hK, hD⟩, hS.F ht⟩) hS.2.2 dX11_cost_29
def wC_X4_assign_49 (Rc : Int32 → Int32 → Int32 → Int32 → CS → (CS → Prop) → Prop) (post : CS → Prop) : Nat → Int32 → Int32 → Int32 → Int32 → Int32 → CS → Prop
  | 0, _, _, _, _, _, _ => False
  | n + 1, x1, x2, x3, x4, x5, S => wC_X0_houseCount S (fun r_1 S_2 => ((r_1 ≤ x5 → ((x3 ≤ 0 → post S_2) ∧ (¬ (x3 ≤ 0) → (∀ S_5 : CS, S_5 = (cx_set_t_goes S_2 (k_put 5 (cx_t_goes S_2) x1 (-1))) → Rc (x1 + 1) x2 (x3 - 1) x4 S_5 (fun S_7 => post S_7))))) ∧ (¬ (r_1 ≤ x5) → ((((k_shr x2 x5) &&& 1) = 0 → (∀ S_9 : CS, S_9 = (cx_set_t_goes S_2 (k_put 5 (cx_t_goes S_2) x1 x5)) → Rc (x1 + 1) (x2 ||| (k_shl 1 x5)) x3 (x4 + (k_at 30 (cx_c_costs S_9) ((x1 * 6) + x5))) S_9 (fun S_11 => wC_X4_assign_49 Rc post n x1 x2 x3 x4 (x5 + 1) S_11))) ∧ (¬ (((k_shr x2 x5) &&& 1) = 0) → wC_X4_assign_49 Rc post n x1 x2 x3 x4 (x5 + 1) S_2)))))
def wC_X4_assign_28 (Rc : Int32 → Int32 → Int32 → Int32 → CS → (CS → Prop) → Prop) (post : CS → Prop) (x4 : Int32) (S : CS) : Prop := (∀ S_1 : CS, S_1 = (cx_set_t_least S x4) → (∀ S_2 : CS, S_2 = (cx_set_t_best S_1 (k_copyW 5 5 (cx_t_goes S_1) (cx_t_best S_1))) → post S_2))
def wB_X4_assign (Rc : Int32 → Int32 → Int32 → Int32 → CS → (CS → Prop) → Prop) (p1 : Int32) (p2 : Int32) (p3 : Int32) (p4 : Int32) (S : CS) (post : CS → Prop) : Prop := wC_X0_clownCount S (fun r_1 S_2 => ((p1 < r_1 → ∃ k_ : Nat, wC_X4_assign_49 Rc post k_ p1 p2 p3 p4 0 S_2) ∧ (¬ (p1 < r_1) → (((cx_t_least S_2) = (-1) → wC_X4_assign_28 Rc post p4 S_2) ∧ (¬ ((cx_t_least S_2) = (-1)) → (((cx_t_least S_2) ≤ p4 → post S_2) ∧ (¬ ((cx_t_least S_2) ≤ p4) → wC_X4_assign_28 Rc post p4 S_2)))))))
set_option maxHeartbeats 4000000 in
set_option maxRecDepth 100000 in
theorem cB_X4_assign (l : Launch) (D : va_G) (h : Nat → Nat) (cy : Nat → ClassId) (d : Nat) (Rc : Int32 → Int32 → Int32 → Int32 → CS → (CS → Prop) → Prop) (hR0 : ∀ (p1 : Int32) (p2 : Int32) (p3 : Int32) (p4 : Int32) (S : CS) (post : CS → Prop), Rc p1 p2 p3 p4 S post → e_Mv nxE l yX4_assign wsX4_assign { frames := 3 + d, cells := 0, slots := 0, locals := 105 + d * 26 } D (tyC cy) (wC h cy) [.ref (h 11), .int p1, .int p2, .int p3, .int p4] S post) (p1 : Int32) (p2 : Int32) (p3 : Int32) (p4 : Int32) (S : CS) (post : CS → Prop) (hw : wB_X4_assign Rc p1 p2 p3 p4 S post) : e_Mv nxE l yX4_assign wsX4_assign { frames := 3 + (d + 1), cells := 0, slots := 0, locals := 105 + (d + 1) * 26 } D (tyC cy) (wC h cy) [.ref (h 11), .int p1, .int p2, .int p3, .int p4] S post := by
  intro sz
  refine Met.ofW (cc := cX4_assign) (maxL := 7) (ret := none) (by decide) rfl ?_
  intro p e s m args below meth c s₁ B hml hv
  obtain ⟨rfl, hsz, hP, hK, hD0, hs⟩ := hv
  have hx := B.exec
  have hb := B.bytes
  have hr := B.returns
  have hts := atoms_spec (ws := wsX4_assign) B.pre
  have hown : s.vm.findClass RX4 = some m.cls := findClass_of_methodNamed B.named
  have hlocks := B.notSynchronized
  subst hsz
  have hD := hD0.self (sz := s.heap.size)
  generalize hAe : va_A (wC h cy S) s.heap.size = A at hD ⊢
  have hA : ∀ q : Nat, s.heap.size ≤ q → A q := fun q h => by rw [← hAe]; exact Or.inr h
  have hS : va_S A s.heap s.heap [] := va_S.rf
  have hin4 : ∀ w ∈ wsX40, w ∈ wsX4_assign := fun _ h => List.mem_cons_of_mem _ (List.mem_append_left _ (List.mem_append_right _ h))
  have hin0 : ∀ w ∈ wsX00, w ∈ wsX4_assign := fun _ h => List.mem_cons_of_mem _ (List.mem_append_right _ h)
  have w15 := hts (.fieldLink RX4 15 "ClownsMourn$Match" "best" "[I") (List.mem_of_getElem? (i := 4) rfl)
  have w19 := hts (.fieldLink RX4 19 "ClownsMourn$Match" "goes" "[I") (List.mem_of_getElem? (i := 3) rfl)
  have w22 := hts (.fieldLink RX4 22 "ClownsMourn$Match" "city" "LClownsMourn$City;") (List.mem_of_getElem? (i := 1) rfl)
  have w53 := hts (.fieldLink RX4 53 "ClownsMourn$City" "costs" "[I") (List.mem_of_getElem? (i := 5) rfl)
  have w9 := hts (.fieldLink RX4 9 "ClownsMourn$Match" "least" "I") (List.mem_of_getElem? (i := 2) rfl)
  have wiX11 := hts (.initialized RX11) (List.mem_of_getElem? (i := 17) rfl)
  have wstat := hts (.static yX11_at) (List.mem_of_getElem? (i := 16) rfl)
  have wstcopyWhole := hts (.static yX11_copyWhole) (List.mem_of_getElem? (i := 19) rfl)
  have wstput := hts (.static yX11_put) (List.mem_of_getElem? (i := 32) rfl)
  have hl := lv_entry ([.ref (h 11), .int p1, .int p2, .int p3, .int p4]) (n := 7) (Nat.le_of_ble_eq_true rfl)
  rw [lg_entry_eq]
  generalize (lg_sl ([.ref (h 11), .int p1, .int p2, .int p3, .int p4]) ++ List.replicate (7 - (lg_sl ([.ref (h 11), .int p1, .int p2, .int p3, .int p4])).length) Slot.unset).toArray = ls at hl ⊢
  have hl : lv_has ls 7 [(0, .ref (h 11)), (1, .int p1), (2, .int p2), (3, .int p3), (4, .int p4)] := hl
  unfold wB_X4_assign at hw
  clear hD0
  have L_49 : ∀ (n49 : Nat) (x1 : Int32) (x2 : Int32) (x3 : Int32) (x4 : Int32) (x5 : Int32) (S : CS) (H : Heap) (locs : List Loc) (ls : Array Slot), wC_X4_assign_49 Rc post n49 x1 x2 x3 x4 x5 S → va_P D vwCl (wC h cy S) H → va_D A (wC h cy S) → va_S A s.heap H locs → lv_has ls 7 [(0, .ref (h 11)), (1, .int x1), (2, .int x2), (3, .int x3), (4, .int x4), (5, .int x5)] → W p l e (headSpec wsX4_assign { frames := 3 + (d + 1), cells := 0, slots := 0, locals := 105 + (d + 1) * 26 }).room s m (([.ref (h 11), .int p1, .int p2, .int p3, .int p4] : List Value).toArray) below meth c H locs 0 0 (MQ below (va_Qv post (k_Post D (tyC cy) (wC h cy) A) A) (([.ref (h 11), .int p1, .int p2, .int p3, .int p4] : List Value).toArray) s 0 0 A) (F0 m 49 ls []) := by
    intro n49
    induction n49 with
    | zero => intro x1 x2 x3 x4 x5 S H locs ls hw; exact False.elim hw
    | succ n49 ih_49 =>
      intro x1 x2 x3 x4 x5 S H locs ls hw hP hD hS hl
      unfold wC_X4_assign_49 at hw
      refine lv_iload hx hb dX4_assign_49 (lv_at hl 5 rfl) ?_
      refine lv_aload_n hx hb dX4_assign_51 rfl (lv_at hl 0 rfl) ?_
      refine va_get (D := D) (ci := 4) (v := .ref (h 1)) (C := RX4) (T := TX4) (N := 4) hx hb hts hin4 hown hK hP 11 rfl rfl 2 (by decide) w22 (fun _ h9 => h9) rfl dX4_assign_52 ?_
      refine e_callVi (As := []) (rest := [.int x5]) nxE_stable hs ⟨hx, hb, hml, hown, hts⟩ (cC_X0_houseCount l D h cy _ _ hw) (cwV 0 hts gX4_assign_X0_houseCount rfl rfl rfl (by decide +kernel) ⟨by show 1 + 1 ≤ 3 + (d + 1); omega, by show 8 + (1 + 11) + 21 ≤ 105 + (d + 1) * 26; omega⟩) (va_recv hK hP (ci := 0) (q0 := 1) rfl rfl) hK hP hD hS hA rfl hl.1 rfl (Nat.le_of_ble_eq_true rfl) dX4_assign_55 ⟨Nat.zero_le _, Nat.zero_le _⟩ (fun r_1 S_2 H locs hw hP hD hS => ?_)
      obtain ⟨hc_3t, hc_3f⟩ := hw
      refine lv_icmp_ge (tgt := 124) hx hb dX4_assign_58 (by decide) (fun c_3 => ?_) (fun c_3 => ?_)
      · have hw := hc_3t c_3
        clear hc_3t hc_3f
        refine lv_iload_n hx hb dX4_assign_124 rfl (lv_at hl 3 rfl) ?_
        obtain ⟨hc_4t, hc_4f⟩ := hw
        refine lv_if_le (tgt := 150) hx hb dX4_assign_125 (by decide) (fun c_4 => ?_) (fun c_4 => ?_)
        · have hw := hc_4t c_4
          clear hc_4t hc_4f
          exact W.vret hx hb hr (fun t ht hW => ⟨⟨S_2, rfl, hw, by rw [ht]; exact hP, va_K.moved hW.alike hK, hD⟩, hS.F ht⟩) hS.2.2 dX4_assign_150
        · have hw := hc_4f c_4
          clear hc_4t hc_4f
          refine lv_aload_n hx hb dX4_assign_128 rfl (lv_at hl 0 rfl) ?_
          refine va_get (D := D) (ci := 4) (v := .ref (h 47)) (C := RX4) (T := TX4) (N := 4) hx hb hts hin4 hown hK hP 11 rfl rfl 3 (by decide) w19 (fun _ h9 => h9) rfl dX4_assign_129 ?_
          refine lv_iload_n hx hb dX4_assign_132 rfl (lv_at hl 1 rfl) ?_
          refine lv_iconst (v := (-1)) hx hb dX4_assign_133 (by decide) ?_
          refine e_callNv (As := [.ref (h 47), .int x1, .int (-1)]) (rest := []) nxE_stable hs ⟨hx, hb, hml, hown, hts⟩ (cA_put l D nxE (tyC cy) (wC h cy) cx_t_goes cx_set_t_goes S_2 47 35 _ _ 5 rfl (wCs_t_goes h cy S_2) rfl (by decide) _ _ (fun S0 => S0 = (cx_set_t_goes S_2 (k_put 5 (cx_t_goes S_2) x1 (-1)))) rfl) ⟨va_cnB 3 hts gX4_assign_X11_put_n49 rfl rfl rfl hs.2.2.2.2.2.2.2.2.2.2.2.2.2.2.2.2.2.2.2.2.2.2.2.2.1 wiX11 (by decide +kernel) ⟨by show 0 + 1 ≤ 3 + (d + 1); omega, by show 8 + (3 + 11) + 0 ≤ 105 + (d + 1) * 26; omega⟩, wstput, trivial⟩ hK hP hD hS hA rfl hl.1 rfl (Nat.le_of_ble_eq_true rfl) dX4_assign_134 ⟨Nat.zero_le _, Nat.zero_le _⟩ (fun S_5 H locs eS_5 hP hD hS => ?_)
          replace hw := hw S_5 eS_5
          refine lv_aload_n hx hb dX4_assign_137 rfl (lv_at hl 0 rfl) ?_
          refine lv_iload_n hx hb dX4_assign_138 rfl (lv_at hl 1 rfl) ?_
          refine lv_iconst (v := 1) hx hb dX4_assign_139 (by decide) ?_
          refine lv_iadd hx hb dX4_assign_140 ?_
          refine lv_iload_n hx hb dX4_assign_141 rfl (lv_at hl 2 rfl) ?_
          refine lv_iload_n hx hb dX4_assign_142 rfl (lv_at hl 3 rfl) ?_
          refine lv_iconst (v := 1) hx hb dX4_assign_143 (by decide) ?_
          refine lv_isub hx hb dX4_assign_144 ?_
          refine lv_iload hx hb dX4_assign_145 (lv_at hl 4 rfl) ?_
          refine e_callVv (As := [.int (x1 + 1), .int x2, .int (x3 - 1), .int x4]) (rest := []) nxE_stable hs ⟨hx, hb, hml, hown, hts⟩ (hR0 _ _ _ _ _ _ hw) (cwV 4 hts gX4_assign_X4_assign rfl rfl rfl (by decide +kernel) ⟨by show 3 + d + 1 ≤ 3 + (d + 1); omega, by show 8 + (7 + 11) + (105 + d * 26) ≤ 105 + (d + 1) * 26; omega⟩) (va_recv hK hP (ci := 4) (q0 := 11) rfl rfl) hK hP hD hS hA rfl hl.1 rfl (Nat.le_of_ble_eq_true rfl) dX4_assign_147 ⟨Nat.zero_le _, Nat.zero_le _⟩ (fun S_7 H locs hw hP hD hS => ?_)
          exact W.vret hx hb hr (fun t ht hW => ⟨⟨S_7, rfl, hw, by rw [ht]; exact hP, va_K.moved hW.alike hK, hD⟩, hS.F ht⟩) hS.2.2 dX4_assign_150
      · have hw := hc_3f c_3
        clear hc_3t hc_3f
        refine lv_iload_n hx hb dX4_assign_61 rfl (lv_at hl 2 rfl) ?_
        refine lv_iload hx hb dX4_assign_62 (lv_at hl 5 rfl) ?_
        refine k_ishr hx hb dX4_assign_64 ?_
        refine lv_iconst (v := 1) hx hb dX4_assign_65 (by decide) ?_
        refine lv_iand hx hb dX4_assign_66 ?_
        obtain ⟨hc_8t, hc_8f⟩ := hw
        refine lv_if_ne (tgt := 118) hx hb dX4_assign_67 (by decide) (fun c_8 => ?_) (fun c_8 => ?_)
        · have hw := hc_8f c_8
          clear hc_8t hc_8f
          refine lv_iinc (v := x5 + 1) (lv' := [(5, .int (x5 + 1)), (0, .ref (h 11)), (1, .int x1), (2, .int x2), (3, .int x3), (4, .int x4)]) hx hb dX4_assign_118 hl (k := 5) rfl (k_inc (by decide)) (by decide) rfl (fun ls hl => ?_)
          refine lv_goto (tgt := 49) hx hb dX4_assign_121 (by decide) ?_
          exact ih_49 x1 x2 x3 x4 (x5 + 1) S_2 _ _ _ hw hP hD hS (lv_sub hl [1, 2, 3, 4, 5, 0] rfl)
        · have hw := hc_8t c_8
          clear hc_8t hc_8f
          refine lv_aload_n hx hb dX4_assign_70 rfl (lv_at hl 0 rfl) ?_
          refine va_get (D := D) (ci := 4) (v := .ref (h 47)) (C := RX4) (T := TX4) (N := 4) hx hb hts hin4 hown hK hP 11 rfl rfl 3 (by decide) w19 (fun _ h9 => h9) rfl dX4_assign_71 ?_
          refine lv_iload_n hx hb dX4_assign_74 rfl (lv_at hl 1 rfl) ?_
          refine lv_iload hx hb dX4_assign_75 (lv_at hl 5 rfl) ?_
          refine e_callNv (As := [.ref (h 47), .int x1, .int x5]) (rest := []) nxE_stable hs ⟨hx, hb, hml, hown, hts⟩ (cA_put l D nxE (tyC cy) (wC h cy) cx_t_goes cx_set_t_goes S_2 47 35 _ _ 5 rfl (wCs_t_goes h cy S_2) rfl (by decide) _ _ (fun S0 => S0 = (cx_set_t_goes S_2 (k_put 5 (cx_t_goes S_2) x1 x5))) rfl) ⟨va_cnB 3 hts gX4_assign_X11_put_n49 rfl rfl rfl hs.2.2.2.2.2.2.2.2.2.2.2.2.2.2.2.2.2.2.2.2.2.2.2.2.1 wiX11 (by decide +kernel) ⟨by show 0 + 1 ≤ 3 + (d + 1); omega, by show 8 + (3 + 11) + 0 ≤ 105 + (d + 1) * 26; omega⟩, wstput, trivial⟩ hK hP hD hS hA rfl hl.1 rfl (Nat.le_of_ble_eq_true rfl) dX4_assign_77 ⟨Nat.zero_le _, Nat.zero_le _⟩ (fun S_9 H locs eS_9 hP hD hS => ?_)
          replace hw := hw S_9 eS_9
          refine lv_aload_n hx hb dX4_assign_80 rfl (lv_at hl 0 rfl) ?_
          refine va_get (D := D) (ci := 4) (v := .ref (h 1)) (C := RX4) (T := TX4) (N := 4) hx hb hts hin4 hown hK hP 11 rfl rfl 2 (by decide) w22 (fun _ h9 => h9) rfl dX4_assign_81 ?_
          refine va_get (D := D) (ci := 0) (v := .ref (h 18)) (C := RX0) (T := TX0) (N := 16) hx hb hts hin0 hown hK hP 1 rfl rfl 9 (by decide) w53 (fun _ h9 => h9) rfl dX4_assign_84 ?_
          refine lv_iload_n hx hb dX4_assign_87 rfl (lv_at hl 1 rfl) ?_
          refine lv_bipush (v := 6) hx hb dX4_assign_88 (by decide) ?_
          refine lv_imul hx hb dX4_assign_90 ?_
          refine lv_iload hx hb dX4_assign_91 (lv_at hl 5 rfl) ?_
          refine lv_iadd hx hb dX4_assign_93 ?_
          refine e_callNi (As := [.ref (h 18), .int ((x1 * 6) + x5)]) (rest := []) nxE_stable hs ⟨hx, hb, hml, hown, hts⟩ (cA_at l D nxE (tyC cy) (wC h cy) S_9 18 6 _ _ 30 (cx_c_costs S_9) rfl rfl (by decide) _ (fun r S0 => r = k_at 30 (cx_c_costs S_9) ((x1 * 6) + x5) ∧ S_9 = S0) ⟨rfl, rfl⟩) ⟨va_cnB 2 hts gX4_assign_X11_at_n56 rfl rfl rfl hs.2.2.2.2.2.2.2.2.2.2.2.2.2.2.2.2.2.2.2.2.2.2.2.2.2.1 wiX11 (by decide +kernel) ⟨by show 0 + 1 ≤ 3 + (d + 1); omega, by show 8 + (2 + 11) + 0 ≤ 105 + (d + 1) * 26; omega⟩, wstat, trivial⟩ hK hP hD hS hA rfl hl.1 rfl (Nat.le_of_ble_eq_true rfl) dX4_assign_94 ⟨Nat.zero_le _, Nat.zero_le _⟩ (fun r_ S_ H locs hq hP hD hS => ?_)
          obtain ⟨rfl, rfl⟩ := hq
          refine lv_istore (lv' := [(6, .int (k_at 30 (cx_c_costs S_9) ((x1 * 6) + x5))), (0, .ref (h 11)), (1, .int x1), (2, .int x2), (3, .int x3), (4, .int x4), (5, .int x5)]) hx hb dX4_assign_97 hl (by decide) rfl (fun ls hl => ?_)
          refine lv_aload_n hx hb dX4_assign_99 rfl (lv_at hl 1 rfl) ?_
          refine lv_iload_n hx hb dX4_assign_100 rfl (lv_at hl 2 rfl) ?_
          refine lv_iconst (v := 1) hx hb dX4_assign_101 (by decide) ?_
          refine lv_iadd hx hb dX4_assign_102 ?_
          refine lv_iload_n hx hb dX4_assign_103 rfl (lv_at hl 3 rfl) ?_
          refine lv_iconst (v := 1) hx hb dX4_assign_104 (by decide) ?_
          refine lv_iload hx hb dX4_assign_105 (lv_at hl 6 rfl) ?_
          refine k_ishl hx hb dX4_assign_107 ?_
          refine lv_ior hx hb dX4_assign_108 ?_
          refine lv_iload_n hx hb dX4_assign_109 rfl (lv_at hl 4 rfl) ?_
          refine lv_iload hx hb dX4_assign_110 (lv_at hl 5 rfl) ?_
          refine lv_iload hx hb dX4_assign_112 (lv_at hl 0 rfl) ?_
          refine lv_iadd hx hb dX4_assign_114 ?_
          refine e_callVv (As := [.int (x1 + 1), .int (x2 ||| (k_shl 1 x5)), .int x3, .int (x4 + (k_at 30 (cx_c_costs S_9) ((x1 * 6) + x5)))]) (rest := []) nxE_stable hs ⟨hx, hb, hml, hown, hts⟩ (hR0 _ _ _ _ _ _ hw) (cwV 4 hts gX4_assign_X4_assign rfl rfl rfl (by decide +kernel) ⟨by show 3 + d + 1 ≤ 3 + (d + 1); omega, by show 8 + (7 + 11) + (105 + d * 26) ≤ 105 + (d + 1) * 26; omega⟩) (va_recv hK hP (ci := 4) (q0 := 11) rfl rfl) hK hP hD hS hA rfl hl.1 rfl (Nat.le_of_ble_eq_true rfl) dX4_assign_115 ⟨Nat.zero_le _, Nat.zero_le _⟩ (fun S_11 H locs hw hP hD hS => ?_)
          refine lv_iinc (v := x5 + 1) (lv' := [(5, .int (x5 + 1)), (6, .int (k_at 30 (cx_c_costs S_9) ((x1 * 6) + x5))), (0, .ref (h 11)), (1, .int x1), (2, .int x2), (3, .int x3), (4, .int x4)]) hx hb dX4_assign_118 hl (k := 6) rfl (k_inc (by decide)) (by decide) rfl (fun ls hl => ?_)
          refine lv_goto (tgt := 49) hx hb dX4_assign_121 (by decide) ?_
          exact ih_49 x1 x2 x3 x4 (x5 + 1) S_11 _ _ _ hw hP hD hS (lv_sub hl [2, 3, 4, 5, 6, 0] rfl)
  have J_28 : ∀ (x4 : Int32) (S : CS) (H : Heap) (locs : List Loc) (ls : Array Slot), wC_X4_assign_28 Rc post x4 S → va_P D vwCl (wC h cy S) H → va_D A (wC h cy S) → va_S A s.heap H locs → lv_has ls 7 [(0, .ref (h 11)), (4, .int x4)] → W p l e (headSpec wsX4_assign { frames := 3 + (d + 1), cells := 0, slots := 0, locals := 105 + (d + 1) * 26 }).room s m (([.ref (h 11), .int p1, .int p2, .int p3, .int p4] : List Value).toArray) below meth c H locs 0 0 (MQ below (va_Qv post (k_Post D (tyC cy) (wC h cy) A) A) (([.ref (h 11), .int p1, .int p2, .int p3, .int p4] : List Value).toArray) s 0 0 A) (F0 m 28 ls []) := by
    intro x4 S H locs ls hw hP hD hS hl
    unfold wC_X4_assign_28 at hw
    refine lv_aload_n hx hb dX4_assign_28 rfl (lv_at hl 0 rfl) ?_
    refine lv_iload hx hb dX4_assign_29 (lv_at hl 1 rfl) ?_
    refine va_put (D := D) (ci := 4) (v := .int x4) (ty := .int) (C := RX4) (T := TX4) (N := 4) hx hb hts hin4 tyX4 tyX4_ok nmX4 hown hK hP hD hS 11 rfl rfl 0 (by decide) w9 (fun _ h9 => h9) rfl (tyX4_ok 0 (by decide)) rfl rfl (Nat.le_of_ble_eq_true rfl) dX4_assign_31 (fun H locs hP hD hS => ?_)
    obtain ⟨S_12, eS_12⟩ : ∃ z : CS, z = (cx_set_t_least S x4) := ⟨_, rfl⟩
    replace hw := hw S_12 eS_12
    have hP : va_P D vwCl (wC h cy S_12) H := by rw [eS_12, ← wCp_t_least]; exact hP
    have hD : va_D A (wC h cy S_12) := by rw [eS_12, ← wCp_t_least]; exact hD
    refine lv_aload_n hx hb dX4_assign_34 rfl (lv_at hl 0 rfl) ?_
    refine va_get (D := D) (ci := 4) (v := .ref (h 47)) (C := RX4) (T := TX4) (N := 4) hx hb hts hin4 hown hK hP 11 rfl rfl 3 (by decide) w19 (fun _ h9 => h9) rfl dX4_assign_35 ?_
    refine lv_aload_n hx hb dX4_assign_38 rfl (lv_at hl 0 rfl) ?_
    refine va_get (D := D) (ci := 4) (v := .ref (h 46)) (C := RX4) (T := TX4) (N := 4) hx hb hts hin4 hown hK hP 11 rfl rfl 1 (by decide) w15 (fun _ h9 => h9) rfl dX4_assign_39 ?_
    refine e_callNv (As := [.ref (h 47), .ref (h 46)]) (rest := []) nxE_stable hs ⟨hx, hb, hml, hown, hts⟩ (cA_copyWhole l D nxE nxE_stable (tyC cy) (wC h cy) S_12 47 35 46 34 _ _ _ _ 5 5 cx_t_goes cx_t_best cx_set_t_best rfl rfl (wCs_t_best h cy S_12) rfl rfl (by decide) (by decide) (fun S0 => S0 = (cx_set_t_best S_12 (k_copyW 5 5 (cx_t_goes S_12) (cx_t_best S_12)))) rfl) ⟨va_cnB 2 hts gX4_assign_X11_copyWhole_n45 rfl rfl rfl hs.2.2.2.2.2.2.2.2.2.2.2.2.2.2.2.2.2.2.2.2.2.2.2.1 wiX11 (by decide +kernel) ⟨by show 2 + 1 ≤ 3 + (d + 1); omega, by show 8 + (2 + 11) + 84 ≤ 105 + (d + 1) * 26; omega⟩, wstcopyWhole, trivial⟩ hK hP hD hS hA rfl hl.1 rfl (Nat.le_of_ble_eq_true rfl) dX4_assign_42 ⟨Nat.zero_le _, Nat.zero_le _⟩ (fun S_13 H locs eS_13 hP hD hS => ?_)
    replace hw := hw S_13 eS_13
    exact W.vret hx hb hr (fun t ht hW => ⟨⟨S_13, rfl, hw, by rw [ht]; exact hP, va_K.moved hW.alike hK, hD⟩, hS.F ht⟩) hS.2.2 dX4_assign_45
  refine lv_iload_n hx hb dX4_assign_0 rfl (lv_at hl 1 rfl) ?_
  refine lv_aload_n hx hb dX4_assign_1 rfl (lv_at hl 0 rfl) ?_
  refine va_get (D := D) (ci := 4) (v := .ref (h 1)) (C := RX4) (T := TX4) (N := 4) hx hb hts hin4 hown hK hP 11 rfl rfl 2 (by decide) w22 (fun _ h9 => h9) rfl dX4_assign_2 ?_
  refine e_callVi (As := []) (rest := [.int p1]) nxE_stable hs ⟨hx, hb, hml, hown, hts⟩ (cC_X0_clownCount l D h cy _ _ hw) (cwV 0 hts gX4_assign_X0_clownCount rfl rfl rfl (by decide +kernel) ⟨by show 1 + 1 ≤ 3 + (d + 1); omega, by show 8 + (1 + 11) + 21 ≤ 105 + (d + 1) * 26; omega⟩) (va_recv hK hP (ci := 0) (q0 := 1) rfl rfl) hK hP hD hS hA rfl hl.1 rfl (Nat.le_of_ble_eq_true rfl) dX4_assign_5 ⟨Nat.zero_le _, Nat.zero_le _⟩ (fun r_14 S_15 H locs hw hP hD hS => ?_)
  obtain ⟨hc_16t, hc_16f⟩ := hw
  refine lv_icmp_lt (tgt := 46) hx hb dX4_assign_8 (by decide) (fun c_16 => ?_) (fun c_16 => ?_)
  · have hw := hc_16t c_16
    clear hc_16t hc_16f
    refine lv_iconst (v := 0) hx hb dX4_assign_46 (by decide) ?_
    refine lv_istore (lv' := [(5, .int 0), (0, .ref (h 11)), (1, .int p1), (2, .int p2), (3, .int p3), (4, .int p4)]) hx hb dX4_assign_47 hl (by decide) rfl (fun ls hl => ?_)
    obtain ⟨n_49, hw⟩ := hw
    exact L_49 n_49 p1 p2 p3 p4 0 S_15 _ _ _ hw hP hD hS (lv_sub hl [1, 2, 3, 4, 5, 0] rfl)
  · have hw := hc_16f c_16
    clear hc_16t hc_16f
    refine lv_aload_n hx hb dX4_assign_11 rfl (lv_at hl 0 rfl) ?_
    refine va_get (D := D) (ci := 4) (v := .int (cx_t_least S_15)) (C := RX4) (T := TX4) (N := 4) hx hb hts hin4 hown hK hP 11 rfl rfl 0 (by decide) w9 (fun _ h9 => h9) rfl dX4_assign_12 ?_
    refine lv_iconst (v := (-1)) hx hb dX4_assign_15 (by decide) ?_
    obtain ⟨hc_17t, hc_17f⟩ := hw
    refine lv_icmp_eq (tgt := 28) hx hb dX4_assign_16 (by decide) (fun c_17 => ?_) (fun c_17 => ?_)
    · have hw := hc_17t c_17
      clear hc_17t hc_17f
      exact J_28 p4 S_15 _ _ _ hw hP hD hS (lv_sub hl [0, 4] rfl)
    · have hw := hc_17f c_17
      clear hc_17t hc_17f
      refine lv_iload hx hb dX4_assign_19 (lv_at hl 4 rfl) ?_
      refine lv_aload_n hx hb dX4_assign_21 rfl (lv_at hl 0 rfl) ?_
      refine va_get (D := D) (ci := 4) (v := .int (cx_t_least S_15)) (C := RX4) (T := TX4) (N := 4) hx hb hts hin4 hown hK hP 11 rfl rfl 0 (by decide) w9 (fun _ h9 => h9) rfl dX4_assign_22 ?_
      obtain ⟨hc_18t, hc_18f⟩ := hw
      refine lv_icmp_ge (tgt := 45) hx hb dX4_assign_25 (by decide) (fun c_18 => ?_) (fun c_18 => ?_)
      · have hw := hc_18t c_18
        clear hc_18t hc_18f
        exact W.vret hx hb hr (fun t ht hW => ⟨⟨S_15, rfl, hw, by rw [ht]; exact hP, va_K.moved hW.alike hK, hD⟩, hS.F ht⟩) hS.2.2 dX4_assign_45
      · have hw := hc_18f c_18
        clear hc_18t hc_18f
        exact J_28 p4 S_15 _ _ _ hw hP hD hS (lv_sub hl [0, 4] rfl)
def wD_X4_assign : Nat → Int32 → Int32 → Int32 → Int32 → CS → (CS → Prop) → Prop
  | 0, _, _, _, _, _, _ => False
  | d + 1, p1, p2, p3, p4, S, post => wB_X4_assign (wD_X4_assign d) p1 p2 p3 p4 S post
theorem cD_X4_assign (l : Launch) (D : va_G) (h : Nat → Nat) (cy : Nat → ClassId) (d : Nat) : ∀ (p1 : Int32) (p2 : Int32) (p3 : Int32) (p4 : Int32) (S : CS) (post : CS → Prop), wD_X4_assign d p1 p2 p3 p4 S post → e_Mv nxE l yX4_assign wsX4_assign { frames := 3 + d, cells := 0, slots := 0, locals := 105 + d * 26 } D (tyC cy) (wC h cy) [.ref (h 11), .int p1, .int p2, .int p3, .int p4] S post := by
  induction d with
  | zero => intro p1 p2 p3 p4 S post hw; exact False.elim hw
  | succ d ih => intro p1 p2 p3 p4 S post hw; exact cB_X4_assign l D h cy d (wD_X4_assign d) ih p1 p2 p3 p4 S post hw
def wC_X4_assign (p1 : Int32) (p2 : Int32) (p3 : Int32) (p4 : Int32) (S : CS) (post : CS → Prop) : Prop := wD_X4_assign 8 p1 p2 p3 p4 S post
theorem cC_X4_assign (l : Launch) (D : va_G) (h : Nat → Nat) (cy : Nat → ClassId) (p1 : Int32) (p2 : Int32) (p3 : Int32) (p4 : Int32) (S : CS) (post : CS → Prop) (hw : wC_X4_assign p1 p2 p3 p4 S post) : e_Mv nxE l yX4_assign wsX4_assign { frames := 11, cells := 0, slots := 0, locals := 313 } D (tyC cy) (wC h cy) [.ref (h 11), .int p1, .int p2, .int p3, .int p4] S post := cD_X4_assign l D h cy 8 p1 p2 p3 p4 S post hw
def wC_X4_find (S : CS) (post : CS → Prop) : Prop := (∀ S_1 : CS, S_1 = (cx_set_t_least S (-1)) → wC_X0_clownCount S_1 (fun r_2 S_3 => wC_X0_houseCount S_3 (fun r_4 S_5 => wC_X4_assign 0 0 (if (r_2 - r_4) < 0 then 0 else (r_2 - r_4)) 0 S_5 (fun S_7 => post S_7))))
set_option maxHeartbeats 4000000 in
set_option maxRecDepth 100000 in
theorem cC_X4_find (l : Launch) (D : va_G) (h : Nat → Nat) (cy : Nat → ClassId) (S : CS) (post : CS → Prop) (hw : wC_X4_find S post) : e_Mv nxE l yX4_find wsX4_find { frames := 12, cells := 0, slots := 0, locals := 339 } D (tyC cy) (wC h cy) [.ref (h 11)] S post := by
  intro sz
  refine Met.ofW (cc := cX4_find) (maxL := 1) (ret := none) (by decide) rfl ?_
  intro p e s m args below meth c s₁ B hml hv
  obtain ⟨rfl, hsz, hP, hK, hD0, hs⟩ := hv
  have hx := B.exec
  have hb := B.bytes
  have hr := B.returns
  have hts := atoms_spec (ws := wsX4_find) B.pre
  have hown : s.vm.findClass RX4 = some m.cls := findClass_of_methodNamed B.named
  have hlocks := B.notSynchronized
  subst hsz
  have hD := hD0.self (sz := s.heap.size)
  generalize hAe : va_A (wC h cy S) s.heap.size = A at hD ⊢
  have hA : ∀ q : Nat, s.heap.size ≤ q → A q := fun q h => by rw [← hAe]; exact Or.inr h
  have hS : va_S A s.heap s.heap [] := va_S.rf
  have hin4 : ∀ w ∈ wsX40, w ∈ wsX4_find := fun _ h => List.mem_cons_of_mem _ (List.mem_append_left _ (List.mem_append_right _ h))
  have hin0 : ∀ w ∈ wsX00, w ∈ wsX4_find := fun _ h => List.mem_cons_of_mem _ (List.mem_append_right _ h)
  have w22 := hts (.fieldLink RX4 22 "ClownsMourn$Match" "city" "LClownsMourn$City;") (List.mem_of_getElem? (i := 2) rfl)
  have w9 := hts (.fieldLink RX4 9 "ClownsMourn$Match" "least" "I") (List.mem_of_getElem? (i := 1) rfl)
  have wm35 := hts (.methodLink RX4 35 Lib.Math.max.name) (List.mem_of_getElem? (i := 3) rfl)
  have wsmax := hts (.static Lib.Math.max.name) (List.mem_of_getElem? (i := 4) rfl)
  have wcdmax := hts (.code Lib.Math.max.name Lib.Math.max.code 2 (some .int)) (List.mem_of_getElem? (i := 6) rfl)
  have wiM := hts (.initialized "java/lang/Math") (List.mem_of_getElem? (i := 5) rfl)
  have hl := lv_entry ([.ref (h 11)]) (n := 1) (Nat.le_of_ble_eq_true rfl)
  rw [lg_entry_eq]
  generalize (lg_sl ([.ref (h 11)]) ++ List.replicate (1 - (lg_sl ([.ref (h 11)])).length) Slot.unset).toArray = ls at hl ⊢
  have hl : lv_has ls 1 [(0, .ref (h 11))] := hl
  unfold wC_X4_find at hw
  clear hD0
  refine lv_aload_n hx hb dX4_find_0 rfl (lv_at hl 0 rfl) ?_
  refine lv_iconst (v := (-1)) hx hb dX4_find_1 (by decide) ?_
  refine va_put (D := D) (ci := 4) (v := .int (-1)) (ty := .int) (C := RX4) (T := TX4) (N := 4) hx hb hts hin4 tyX4 tyX4_ok nmX4 hown hK hP hD hS 11 rfl rfl 0 (by decide) w9 (fun _ h9 => h9) rfl (tyX4_ok 0 (by decide)) rfl rfl (Nat.le_of_ble_eq_true rfl) dX4_find_2 (fun H locs hP hD hS => ?_)
  obtain ⟨S_1, eS_1⟩ : ∃ z : CS, z = (cx_set_t_least S (-1)) := ⟨_, rfl⟩
  replace hw := hw S_1 eS_1
  have hP : va_P D vwCl (wC h cy S_1) H := by rw [eS_1, ← wCp_t_least]; exact hP
  have hD : va_D A (wC h cy S_1) := by rw [eS_1, ← wCp_t_least]; exact hD
  refine lv_aload_n hx hb dX4_find_5 rfl (lv_at hl 0 rfl) ?_
  refine lv_iconst (v := 0) hx hb dX4_find_6 (by decide) ?_
  refine lv_iconst (v := 0) hx hb dX4_find_7 (by decide) ?_
  refine lv_aload_n hx hb dX4_find_8 rfl (lv_at hl 0 rfl) ?_
  refine va_get (D := D) (ci := 4) (v := .ref (h 1)) (C := RX4) (T := TX4) (N := 4) hx hb hts hin4 hown hK hP 11 rfl rfl 2 (by decide) w22 (fun _ h9 => h9) rfl dX4_find_9 ?_
  refine e_callVi (As := []) (rest := [.int 0, .int 0, .ref (h 11)]) nxE_stable hs ⟨hx, hb, hml, hown, hts⟩ (cC_X0_clownCount l D h cy _ _ hw) (cwV 0 hts gX4_find_X0_clownCount rfl rfl rfl (by decide +kernel) ⟨Nat.le_of_ble_eq_true rfl, Nat.le_of_ble_eq_true rfl⟩) (va_recv hK hP (ci := 0) (q0 := 1) rfl rfl) hK hP hD hS hA rfl hl.1 rfl (Nat.le_of_ble_eq_true rfl) dX4_find_12 ⟨Nat.zero_le _, Nat.zero_le _⟩ (fun r_2 S_3 H locs hw hP hD hS => ?_)
  refine lv_aload_n hx hb dX4_find_15 rfl (lv_at hl 0 rfl) ?_
  refine va_get (D := D) (ci := 4) (v := .ref (h 1)) (C := RX4) (T := TX4) (N := 4) hx hb hts hin4 hown hK hP 11 rfl rfl 2 (by decide) w22 (fun _ h9 => h9) rfl dX4_find_16 ?_
  refine e_callVi (As := []) (rest := [.int r_2, .int 0, .int 0, .ref (h 11)]) nxE_stable hs ⟨hx, hb, hml, hown, hts⟩ (cC_X0_houseCount l D h cy _ _ hw) (cwV 0 hts gX4_find_X0_houseCount rfl rfl rfl (by decide +kernel) ⟨Nat.le_of_ble_eq_true rfl, Nat.le_of_ble_eq_true rfl⟩) (va_recv hK hP (ci := 0) (q0 := 1) rfl rfl) hK hP hD hS hA rfl hl.1 rfl (Nat.le_of_ble_eq_true rfl) dX4_find_19 ⟨Nat.zero_le _, Nat.zero_le _⟩ (fun r_4 S_5 H locs hw hP hD hS => ?_)
  refine lv_isub hx hb dX4_find_22 ?_
  refine lv_iconst (v := 0) hx hb dX4_find_23 (by decide) ?_
  refine va_mmax (own := RX4) (index := 35) hx hb (hml.trans hl.1.symm) hown wm35 wsmax wiM wcdmax (Nat.le_of_ble_eq_true rfl) (Nat.le_of_ble_eq_true rfl) (Nat.zero_le _) (Nat.zero_le _) dX4_find_24 ?_
  refine lv_iconst (v := 0) hx hb dX4_find_27 (by decide) ?_
  refine e_callVv (As := [.int 0, .int 0, .int (if (r_2 - r_4) < 0 then 0 else (r_2 - r_4)), .int 0]) (rest := []) nxE_stable hs ⟨hx, hb, hml, hown, hts⟩ (cC_X4_assign l D h cy _ _ _ _ _ _ hw) (cwV 4 hts gX4_find_X4_assign rfl rfl rfl (by decide +kernel) ⟨Nat.le_of_ble_eq_true rfl, Nat.le_of_ble_eq_true rfl⟩) (va_recv hK hP (ci := 4) (q0 := 11) rfl rfl) hK hP hD hS hA rfl hl.1 rfl (Nat.le_of_ble_eq_true rfl) dX4_find_28 ⟨Nat.zero_le _, Nat.zero_le _⟩ (fun S_7 H locs hw hP hD hS => ?_)
  exact W.vret hx hb hr (fun t ht hW => ⟨⟨S_7, rfl, hw, by rw [ht]; exact hP, va_K.moved hW.alike hK, hD⟩, hS.F ht⟩) hS.2.2 dX4_find_31
def wC_X11_matched_19 (post : Int32 → CS → Prop) (x1 : Int32) (S : CS) : Prop := wC_X4_find S (fun S_2 => ((x1 = (-1) → post (cx_t_least S_2) S_2) ∧ (¬ (x1 = (-1)) → post (k_at 5 (cx_t_best S_2) x1) S_2)))
def wC_X11_matched (p1 : Int32) (S : CS) (post : Int32 → CS → Prop) : Prop := ((p1 = (-1) → wC_X11_matched_19 post p1 S) ∧ (¬ (p1 = (-1)) → wC_X0_hasClown p1 S (fun r_2 S_3 => ((r_2 = 0 → post (-2) S_3) ∧ (¬ (r_2 = 0) → wC_X11_matched_19 post p1 S_3)))))
set_option maxHeartbeats 4000000 in
set_option maxRecDepth 100000 in
theorem cC_X11_matched (l : Launch) (D : va_G) (h : Nat → Nat) (cy : Nat → ClassId) (p1 : Int32) (S : CS) (post : Int32 → CS → Prop) (hw : wC_X11_matched p1 S post) : e_Mi nxE l yX11_matched wsX11_matched { frames := 13, cells := 0, slots := 0, locals := 359 } D (tyC cy) (wC h cy) [.ref (h 0), .int p1] S post := by
  intro sz
  refine Met.ofW (cc := cX11_matched) (maxL := 2) (ret := (some .int)) (by decide) rfl ?_
  intro p e s m args below meth c s₁ B hml hv
  obtain ⟨rfl, hsz, hP, hK, hD0, hs⟩ := hv
  have hx := B.exec
  have hb := B.bytes
  have hr := B.returns
  have hts := atoms_spec (ws := wsX11_matched) B.pre
  have hown : s.vm.findClass RX11 = some m.cls := findClass_of_methodNamed B.named
  have hlocks := B.notSynchronized
  subst hsz
  have hD := hD0.self (sz := s.heap.size)
  generalize hAe : va_A (wC h cy S) s.heap.size = A at hD ⊢
  have hA : ∀ q : Nat, s.heap.size ≤ q → A q := fun q h => by rw [← hAe]; exact Or.inr h
  have hS : va_S A s.heap s.heap [] := va_S.rf
  have hin11 : ∀ w ∈ wsX110, w ∈ wsX11_matched := fun _ h => List.mem_cons_of_mem _ (List.mem_append_left _ (List.mem_append_left _ (List.mem_append_right _ h)))
  have hin4 : ∀ w ∈ wsX40, w ∈ wsX11_matched := fun _ h => List.mem_cons_of_mem _ (List.mem_append_left _ (List.mem_append_right _ h))
  have hin0 : ∀ w ∈ wsX00, w ∈ wsX11_matched := fun _ h => List.mem_cons_of_mem _ (List.mem_append_right _ h)
  have w10 := hts (.fieldLink RX11 10 "ClownsMourn" "city" "LClownsMourn$City;") (List.mem_of_getElem? (i := 1) rfl)
  have w280 := hts (.fieldLink RX11 280 "ClownsMourn$Match" "least" "I") (List.mem_of_getElem? (i := 3) rfl)
  have w283 := hts (.fieldLink RX11 283 "ClownsMourn$Match" "best" "[I") (List.mem_of_getElem? (i := 4) rfl)
  have w68 := hts (.fieldLink RX11 68 "ClownsMourn" "match" "LClownsMourn$Match;") (List.mem_of_getElem? (i := 2) rfl)
  have hl := lv_entry ([.ref (h 0), .int p1]) (n := 2) (Nat.le_of_ble_eq_true rfl)
  rw [lg_entry_eq]
  generalize (lg_sl ([.ref (h 0), .int p1]) ++ List.replicate (2 - (lg_sl ([.ref (h 0), .int p1])).length) Slot.unset).toArray = ls at hl ⊢
  have hl : lv_has ls 2 [(0, .ref (h 0)), (1, .int p1)] := hl
  unfold wC_X11_matched at hw
  clear hD0
  have J_19 : ∀ (x1 : Int32) (S : CS) (H : Heap) (locs : List Loc) (ls : Array Slot), wC_X11_matched_19 post x1 S → va_P D vwCl (wC h cy S) H → va_D A (wC h cy S) → va_S A s.heap H locs → lv_has ls 2 [(0, .ref (h 0)), (1, .int x1)] → W p l e (headSpec wsX11_matched { frames := 13, cells := 0, slots := 0, locals := 359 }).room s m (([.ref (h 0), .int p1] : List Value).toArray) below meth c H locs 0 0 (MQ below (va_Qi post (k_Post D (tyC cy) (wC h cy) A) A) (([.ref (h 0), .int p1] : List Value).toArray) s 0 0 A) (F0 m 19 ls []) := by
    intro x1 S H locs ls hw hP hD hS hl
    unfold wC_X11_matched_19 at hw
    refine lv_aload_n hx hb dX11_matched_19 rfl (lv_at hl 0 rfl) ?_
    refine va_get (D := D) (ci := 10) (v := .ref (h 11)) (C := RX11) (T := TX11) (N := 9) hx hb hts hin11 hown hK hP 0 rfl rfl 8 (by decide) w68 (fun _ h9 => h9) rfl dX11_matched_20 ?_
    refine e_callVv (As := []) (rest := []) nxE_stable hs ⟨hx, hb, hml, hown, hts⟩ (cC_X4_find l D h cy _ _ hw) (cwV 0 hts gX11_matched_X4_find rfl rfl rfl (by decide +kernel) ⟨Nat.le_of_ble_eq_true rfl, Nat.le_of_ble_eq_true rfl⟩) (va_recv hK hP (ci := 4) (q0 := 11) rfl rfl) hK hP hD hS hA rfl hl.1 rfl (Nat.le_of_ble_eq_true rfl) dX11_matched_23 ⟨Nat.zero_le _, Nat.zero_le _⟩ (fun S_2 H locs hw hP hD hS => ?_)
    refine lv_iload_n hx hb dX11_matched_26 rfl (lv_at hl 1 rfl) ?_
    refine lv_iconst (v := (-1)) hx hb dX11_matched_27 (by decide) ?_
    obtain ⟨hc_3t, hc_3f⟩ := hw
    refine lv_icmp_ne (tgt := 41) hx hb dX11_matched_28 (by decide) (fun c_3 => ?_) (fun c_3 => ?_)
    · have hw := hc_3f c_3
      clear hc_3t hc_3f
      refine lv_aload_n hx hb dX11_matched_41 rfl (lv_at hl 0 rfl) ?_
      refine va_get (D := D) (ci := 10) (v := .ref (h 11)) (C := RX11) (T := TX11) (N := 9) hx hb hts hin11 hown hK hP 0 rfl rfl 8 (by decide) w68 (fun _ h9 => h9) rfl dX11_matched_42 ?_
      refine va_get (D := D) (ci := 4) (v := .ref (h 46)) (C := RX4) (T := TX4) (N := 4) hx hb hts hin4 hown hK hP 11 rfl rfl 1 (by decide) w283 (fun _ h9 => h9) rfl dX11_matched_45 ?_
      refine lv_iload_n hx hb dX11_matched_48 rfl (lv_at hl 1 rfl) ?_
      refine e_callSi (As := [.ref (h 46), .int x1]) (rest := []) nxE_stable hs ⟨hx, hb, hml, hown, hts⟩ (cA_at l D nxE (tyC cy) (wC h cy) S_2 46 34 _ _ 5 (cx_t_best S_2) rfl rfl (by decide) _ (fun r S0 => r = k_at 5 (cx_t_best S_2) x1 ∧ S_2 = S0) ⟨rfl, rfl⟩) (va_cwS 2 hts gX11_matched_X11_at rfl rfl rfl (by decide +kernel) ⟨Nat.le_of_ble_eq_true rfl, Nat.le_of_ble_eq_true rfl⟩) hK hP hD hS hA rfl hl.1 rfl (Nat.le_of_ble_eq_true rfl) dX11_matched_49 ⟨Nat.zero_le _, Nat.zero_le _⟩ (fun r_ S_ H locs hq hP hD hS => ?_)
      obtain ⟨rfl, rfl⟩ := hq
      exact W.iret (v := k_at 5 (cx_t_best S_2) x1) hx hb hr (fun t ht hW => ⟨⟨k_at 5 (cx_t_best S_2) x1, S_2, rfl, hw, by rw [ht]; exact hP, va_K.moved hW.alike hK, hD⟩, hS.F ht⟩) hS.2.2 dX11_matched_52
    · have hw := hc_3t c_3
      clear hc_3t hc_3f
      refine lv_aload_n hx hb dX11_matched_31 rfl (lv_at hl 0 rfl) ?_
      refine va_get (D := D) (ci := 10) (v := .ref (h 11)) (C := RX11) (T := TX11) (N := 9) hx hb hts hin11 hown hK hP 0 rfl rfl 8 (by decide) w68 (fun _ h9 => h9) rfl dX11_matched_32 ?_
      refine va_get (D := D) (ci := 4) (v := .int (cx_t_least S_2)) (C := RX4) (T := TX4) (N := 4) hx hb hts hin4 hown hK hP 11 rfl rfl 0 (by decide) w280 (fun _ h9 => h9) rfl dX11_matched_35 ?_
      refine lv_goto (tgt := 52) hx hb dX11_matched_38 (by decide) ?_
      exact W.iret (v := (cx_t_least S_2)) hx hb hr (fun t ht hW => ⟨⟨(cx_t_least S_2), S_2, rfl, hw, by rw [ht]; exact hP, va_K.moved hW.alike hK, hD⟩, hS.F ht⟩) hS.2.2 dX11_matched_52
  refine lv_iload_n hx hb dX11_matched_0 rfl (lv_at hl 1 rfl) ?_
  refine lv_iconst (v := (-1)) hx hb dX11_matched_1 (by decide) ?_
  obtain ⟨hc_4t, hc_4f⟩ := hw
  refine lv_icmp_eq (tgt := 19) hx hb dX11_matched_2 (by decide) (fun c_4 => ?_) (fun c_4 => ?_)
  · have hw := hc_4t c_4
    clear hc_4t hc_4f
    exact J_19 p1 S _ _ _ hw hP hD hS (lv_sub hl [0, 1] rfl)
  · have hw := hc_4f c_4
    clear hc_4t hc_4f
    refine lv_aload_n hx hb dX11_matched_5 rfl (lv_at hl 0 rfl) ?_
    refine va_get (D := D) (ci := 10) (v := .ref (h 1)) (C := RX11) (T := TX11) (N := 9) hx hb hts hin11 hown hK hP 0 rfl rfl 0 (by decide) w10 (fun _ h9 => h9) rfl dX11_matched_6 ?_
    refine lv_iload_n hx hb dX11_matched_9 rfl (lv_at hl 1 rfl) ?_
    refine e_callVi (As := [.int p1]) (rest := []) nxE_stable hs ⟨hx, hb, hml, hown, hts⟩ (cC_X0_hasClown l D h cy _ _ _ hw) (cwV 1 hts gX11_matched_X0_hasClown rfl rfl rfl (by decide +kernel) ⟨Nat.le_of_ble_eq_true rfl, Nat.le_of_ble_eq_true rfl⟩) (va_recv hK hP (ci := 0) (q0 := 1) rfl rfl) hK hP hD hS hA rfl hl.1 rfl (Nat.le_of_ble_eq_true rfl) dX11_matched_10 ⟨Nat.zero_le _, Nat.zero_le _⟩ (fun r_5 S_6 H locs hw hP hD hS => ?_)
    obtain ⟨hc_7t, hc_7f⟩ := hw
    refine lv_if_ne (tgt := 19) hx hb dX11_matched_13 (by decide) (fun c_7 => ?_) (fun c_7 => ?_)
    · have hw := hc_7f c_7
      clear hc_7t hc_7f
      exact J_19 p1 S_6 _ _ _ hw hP hD hS (lv_sub hl [0, 1] rfl)
    · have hw := hc_7t c_7
      clear hc_7t hc_7f
      refine lv_bipush (v := (-2)) hx hb dX11_matched_16 (by decide) ?_
      exact W.iret (v := (-2)) hx hb hr (fun t ht hW => ⟨⟨(-2), S_6, rfl, hw, by rw [ht]; exact hP, va_K.moved hW.alike hK, hD⟩, hS.F ht⟩) hS.2.2 dX11_matched_18
def wC_X11_bore_66 (post : Int32 → CS → Prop) (t1 : Int32) (t2 : Int32) (t3 : Int32) (S : CS) : Prop := (∀ S_1 : CS, S_1 = (cx_set_c_trials S (k_put 8 (cx_c_trials S) t1 (t2 + t3))) → (∀ S_2 : CS, S_2 = (cx_set_c_trialCount S_1 ((cx_c_trialCount S_1) + 1)) → post (cx_c_trialCount S_2) S_2))
def wC_X11_bore (p1 : Int32) (p2 : Int32) (S : CS) (post : Int32 → CS → Prop) : Prop := ((p1 = (-1) → (∀ S_7 : CS, S_7 = (cx_set_c_trialCount S 0) → post 0 S_7)) ∧ (¬ (p1 = (-1)) → wC_X11_within p1 0 99 S (fun r_2 S_3 => ((r_2 = 0 → post (-2) S_3) ∧ (¬ (r_2 = 0) → (((cx_c_trialCount S_3) < 8 → ((p2 = 0 → wC_X11_bore_66 post (cx_c_trialCount S_3) (p1 * 2) 0 S_3) ∧ (¬ (p2 = 0) → wC_X11_bore_66 post (cx_c_trialCount S_3) (p1 * 2) 1 S_3))) ∧ (¬ ((cx_c_trialCount S_3) < 8) → post (-2) S_3)))))))
set_option maxHeartbeats 4000000 in
set_option maxRecDepth 100000 in
theorem cC_X11_bore (l : Launch) (D : va_G) (h : Nat → Nat) (cy : Nat → ClassId) (p1 : Int32) (p2 : Int32) (S : CS) (post : Int32 → CS → Prop) (hw : wC_X11_bore p1 p2 S post) : e_Mi nxE l yX11_bore wsX11_bore { frames := 1, cells := 0, slots := 0, locals := 22 } D (tyC cy) (wC h cy) [.ref (h 0), .int p1, .int p2] S post := by
  intro sz
  refine Met.ofW (cc := cX11_bore) (maxL := 3) (ret := (some .int)) (by decide) rfl ?_
  intro p e s m args below meth c s₁ B hml hv
  obtain ⟨rfl, hsz, hP, hK, hD0, hs⟩ := hv
  have hx := B.exec
  have hb := B.bytes
  have hr := B.returns
  have hts := atoms_spec (ws := wsX11_bore) B.pre
  have hown : s.vm.findClass RX11 = some m.cls := findClass_of_methodNamed B.named
  have hlocks := B.notSynchronized
  subst hsz
  have hD := hD0.self (sz := s.heap.size)
  generalize hAe : va_A (wC h cy S) s.heap.size = A at hD ⊢
  have hA : ∀ q : Nat, s.heap.size ≤ q → A q := fun q h => by rw [← hAe]; exact Or.inr h
  have hS : va_S A s.heap s.heap [] := va_S.rf
  have hin11 : ∀ w ∈ wsX110, w ∈ wsX11_bore := fun _ h => List.mem_cons_of_mem _ (List.mem_append_left _ (List.mem_append_right _ h))
  have hin0 : ∀ w ∈ wsX00, w ∈ wsX11_bore := fun _ h => List.mem_cons_of_mem _ (List.mem_append_right _ h)
  have w10 := hts (.fieldLink RX11 10 "ClownsMourn" "city" "LClownsMourn$City;") (List.mem_of_getElem? (i := 1) rfl)
  have w286 := hts (.fieldLink RX11 286 "ClownsMourn$City" "trialCount" "I") (List.mem_of_getElem? (i := 2) rfl)
  have w289 := hts (.fieldLink RX11 289 "ClownsMourn$City" "trials" "[I") (List.mem_of_getElem? (i := 3) rfl)
  have hl := lv_entry ([.ref (h 0), .int p1, .int p2]) (n := 3) (Nat.le_of_ble_eq_true rfl)
  rw [lg_entry_eq]
  generalize (lg_sl ([.ref (h 0), .int p1, .int p2]) ++ List.replicate (3 - (lg_sl ([.ref (h 0), .int p1, .int p2])).length) Slot.unset).toArray = ls at hl ⊢
  have hl : lv_has ls 3 [(0, .ref (h 0)), (1, .int p1), (2, .int p2)] := hl
  unfold wC_X11_bore at hw
  clear hD0
  have J_66 : ∀ (t1 : Int32) (t2 : Int32) (t3 : Int32) (S : CS) (H : Heap) (locs : List Loc) (ls : Array Slot), wC_X11_bore_66 post t1 t2 t3 S → va_P D vwCl (wC h cy S) H → va_D A (wC h cy S) → va_S A s.heap H locs → lv_has ls 3 [(0, .ref (h 0))] → W p l e (headSpec wsX11_bore { frames := 1, cells := 0, slots := 0, locals := 22 }).room s m (([.ref (h 0), .int p1, .int p2] : List Value).toArray) below meth c H locs 0 0 (MQ below (va_Qi post (k_Post D (tyC cy) (wC h cy) A) A) (([.ref (h 0), .int p1, .int p2] : List Value).toArray) s 0 0 A) (F0 m 66 ls [.int t3, .int t2, .int t1, .ref (h 19)]) := by
    intro t1 t2 t3 S H locs ls hw hP hD hS hl
    unfold wC_X11_bore_66 at hw
    refine lv_iadd hx hb dX11_bore_66 ?_
    refine e_callSv (As := [.ref (h 19), .int t1, .int (t2 + t3)]) (rest := []) nxE_stable hs ⟨hx, hb, hml, hown, hts⟩ (cA_put l D nxE (tyC cy) (wC h cy) cx_c_trials cx_set_c_trials S 19 7 _ _ 8 rfl (wCs_c_trials h cy S) rfl (by decide) _ _ (fun S0 => S0 = (cx_set_c_trials S (k_put 8 (cx_c_trials S) t1 (t2 + t3)))) rfl) (va_cwS 3 hts gX11_bore_X11_put rfl rfl rfl (by decide +kernel) ⟨Nat.le_of_ble_eq_true rfl, Nat.le_of_ble_eq_true rfl⟩) hK hP hD hS hA rfl hl.1 rfl (Nat.le_of_ble_eq_true rfl) dX11_bore_67 ⟨Nat.zero_le _, Nat.zero_le _⟩ (fun S_1 H locs eS_1 hP hD hS => ?_)
    replace hw := hw S_1 eS_1
    refine lv_aload_n hx hb dX11_bore_70 rfl (lv_at hl 0 rfl) ?_
    refine va_get (D := D) (ci := 10) (v := .ref (h 1)) (C := RX11) (T := TX11) (N := 9) hx hb hts hin11 hown hK hP 0 rfl rfl 0 (by decide) w10 (fun _ h9 => h9) rfl dX11_bore_71 ?_
    refine lv_dup hx hb dX11_bore_74 rfl ?_
    refine va_get (D := D) (ci := 0) (v := .int (cx_c_trialCount S_1)) (C := RX0) (T := TX0) (N := 16) hx hb hts hin0 hown hK hP 1 rfl rfl 11 (by decide) w286 (fun _ h9 => h9) rfl dX11_bore_75 ?_
    refine lv_iconst (v := 1) hx hb dX11_bore_78 (by decide) ?_
    refine lv_iadd hx hb dX11_bore_79 ?_
    refine va_put (D := D) (ci := 0) (v := .int ((cx_c_trialCount S_1) + 1)) (ty := .int) (C := RX0) (T := TX0) (N := 16) hx hb hts hin0 tyX0 tyX0_ok nmX0 hown hK hP hD hS 1 rfl rfl 11 (by decide) w286 (fun _ h9 => h9) rfl (tyX0_ok 11 (by decide)) rfl rfl (Nat.le_of_ble_eq_true rfl) dX11_bore_80 (fun H locs hP hD hS => ?_)
    obtain ⟨S_2, eS_2⟩ : ∃ z : CS, z = (cx_set_c_trialCount S_1 ((cx_c_trialCount S_1) + 1)) := ⟨_, rfl⟩
    replace hw := hw S_2 eS_2
    have hP : va_P D vwCl (wC h cy S_2) H := by rw [eS_2, ← wCp_c_trialCount]; exact hP
    have hD : va_D A (wC h cy S_2) := by rw [eS_2, ← wCp_c_trialCount]; exact hD
    refine lv_aload_n hx hb dX11_bore_83 rfl (lv_at hl 0 rfl) ?_
    refine va_get (D := D) (ci := 10) (v := .ref (h 1)) (C := RX11) (T := TX11) (N := 9) hx hb hts hin11 hown hK hP 0 rfl rfl 0 (by decide) w10 (fun _ h9 => h9) rfl dX11_bore_84 ?_
    refine va_get (D := D) (ci := 0) (v := .int (cx_c_trialCount S_2)) (C := RX0) (T := TX0) (N := 16) hx hb hts hin0 hown hK hP 1 rfl rfl 11 (by decide) w286 (fun _ h9 => h9) rfl dX11_bore_87 ?_
    exact W.iret (v := (cx_c_trialCount S_2)) hx hb hr (fun t ht hW => ⟨⟨(cx_c_trialCount S_2), S_2, rfl, hw, by rw [ht]; exact hP, va_K.moved hW.alike hK, hD⟩, hS.F ht⟩) hS.2.2 dX11_bore_90
  refine lv_iload_n hx hb dX11_bore_0 rfl (lv_at hl 1 rfl) ?_
  refine lv_iconst (v := (-1)) hx hb dX11_bore_1 (by decide) ?_
  obtain ⟨hc_3t, hc_3f⟩ := hw
  refine lv_icmp_ne (tgt := 15) hx hb dX11_bore_2 (by decide) (fun c_3 => ?_) (fun c_3 => ?_)
  · have hw := hc_3f c_3
    clear hc_3t hc_3f
    refine lv_iload_n hx hb dX11_bore_15 rfl (lv_at hl 1 rfl) ?_
    refine lv_iconst (v := 0) hx hb dX11_bore_16 (by decide) ?_
    refine lv_bipush (v := 99) hx hb dX11_bore_17 (by decide) ?_
    refine e_callSi (As := [.int p1, .int 0, .int 99]) (rest := []) nxE_stable hs ⟨hx, hb, hml, hown, hts⟩ (cC_X11_within l D h cy _ _ _ _ _ hw) (va_cwS 3 hts gX11_bore_X11_within rfl rfl rfl (by decide +kernel) ⟨Nat.le_of_ble_eq_true rfl, Nat.le_of_ble_eq_true rfl⟩) hK hP hD hS hA rfl hl.1 rfl (Nat.le_of_ble_eq_true rfl) dX11_bore_19 ⟨Nat.zero_le _, Nat.zero_le _⟩ (fun r_4 S_5 H locs hw hP hD hS => ?_)
    obtain ⟨hc_6t, hc_6f⟩ := hw
    refine lv_if_eq (tgt := 37) hx hb dX11_bore_22 (by decide) (fun c_6 => ?_) (fun c_6 => ?_)
    · have hw := hc_6t c_6
      clear hc_6t hc_6f
      refine lv_bipush (v := (-2)) hx hb dX11_bore_37 (by decide) ?_
      exact W.iret (v := (-2)) hx hb hr (fun t ht hW => ⟨⟨(-2), S_5, rfl, hw, by rw [ht]; exact hP, va_K.moved hW.alike hK, hD⟩, hS.F ht⟩) hS.2.2 dX11_bore_39
    · have hw := hc_6f c_6
      clear hc_6t hc_6f
      refine lv_aload_n hx hb dX11_bore_25 rfl (lv_at hl 0 rfl) ?_
      refine va_get (D := D) (ci := 10) (v := .ref (h 1)) (C := RX11) (T := TX11) (N := 9) hx hb hts hin11 hown hK hP 0 rfl rfl 0 (by decide) w10 (fun _ h9 => h9) rfl dX11_bore_26 ?_
      refine va_get (D := D) (ci := 0) (v := .int (cx_c_trialCount S_5)) (C := RX0) (T := TX0) (N := 16) hx hb hts hin0 hown hK hP 1 rfl rfl 11 (by decide) w286 (fun _ h9 => h9) rfl dX11_bore_29 ?_
      refine lv_bipush (v := 8) hx hb dX11_bore_32 (by decide) ?_
      obtain ⟨hc_7t, hc_7f⟩ := hw
      refine lv_icmp_lt (tgt := 40) hx hb dX11_bore_34 (by decide) (fun c_7 => ?_) (fun c_7 => ?_)
      · have hw := hc_7t c_7
        clear hc_7t hc_7f
        refine lv_aload_n hx hb dX11_bore_40 rfl (lv_at hl 0 rfl) ?_
        refine va_get (D := D) (ci := 10) (v := .ref (h 1)) (C := RX11) (T := TX11) (N := 9) hx hb hts hin11 hown hK hP 0 rfl rfl 0 (by decide) w10 (fun _ h9 => h9) rfl dX11_bore_41 ?_
        refine va_get (D := D) (ci := 0) (v := .ref (h 19)) (C := RX0) (T := TX0) (N := 16) hx hb hts hin0 hown hK hP 1 rfl rfl 10 (by decide) w289 (fun _ h9 => h9) rfl dX11_bore_44 ?_
        refine lv_aload_n hx hb dX11_bore_47 rfl (lv_at hl 0 rfl) ?_
        refine va_get (D := D) (ci := 10) (v := .ref (h 1)) (C := RX11) (T := TX11) (N := 9) hx hb hts hin11 hown hK hP 0 rfl rfl 0 (by decide) w10 (fun _ h9 => h9) rfl dX11_bore_48 ?_
        refine va_get (D := D) (ci := 0) (v := .int (cx_c_trialCount S_5)) (C := RX0) (T := TX0) (N := 16) hx hb hts hin0 hown hK hP 1 rfl rfl 11 (by decide) w286 (fun _ h9 => h9) rfl dX11_bore_51 ?_
        refine lv_iload_n hx hb dX11_bore_54 rfl (lv_at hl 1 rfl) ?_
        refine lv_iconst (v := 2) hx hb dX11_bore_55 (by decide) ?_
        refine lv_imul hx hb dX11_bore_56 ?_
        refine lv_iload_n hx hb dX11_bore_57 rfl (lv_at hl 2 rfl) ?_
        obtain ⟨hc_8t, hc_8f⟩ := hw
        refine lv_if_eq (tgt := 65) hx hb dX11_bore_58 (by decide) (fun c_8 => ?_) (fun c_8 => ?_)
        · have hw := hc_8t c_8
          clear hc_8t hc_8f
          refine lv_iconst (v := 0) hx hb dX11_bore_65 (by decide) ?_
          exact J_66 (cx_c_trialCount S_5) (p1 * 2) 0 S_5 _ _ _ hw hP hD hS (lv_sub hl [0] rfl)
        · have hw := hc_8f c_8
          clear hc_8t hc_8f
          refine lv_iconst (v := 1) hx hb dX11_bore_61 (by decide) ?_
          refine lv_goto (tgt := 66) hx hb dX11_bore_62 (by decide) ?_
          exact J_66 (cx_c_trialCount S_5) (p1 * 2) 1 S_5 _ _ _ hw hP hD hS (lv_sub hl [0] rfl)
      · have hw := hc_7f c_7
        clear hc_7t hc_7f
        refine lv_bipush (v := (-2)) hx hb dX11_bore_37 (by decide) ?_
        exact W.iret (v := (-2)) hx hb hr (fun t ht hW => ⟨⟨(-2), S_5, rfl, hw, by rw [ht]; exact hP, va_K.moved hW.alike hK, hD⟩, hS.F ht⟩) hS.2.2 dX11_bore_39
  · have hw := hc_3t c_3
    clear hc_3t hc_3f
    refine lv_aload_n hx hb dX11_bore_5 rfl (lv_at hl 0 rfl) ?_
    refine va_get (D := D) (ci := 10) (v := .ref (h 1)) (C := RX11) (T := TX11) (N := 9) hx hb hts hin11 hown hK hP 0 rfl rfl 0 (by decide) w10 (fun _ h9 => h9) rfl dX11_bore_6 ?_
    refine lv_iconst (v := 0) hx hb dX11_bore_9 (by decide) ?_
    refine va_put (D := D) (ci := 0) (v := .int 0) (ty := .int) (C := RX0) (T := TX0) (N := 16) hx hb hts hin0 tyX0 tyX0_ok nmX0 hown hK hP hD hS 1 rfl rfl 11 (by decide) w286 (fun _ h9 => h9) rfl (tyX0_ok 11 (by decide)) rfl rfl (Nat.le_of_ble_eq_true rfl) dX11_bore_10 (fun H locs hP hD hS => ?_)
    obtain ⟨S_9, eS_9⟩ : ∃ z : CS, z = (cx_set_c_trialCount S 0) := ⟨_, rfl⟩
    replace hw := hw S_9 eS_9
    have hP : va_P D vwCl (wC h cy S_9) H := by rw [eS_9, ← wCp_c_trialCount]; exact hP
    have hD : va_D A (wC h cy S_9) := by rw [eS_9, ← wCp_c_trialCount]; exact hD
    refine lv_iconst (v := 0) hx hb dX11_bore_13 (by decide) ?_
    exact W.iret (v := 0) hx hb hr (fun t ht hW => ⟨⟨0, S_9, rfl, hw, by rw [ht]; exact hP, va_K.moved hW.alike hK, hD⟩, hS.F ht⟩) hS.2.2 dX11_bore_14
def wC_X0_errorsAt_35 (post : Int32 → CS → Prop) (K4 : Int32 → Int32 → Int32 → CS → Prop) (x1 : Int32) (x2 : Int32) (x3 : Int32) (x4 : Int32) (t0 : Int32) (S : CS) : Prop := ((t0 = (k_rem x4 2) → K4 x1 (x2 + 0) (x3 + 1) S) ∧ (¬ (t0 = (k_rem x4 2)) → K4 x1 (x2 + 1) (x3 + 1) S))
def wC_X0_errorsAt_4 (post : Int32 → CS → Prop) : Nat → Int32 → Int32 → Int32 → CS → Prop
  | 0, _, _, _, _ => False
  | n + 1, x1, x2, x3, S => (((cx_c_trialCount S) ≤ x3 → post x2 S) ∧ (¬ ((cx_c_trialCount S) ≤ x3) → ((x1 ≤ ((k_at 8 (cx_c_trials S) x3) / 2) → wC_X0_errorsAt_35 post (wC_X0_errorsAt_4 post n) x1 x2 x3 (k_at 8 (cx_c_trials S) x3) 0 S) ∧ (¬ (x1 ≤ ((k_at 8 (cx_c_trials S) x3) / 2)) → wC_X0_errorsAt_35 post (wC_X0_errorsAt_4 post n) x1 x2 x3 (k_at 8 (cx_c_trials S) x3) 1 S))))
def wC_X0_errorsAt (p1 : Int32) (S : CS) (post : Int32 → CS → Prop) : Prop := ∃ k_ : Nat, wC_X0_errorsAt_4 post k_ p1 0 0 S
set_option maxHeartbeats 4000000 in
set_option maxRecDepth 100000 in
theorem cC_X0_errorsAt (l : Launch) (D : va_G) (h : Nat → Nat) (cy : Nat → ClassId) (p1 : Int32) (S : CS) (post : Int32 → CS → Prop) (hw : wC_X0_errorsAt p1 S post) : e_Mi nxE l yX0_errorsAt wsX0_errorsAt { frames := 1, cells := 0, slots := 0, locals := 21 } D (tyC cy) (wC h cy) [.ref (h 1), .int p1] S post := by
  intro sz
  refine Met.ofW (cc := cX0_errorsAt) (maxL := 6) (ret := (some .int)) (by decide) rfl ?_
  intro p e s m args below meth c s₁ B hml hv
  obtain ⟨rfl, hsz, hP, hK, hD0, hs⟩ := hv
  have hx := B.exec
  have hb := B.bytes
  have hr := B.returns
  have hts := atoms_spec (ws := wsX0_errorsAt) B.pre
  have hown : s.vm.findClass RX0 = some m.cls := findClass_of_methodNamed B.named
  have hlocks := B.notSynchronized
  subst hsz
  have hD := hD0.self (sz := s.heap.size)
  generalize hAe : va_A (wC h cy S) s.heap.size = A at hD ⊢
  have hA : ∀ q : Nat, s.heap.size ≤ q → A q := fun q h => by rw [← hAe]; exact Or.inr h
  have hS : va_S A s.heap s.heap [] := va_S.rf
  have hin0 : ∀ w ∈ wsX00, w ∈ wsX0_errorsAt := fun _ h => List.mem_cons_of_mem _ (List.mem_append_right _ h)
  have w50 := hts (.fieldLink RX0 50 "ClownsMourn$City" "trials" "[I") (List.mem_of_getElem? (i := 2) rfl)
  have w53 := hts (.fieldLink RX0 53 "ClownsMourn$City" "trialCount" "I") (List.mem_of_getElem? (i := 1) rfl)
  have wiX11 := hts (.initialized RX11) (List.mem_of_getElem? (i := 4) rfl)
  have wstat := hts (.static yX11_at) (List.mem_of_getElem? (i := 3) rfl)
  have hl := lv_entry ([.ref (h 1), .int p1]) (n := 6) (Nat.le_of_ble_eq_true rfl)
  rw [lg_entry_eq]
  generalize (lg_sl ([.ref (h 1), .int p1]) ++ List.replicate (6 - (lg_sl ([.ref (h 1), .int p1])).length) Slot.unset).toArray = ls at hl ⊢
  have hl : lv_has ls 6 [(0, .ref (h 1)), (1, .int p1)] := hl
  unfold wC_X0_errorsAt at hw
  clear hD0
  have L_4 : ∀ (n4 : Nat) (x1 : Int32) (x2 : Int32) (x3 : Int32) (S : CS) (H : Heap) (locs : List Loc) (ls : Array Slot), wC_X0_errorsAt_4 post n4 x1 x2 x3 S → va_P D vwCl (wC h cy S) H → va_D A (wC h cy S) → va_S A s.heap H locs → lv_has ls 6 [(0, .ref (h 1)), (1, .int x1), (2, .int x2), (3, .int x3)] → W p l e (headSpec wsX0_errorsAt { frames := 1, cells := 0, slots := 0, locals := 21 }).room s m (([.ref (h 1), .int p1] : List Value).toArray) below meth c H locs 0 0 (MQ below (va_Qi post (k_Post D (tyC cy) (wC h cy) A) A) (([.ref (h 1), .int p1] : List Value).toArray) s 0 0 A) (F0 m 4 ls []) := by
    intro n4
    induction n4 with
    | zero => intro x1 x2 x3 S H locs ls hw; exact False.elim hw
    | succ n4 ih_4 =>
      have J_35 : ∀ (x1 : Int32) (x2 : Int32) (x3 : Int32) (x4 : Int32) (t0 : Int32) (S : CS) (H : Heap) (locs : List Loc) (ls : Array Slot), wC_X0_errorsAt_35 post (wC_X0_errorsAt_4 post n4) x1 x2 x3 x4 t0 S → va_P D vwCl (wC h cy S) H → va_D A (wC h cy S) → va_S A s.heap H locs → lv_has ls 6 [(0, .ref (h 1)), (1, .int x1), (2, .int x2), (3, .int x3), (4, .int x4)] → W p l e (headSpec wsX0_errorsAt { frames := 1, cells := 0, slots := 0, locals := 21 }).room s m (([.ref (h 1), .int p1] : List Value).toArray) below meth c H locs 0 0 (MQ below (va_Qi post (k_Post D (tyC cy) (wC h cy) A) A) (([.ref (h 1), .int p1] : List Value).toArray) s 0 0 A) (F0 m 35 ls [.int t0]) := by
        intro x1 x2 x3 x4 t0 S H locs ls hw hP hD hS hl
        unfold wC_X0_errorsAt_35 at hw
        refine lv_istore (lv' := [(5, .int t0), (0, .ref (h 1)), (1, .int x1), (2, .int x2), (3, .int x3), (4, .int x4)]) hx hb dX0_errorsAt_35 hl (by decide) rfl (fun ls hl => ?_)
        refine lv_iload_n hx hb dX0_errorsAt_37 rfl (lv_at hl 3 rfl) ?_
        refine lv_iload hx hb dX0_errorsAt_38 (lv_at hl 0 rfl) ?_
        refine lv_iload hx hb dX0_errorsAt_40 (lv_at hl 5 rfl) ?_
        refine lv_iconst (v := 2) hx hb dX0_errorsAt_42 (by decide) ?_
        refine k_irem hx hb dX0_errorsAt_43 (by decide) ?_
        obtain ⟨hc_1t, hc_1f⟩ := hw
        refine lv_icmp_ne (tgt := 51) hx hb dX0_errorsAt_44 (by decide) (fun c_1 => ?_) (fun c_1 => ?_)
        · have hw := hc_1f c_1
          clear hc_1t hc_1f
          refine lv_iconst (v := 1) hx hb dX0_errorsAt_51 (by decide) ?_
          refine lv_iadd hx hb dX0_errorsAt_52 ?_
          refine lv_istore_n (lv' := [(2, .int (x2 + 1)), (5, .int t0), (0, .ref (h 1)), (1, .int x1), (3, .int x3), (4, .int x4)]) hx hb dX0_errorsAt_53 rfl hl (by decide) rfl (fun ls hl => ?_)
          refine lv_iinc (v := x3 + 1) (lv' := [(3, .int (x3 + 1)), (2, .int (x2 + 1)), (5, .int t0), (0, .ref (h 1)), (1, .int x1), (4, .int x4)]) hx hb dX0_errorsAt_54 hl (k := 4) rfl (k_inc (by decide)) (by decide) rfl (fun ls hl => ?_)
          refine lv_goto (tgt := 4) hx hb dX0_errorsAt_57 (by decide) ?_
          exact ih_4 x1 (x2 + 1) (x3 + 1) S _ _ _ hw hP hD hS (lv_sub hl [3, 4, 1, 0] rfl)
        · have hw := hc_1t c_1
          clear hc_1t hc_1f
          refine lv_iconst (v := 0) hx hb dX0_errorsAt_47 (by decide) ?_
          refine lv_goto (tgt := 52) hx hb dX0_errorsAt_48 (by decide) ?_
          refine lv_iadd hx hb dX0_errorsAt_52 ?_
          refine lv_istore_n (lv' := [(2, .int (x2 + 0)), (5, .int t0), (0, .ref (h 1)), (1, .int x1), (3, .int x3), (4, .int x4)]) hx hb dX0_errorsAt_53 rfl hl (by decide) rfl (fun ls hl => ?_)
          refine lv_iinc (v := x3 + 1) (lv' := [(3, .int (x3 + 1)), (2, .int (x2 + 0)), (5, .int t0), (0, .ref (h 1)), (1, .int x1), (4, .int x4)]) hx hb dX0_errorsAt_54 hl (k := 4) rfl (k_inc (by decide)) (by decide) rfl (fun ls hl => ?_)
          refine lv_goto (tgt := 4) hx hb dX0_errorsAt_57 (by decide) ?_
          exact ih_4 x1 (x2 + 0) (x3 + 1) S _ _ _ hw hP hD hS (lv_sub hl [3, 4, 1, 0] rfl)
      intro x1 x2 x3 S H locs ls hw hP hD hS hl
      unfold wC_X0_errorsAt_4 at hw
      refine lv_iload_n hx hb dX0_errorsAt_4 rfl (lv_at hl 3 rfl) ?_
      refine lv_aload_n hx hb dX0_errorsAt_5 rfl (lv_at hl 0 rfl) ?_
      refine va_get (D := D) (ci := 0) (v := .int (cx_c_trialCount S)) (C := RX0) (T := TX0) (N := 16) hx hb hts hin0 hown hK hP 1 rfl rfl 11 (by decide) w53 (fun _ h9 => h9) rfl dX0_errorsAt_6 ?_
      obtain ⟨hc_2t, hc_2f⟩ := hw
      refine lv_icmp_ge (tgt := 60) hx hb dX0_errorsAt_9 (by decide) (fun c_2 => ?_) (fun c_2 => ?_)
      · have hw := hc_2t c_2
        clear hc_2t hc_2f
        refine lv_iload_n hx hb dX0_errorsAt_60 rfl (lv_at hl 2 rfl) ?_
        exact W.iret (v := x2) hx hb hr (fun t ht hW => ⟨⟨x2, S, rfl, hw, by rw [ht]; exact hP, va_K.moved hW.alike hK, hD⟩, hS.F ht⟩) hS.2.2 dX0_errorsAt_61
      · have hw := hc_2f c_2
        clear hc_2t hc_2f
        refine lv_aload_n hx hb dX0_errorsAt_12 rfl (lv_at hl 0 rfl) ?_
        refine va_get (D := D) (ci := 0) (v := .ref (h 19)) (C := RX0) (T := TX0) (N := 16) hx hb hts hin0 hown hK hP 1 rfl rfl 10 (by decide) w50 (fun _ h9 => h9) rfl dX0_errorsAt_13 ?_
        refine lv_iload_n hx hb dX0_errorsAt_16 rfl (lv_at hl 3 rfl) ?_
        refine e_callNi (As := [.ref (h 19), .int x3]) (rest := []) nxE_stable hs ⟨hx, hb, hml, hown, hts⟩ (cA_at l D nxE (tyC cy) (wC h cy) S 19 7 _ _ 8 (cx_c_trials S) rfl rfl (by decide) _ (fun r S0 => r = k_at 8 (cx_c_trials S) x3 ∧ S = S0) ⟨rfl, rfl⟩) ⟨va_cnB 2 hts gX0_errorsAt_X11_at_n86 rfl rfl rfl hs.2.2.2.2.2.2.1 wiX11 (by decide +kernel) ⟨Nat.le_of_ble_eq_true rfl, Nat.le_of_ble_eq_true rfl⟩, wstat, trivial⟩ hK hP hD hS hA rfl hl.1 rfl (Nat.le_of_ble_eq_true rfl) dX0_errorsAt_17 ⟨Nat.zero_le _, Nat.zero_le _⟩ (fun r_ S_ H locs hq hP hD hS => ?_)
        obtain ⟨rfl, rfl⟩ := hq
        refine lv_istore (lv' := [(4, .int (k_at 8 (cx_c_trials S) x3)), (0, .ref (h 1)), (1, .int x1), (2, .int x2), (3, .int x3)]) hx hb dX0_errorsAt_20 hl (by decide) rfl (fun ls hl => ?_)
        refine lv_iload hx hb dX0_errorsAt_22 (lv_at hl 0 rfl) ?_
        refine lv_iconst (v := 2) hx hb dX0_errorsAt_24 (by decide) ?_
        refine lv_idiv hx hb dX0_errorsAt_25 (by decide) ?_
        refine lv_iload_n hx hb dX0_errorsAt_26 rfl (lv_at hl 2 rfl) ?_
        obtain ⟨hc_3t, hc_3f⟩ := hw
        refine lv_icmp_ge (tgt := 34) hx hb dX0_errorsAt_27 (by decide) (fun c_3 => ?_) (fun c_3 => ?_)
        · have hw := hc_3t c_3
          clear hc_3t hc_3f
          refine lv_iconst (v := 0) hx hb dX0_errorsAt_34 (by decide) ?_
          exact J_35 x1 x2 x3 (k_at 8 (cx_c_trials S) x3) 0 S _ _ _ hw hP hD hS (lv_sub hl [1, 2, 3, 4, 0] rfl)
        · have hw := hc_3f c_3
          clear hc_3t hc_3f
          refine lv_iconst (v := 1) hx hb dX0_errorsAt_30 (by decide) ?_
          refine lv_goto (tgt := 35) hx hb dX0_errorsAt_31 (by decide) ?_
          exact J_35 x1 x2 x3 (k_at 8 (cx_c_trials S) x3) 1 S _ _ _ hw hP hD hS (lv_sub hl [1, 2, 3, 4, 0] rfl)
  refine lv_iconst (v := 0) hx hb dX0_errorsAt_0 (by decide) ?_
  refine lv_istore_n (lv' := [(2, .int 0), (0, .ref (h 1)), (1, .int p1)]) hx hb dX0_errorsAt_1 rfl hl (by decide) rfl (fun ls hl => ?_)
  refine lv_iconst (v := 0) hx hb dX0_errorsAt_2 (by decide) ?_
  refine lv_istore_n (lv' := [(3, .int 0), (2, .int 0), (0, .ref (h 1)), (1, .int p1)]) hx hb dX0_errorsAt_3 rfl hl (by decide) rfl (fun ls hl => ?_)
  obtain ⟨n_4, hw⟩ := hw
  exact L_4 n_4 p1 0 0 S _ _ _ hw hP hD hS (lv_sub hl [2, 3, 1, 0] rfl)
def wC_X0_leastErrors_8 (post : Int32 → CS → Prop) : Nat → Int32 → Int32 → CS → Prop
  | 0, _, _, _ => False
  | n + 1, x1, x2, S => ((100 < x2 → post x1 S) ∧ (¬ (100 < x2) → wC_X0_errorsAt x2 S (fun r_2 S_3 => wC_X0_leastErrors_8 post n (if r_2 < x1 then r_2 else x1) (x2 + 1) S_3)))
def wC_X0_leastErrors (S : CS) (post : Int32 → CS → Prop) : Prop := wC_X0_errorsAt 0 S (fun r_1 S_2 => ∃ k_ : Nat, wC_X0_leastErrors_8 post k_ r_1 1 S_2)
set_option maxHeartbeats 4000000 in
set_option maxRecDepth 100000 in
theorem cC_X0_leastErrors (l : Launch) (D : va_G) (h : Nat → Nat) (cy : Nat → ClassId) (S : CS) (post : Int32 → CS → Prop) (hw : wC_X0_leastErrors S post) : e_Mi nxE l yX0_leastErrors wsX0_leastErrors { frames := 2, cells := 0, slots := 0, locals := 46 } D (tyC cy) (wC h cy) [.ref (h 1)] S post := by
  intro sz
  refine Met.ofW (cc := cX0_leastErrors) (maxL := 3) (ret := (some .int)) (by decide) rfl ?_
  intro p e s m args below meth c s₁ B hml hv
  obtain ⟨rfl, hsz, hP, hK, hD0, hs⟩ := hv
  have hx := B.exec
  have hb := B.bytes
  have hr := B.returns
  have hts := atoms_spec (ws := wsX0_leastErrors) B.pre
  have hown : s.vm.findClass RX0 = some m.cls := findClass_of_methodNamed B.named
  have hlocks := B.notSynchronized
  subst hsz
  have hD := hD0.self (sz := s.heap.size)
  generalize hAe : va_A (wC h cy S) s.heap.size = A at hD ⊢
  have hA : ∀ q : Nat, s.heap.size ≤ q → A q := fun q h => by rw [← hAe]; exact Or.inr h
  have hS : va_S A s.heap s.heap [] := va_S.rf
  have wm90 := hts (.methodLink RX0 90 Lib.Math.min.name) (List.mem_of_getElem? (i := 1) rfl)
  have wsmin := hts (.static Lib.Math.min.name) (List.mem_of_getElem? (i := 2) rfl)
  have wcdmin := hts (.code Lib.Math.min.name Lib.Math.min.code 2 (some .int)) (List.mem_of_getElem? (i := 4) rfl)
  have wiM := hts (.initialized "java/lang/Math") (List.mem_of_getElem? (i := 3) rfl)
  have hl := lv_entry ([.ref (h 1)]) (n := 3) (Nat.le_of_ble_eq_true rfl)
  rw [lg_entry_eq]
  generalize (lg_sl ([.ref (h 1)]) ++ List.replicate (3 - (lg_sl ([.ref (h 1)])).length) Slot.unset).toArray = ls at hl ⊢
  have hl : lv_has ls 3 [(0, .ref (h 1))] := hl
  unfold wC_X0_leastErrors at hw
  clear hD0
  have L_8 : ∀ (n8 : Nat) (x1 : Int32) (x2 : Int32) (S : CS) (H : Heap) (locs : List Loc) (ls : Array Slot), wC_X0_leastErrors_8 post n8 x1 x2 S → va_P D vwCl (wC h cy S) H → va_D A (wC h cy S) → va_S A s.heap H locs → lv_has ls 3 [(0, .ref (h 1)), (1, .int x1), (2, .int x2)] → W p l e (headSpec wsX0_leastErrors { frames := 2, cells := 0, slots := 0, locals := 46 }).room s m (([.ref (h 1)] : List Value).toArray) below meth c H locs 0 0 (MQ below (va_Qi post (k_Post D (tyC cy) (wC h cy) A) A) (([.ref (h 1)] : List Value).toArray) s 0 0 A) (F0 m 8 ls []) := by
    intro n8
    induction n8 with
    | zero => intro x1 x2 S H locs ls hw; exact False.elim hw
    | succ n8 ih_8 =>
      intro x1 x2 S H locs ls hw hP hD hS hl
      unfold wC_X0_leastErrors_8 at hw
      refine lv_iload_n hx hb dX0_leastErrors_8 rfl (lv_at hl 2 rfl) ?_
      refine lv_bipush (v := 100) hx hb dX0_leastErrors_9 (by decide) ?_
      obtain ⟨hc_1t, hc_1f⟩ := hw
      refine lv_icmp_gt (tgt := 30) hx hb dX0_leastErrors_11 (by decide) (fun c_1 => ?_) (fun c_1 => ?_)
      · have hw := hc_1t c_1
        clear hc_1t hc_1f
        refine lv_iload_n hx hb dX0_leastErrors_30 rfl (lv_at hl 1 rfl) ?_
        exact W.iret (v := x1) hx hb hr (fun t ht hW => ⟨⟨x1, S, rfl, hw, by rw [ht]; exact hP, va_K.moved hW.alike hK, hD⟩, hS.F ht⟩) hS.2.2 dX0_leastErrors_31
      · have hw := hc_1f c_1
        clear hc_1t hc_1f
        refine lv_iload_n hx hb dX0_leastErrors_14 rfl (lv_at hl 1 rfl) ?_
        refine lv_aload_n hx hb dX0_leastErrors_15 rfl (lv_at hl 0 rfl) ?_
        refine lv_iload_n hx hb dX0_leastErrors_16 rfl (lv_at hl 2 rfl) ?_
        refine e_callVi (As := [.int x2]) (rest := [.int x1]) nxE_stable hs ⟨hx, hb, hml, hown, hts⟩ (cC_X0_errorsAt l D h cy _ _ _ hw) (cwV 1 hts gX0_leastErrors_X0_errorsAt rfl rfl rfl (by decide +kernel) ⟨Nat.le_of_ble_eq_true rfl, Nat.le_of_ble_eq_true rfl⟩) (va_recv hK hP (ci := 0) (q0 := 1) rfl rfl) hK hP hD hS hA rfl hl.1 rfl (Nat.le_of_ble_eq_true rfl) dX0_leastErrors_17 ⟨Nat.zero_le _, Nat.zero_le _⟩ (fun r_2 S_3 H locs hw hP hD hS => ?_)
        refine va_mmin (own := RX0) (index := 90) hx hb (hml.trans hl.1.symm) hown wm90 wsmin wiM wcdmin (Nat.le_of_ble_eq_true rfl) (Nat.le_of_ble_eq_true rfl) (Nat.zero_le _) (Nat.zero_le _) dX0_leastErrors_20 ?_
        refine lv_istore_n (lv' := [(1, .int (if r_2 < x1 then r_2 else x1)), (0, .ref (h 1)), (2, .int x2)]) hx hb dX0_leastErrors_23 rfl hl (by decide) rfl (fun ls hl => ?_)
        refine lv_iinc (v := x2 + 1) (lv' := [(2, .int (x2 + 1)), (1, .int (if r_2 < x1 then r_2 else x1)), (0, .ref (h 1))]) hx hb dX0_leastErrors_24 hl (k := 2) rfl (k_inc (by decide)) (by decide) rfl (fun ls hl => ?_)
        refine lv_goto (tgt := 8) hx hb dX0_leastErrors_27 (by decide) ?_
        exact ih_8 (if r_2 < x1 then r_2 else x1) (x2 + 1) S_3 _ _ _ hw hP hD hS (lv_sub hl [2, 1, 0] rfl)
  refine lv_aload_n hx hb dX0_leastErrors_0 rfl (lv_at hl 0 rfl) ?_
  refine lv_iconst (v := 0) hx hb dX0_leastErrors_1 (by decide) ?_
  refine e_callVi (As := [.int 0]) (rest := []) nxE_stable hs ⟨hx, hb, hml, hown, hts⟩ (cC_X0_errorsAt l D h cy _ _ _ hw) (cwV 1 hts gX0_leastErrors_X0_errorsAt rfl rfl rfl (by decide +kernel) ⟨Nat.le_of_ble_eq_true rfl, Nat.le_of_ble_eq_true rfl⟩) (va_recv hK hP (ci := 0) (q0 := 1) rfl rfl) hK hP hD hS hA rfl hl.1 rfl (Nat.le_of_ble_eq_true rfl) dX0_leastErrors_2 ⟨Nat.zero_le _, Nat.zero_le _⟩ (fun r_4 S_5 H locs hw hP hD hS => ?_)
  refine lv_istore_n (lv' := [(1, .int r_4), (0, .ref (h 1))]) hx hb dX0_leastErrors_5 rfl hl (by decide) rfl (fun ls hl => ?_)
  refine lv_iconst (v := 1) hx hb dX0_leastErrors_6 (by decide) ?_
  refine lv_istore_n (lv' := [(2, .int 1), (1, .int r_4), (0, .ref (h 1))]) hx hb dX0_leastErrors_7 rfl hl (by decide) rfl (fun ls hl => ?_)
  obtain ⟨n_8, hw⟩ := hw
  exact L_8 n_8 r_4 1 S_5 _ _ _ hw hP hD hS (lv_sub hl [2, 1, 0] rfl)
def wC_X0_leastBorne_10 (post : Int32 → CS → Prop) : Nat → Int32 → Int32 → Int32 → CS → Prop
  | 0, _, _, _, _ => False
  | n + 1, x1, x2, x3, S => ((x3 < 0 → post x2 S) ∧ (¬ (x3 < 0) → wC_X0_errorsAt x3 S (fun r_2 S_3 => ((r_2 = x1 → wC_X0_leastBorne_10 post n x1 x3 (x3 + (-1)) S_3) ∧ (¬ (r_2 = x1) → wC_X0_leastBorne_10 post n x1 x2 (x3 + (-1)) S_3)))))
def wC_X0_leastBorne (S : CS) (post : Int32 → CS → Prop) : Prop := wC_X0_leastErrors S (fun r_1 S_2 => ∃ k_ : Nat, wC_X0_leastBorne_10 post k_ r_1 0 100 S_2)
set_option maxHeartbeats 4000000 in
set_option maxRecDepth 100000 in
theorem cC_X0_leastBorne (l : Launch) (D : va_G) (h : Nat → Nat) (cy : Nat → ClassId) (S : CS) (post : Int32 → CS → Prop) (hw : wC_X0_leastBorne S post) : e_Mi nxE l yX0_leastBorne wsX0_leastBorne { frames := 3, cells := 0, slots := 0, locals := 68 } D (tyC cy) (wC h cy) [.ref (h 1)] S post := by
  intro sz
  refine Met.ofW (cc := cX0_leastBorne) (maxL := 4) (ret := (some .int)) (by decide) rfl ?_
  intro p e s m args below meth c s₁ B hml hv
  obtain ⟨rfl, hsz, hP, hK, hD0, hs⟩ := hv
  have hx := B.exec
  have hb := B.bytes
  have hr := B.returns
  have hts := atoms_spec (ws := wsX0_leastBorne) B.pre
  have hown : s.vm.findClass RX0 = some m.cls := findClass_of_methodNamed B.named
  have hlocks := B.notSynchronized
  subst hsz
  have hD := hD0.self (sz := s.heap.size)
  generalize hAe : va_A (wC h cy S) s.heap.size = A at hD ⊢
  have hA : ∀ q : Nat, s.heap.size ≤ q → A q := fun q h => by rw [← hAe]; exact Or.inr h
  have hS : va_S A s.heap s.heap [] := va_S.rf
  have hl := lv_entry ([.ref (h 1)]) (n := 4) (Nat.le_of_ble_eq_true rfl)
  rw [lg_entry_eq]
  generalize (lg_sl ([.ref (h 1)]) ++ List.replicate (4 - (lg_sl ([.ref (h 1)])).length) Slot.unset).toArray = ls at hl ⊢
  have hl : lv_has ls 4 [(0, .ref (h 1))] := hl
  unfold wC_X0_leastBorne at hw
  clear hD0
  have L_10 : ∀ (n10 : Nat) (x1 : Int32) (x2 : Int32) (x3 : Int32) (S : CS) (H : Heap) (locs : List Loc) (ls : Array Slot), wC_X0_leastBorne_10 post n10 x1 x2 x3 S → va_P D vwCl (wC h cy S) H → va_D A (wC h cy S) → va_S A s.heap H locs → lv_has ls 4 [(0, .ref (h 1)), (1, .int x1), (2, .int x2), (3, .int x3)] → W p l e (headSpec wsX0_leastBorne { frames := 3, cells := 0, slots := 0, locals := 68 }).room s m (([.ref (h 1)] : List Value).toArray) below meth c H locs 0 0 (MQ below (va_Qi post (k_Post D (tyC cy) (wC h cy) A) A) (([.ref (h 1)] : List Value).toArray) s 0 0 A) (F0 m 10 ls []) := by
    intro n10
    induction n10 with
    | zero => intro x1 x2 x3 S H locs ls hw; exact False.elim hw
    | succ n10 ih_10 =>
      intro x1 x2 x3 S H locs ls hw hP hD hS hl
      unfold wC_X0_leastBorne_10 at hw
      refine lv_iload_n hx hb dX0_leastBorne_10 rfl (lv_at hl 3 rfl) ?_
      obtain ⟨hc_1t, hc_1f⟩ := hw
      refine lv_if_lt (tgt := 35) hx hb dX0_leastBorne_11 (by decide) (fun c_1 => ?_) (fun c_1 => ?_)
      · have hw := hc_1t c_1
        clear hc_1t hc_1f
        refine lv_iload_n hx hb dX0_leastBorne_35 rfl (lv_at hl 2 rfl) ?_
        exact W.iret (v := x2) hx hb hr (fun t ht hW => ⟨⟨x2, S, rfl, hw, by rw [ht]; exact hP, va_K.moved hW.alike hK, hD⟩, hS.F ht⟩) hS.2.2 dX0_leastBorne_36
      · have hw := hc_1f c_1
        clear hc_1t hc_1f
        refine lv_aload_n hx hb dX0_leastBorne_14 rfl (lv_at hl 0 rfl) ?_
        refine lv_iload_n hx hb dX0_leastBorne_15 rfl (lv_at hl 3 rfl) ?_
        refine e_callVi (As := [.int x3]) (rest := []) nxE_stable hs ⟨hx, hb, hml, hown, hts⟩ (cC_X0_errorsAt l D h cy _ _ _ hw) (cwV 1 hts gX0_leastBorne_X0_errorsAt rfl rfl rfl (by decide +kernel) ⟨Nat.le_of_ble_eq_true rfl, Nat.le_of_ble_eq_true rfl⟩) (va_recv hK hP (ci := 0) (q0 := 1) rfl rfl) hK hP hD hS hA rfl hl.1 rfl (Nat.le_of_ble_eq_true rfl) dX0_leastBorne_16 ⟨Nat.zero_le _, Nat.zero_le _⟩ (fun r_2 S_3 H locs hw hP hD hS => ?_)
        refine lv_iload_n hx hb dX0_leastBorne_19 rfl (lv_at hl 1 rfl) ?_
        obtain ⟨hc_4t, hc_4f⟩ := hw
        refine lv_icmp_ne (tgt := 27) hx hb dX0_leastBorne_20 (by decide) (fun c_4 => ?_) (fun c_4 => ?_)
        · have hw := hc_4f c_4
          clear hc_4t hc_4f
          refine lv_iload_n hx hb dX0_leastBorne_27 rfl (lv_at hl 2 rfl) ?_
          refine lv_istore_n (lv' := [(2, .int x2), (0, .ref (h 1)), (1, .int x1), (3, .int x3)]) hx hb dX0_leastBorne_28 rfl hl (by decide) rfl (fun ls hl => ?_)
          refine lv_iinc (v := x3 + (-1)) (lv' := [(3, .int (x3 + (-1))), (2, .int x2), (0, .ref (h 1)), (1, .int x1)]) hx hb dX0_leastBorne_29 hl (k := 3) rfl (k_inc (by decide)) (by decide) rfl (fun ls hl => ?_)
          refine lv_goto (tgt := 10) hx hb dX0_leastBorne_32 (by decide) ?_
          exact ih_10 x1 x2 (x3 + (-1)) S_3 _ _ _ hw hP hD hS (lv_sub hl [2, 3, 1, 0] rfl)
        · have hw := hc_4t c_4
          clear hc_4t hc_4f
          refine lv_iload_n hx hb dX0_leastBorne_23 rfl (lv_at hl 3 rfl) ?_
          refine lv_goto (tgt := 28) hx hb dX0_leastBorne_24 (by decide) ?_
          refine lv_istore_n (lv' := [(2, .int x3), (0, .ref (h 1)), (1, .int x1), (3, .int x3)]) hx hb dX0_leastBorne_28 rfl hl (by decide) rfl (fun ls hl => ?_)
          refine lv_iinc (v := x3 + (-1)) (lv' := [(3, .int (x3 + (-1))), (2, .int x3), (0, .ref (h 1)), (1, .int x1)]) hx hb dX0_leastBorne_29 hl (k := 3) rfl (k_inc (by decide)) (by decide) rfl (fun ls hl => ?_)
          refine lv_goto (tgt := 10) hx hb dX0_leastBorne_32 (by decide) ?_
          exact ih_10 x1 x3 (x3 + (-1)) S_3 _ _ _ hw hP hD hS (lv_sub hl [2, 3, 1, 0] rfl)
  refine lv_aload_n hx hb dX0_leastBorne_0 rfl (lv_at hl 0 rfl) ?_
  refine e_callVi (As := []) (rest := []) nxE_stable hs ⟨hx, hb, hml, hown, hts⟩ (cC_X0_leastErrors l D h cy _ _ hw) (cwV 0 hts gX0_leastBorne_X0_leastErrors rfl rfl rfl (by decide +kernel) ⟨Nat.le_of_ble_eq_true rfl, Nat.le_of_ble_eq_true rfl⟩) (va_recv hK hP (ci := 0) (q0 := 1) rfl rfl) hK hP hD hS hA rfl hl.1 rfl (Nat.le_of_ble_eq_true rfl) dX0_leastBorne_1 ⟨Nat.zero_le _, Nat.zero_le _⟩ (fun r_5 S_6 H locs hw hP hD hS => ?_)
  refine lv_istore_n (lv' := [(1, .int r_5), (0, .ref (h 1))]) hx hb dX0_leastBorne_4 rfl hl (by decide) rfl (fun ls hl => ?_)
  refine lv_iconst (v := 0) hx hb dX0_leastBorne_5 (by decide) ?_
  refine lv_istore_n (lv' := [(2, .int 0), (1, .int r_5), (0, .ref (h 1))]) hx hb dX0_leastBorne_6 rfl hl (by decide) rfl (fun ls hl => ?_)
  refine lv_bipush (v := 100) hx hb dX0_leastBorne_7 (by decide) ?_
  refine lv_istore_n (lv' := [(3, .int 100), (2, .int 0), (1, .int r_5), (0, .ref (h 1))]) hx hb dX0_leastBorne_9 rfl hl (by decide) rfl (fun ls hl => ?_)
  obtain ⟨n_10, hw⟩ := hw
  exact L_10 n_10 r_5 0 100 S_6 _ _ _ hw hP hD hS (lv_sub hl [3, 2, 1, 0] rfl)
def wC_X0_greatestBorne_9 (post : Int32 → CS → Prop) : Nat → Int32 → Int32 → Int32 → CS → Prop
  | 0, _, _, _, _ => False
  | n + 1, x1, x2, x3, S => ((100 < x3 → post x2 S) ∧ (¬ (100 < x3) → wC_X0_errorsAt x3 S (fun r_2 S_3 => ((r_2 = x1 → wC_X0_greatestBorne_9 post n x1 x3 (x3 + 1) S_3) ∧ (¬ (r_2 = x1) → wC_X0_greatestBorne_9 post n x1 x2 (x3 + 1) S_3)))))
def wC_X0_greatestBorne (S : CS) (post : Int32 → CS → Prop) : Prop := wC_X0_leastErrors S (fun r_1 S_2 => ∃ k_ : Nat, wC_X0_greatestBorne_9 post k_ r_1 0 0 S_2)
set_option maxHeartbeats 4000000 in
set_option maxRecDepth 100000 in
theorem cC_X0_greatestBorne (l : Launch) (D : va_G) (h : Nat → Nat) (cy : Nat → ClassId) (S : CS) (post : Int32 → CS → Prop) (hw : wC_X0_greatestBorne S post) : e_Mi nxE l yX0_greatestBorne wsX0_greatestBorne { frames := 3, cells := 0, slots := 0, locals := 68 } D (tyC cy) (wC h cy) [.ref (h 1)] S post := by
  intro sz
  refine Met.ofW (cc := cX0_greatestBorne) (maxL := 4) (ret := (some .int)) (by decide) rfl ?_
  intro p e s m args below meth c s₁ B hml hv
  obtain ⟨rfl, hsz, hP, hK, hD0, hs⟩ := hv
  have hx := B.exec
  have hb := B.bytes
  have hr := B.returns
  have hts := atoms_spec (ws := wsX0_greatestBorne) B.pre
  have hown : s.vm.findClass RX0 = some m.cls := findClass_of_methodNamed B.named
  have hlocks := B.notSynchronized
  subst hsz
  have hD := hD0.self (sz := s.heap.size)
  generalize hAe : va_A (wC h cy S) s.heap.size = A at hD ⊢
  have hA : ∀ q : Nat, s.heap.size ≤ q → A q := fun q h => by rw [← hAe]; exact Or.inr h
  have hS : va_S A s.heap s.heap [] := va_S.rf
  have hl := lv_entry ([.ref (h 1)]) (n := 4) (Nat.le_of_ble_eq_true rfl)
  rw [lg_entry_eq]
  generalize (lg_sl ([.ref (h 1)]) ++ List.replicate (4 - (lg_sl ([.ref (h 1)])).length) Slot.unset).toArray = ls at hl ⊢
  have hl : lv_has ls 4 [(0, .ref (h 1))] := hl
  unfold wC_X0_greatestBorne at hw
  clear hD0
  have L_9 : ∀ (n9 : Nat) (x1 : Int32) (x2 : Int32) (x3 : Int32) (S : CS) (H : Heap) (locs : List Loc) (ls : Array Slot), wC_X0_greatestBorne_9 post n9 x1 x2 x3 S → va_P D vwCl (wC h cy S) H → va_D A (wC h cy S) → va_S A s.heap H locs → lv_has ls 4 [(0, .ref (h 1)), (1, .int x1), (2, .int x2), (3, .int x3)] → W p l e (headSpec wsX0_greatestBorne { frames := 3, cells := 0, slots := 0, locals := 68 }).room s m (([.ref (h 1)] : List Value).toArray) below meth c H locs 0 0 (MQ below (va_Qi post (k_Post D (tyC cy) (wC h cy) A) A) (([.ref (h 1)] : List Value).toArray) s 0 0 A) (F0 m 9 ls []) := by
    intro n9
    induction n9 with
    | zero => intro x1 x2 x3 S H locs ls hw; exact False.elim hw
    | succ n9 ih_9 =>
      intro x1 x2 x3 S H locs ls hw hP hD hS hl
      unfold wC_X0_greatestBorne_9 at hw
      refine lv_iload_n hx hb dX0_greatestBorne_9 rfl (lv_at hl 3 rfl) ?_
      refine lv_bipush (v := 100) hx hb dX0_greatestBorne_10 (by decide) ?_
      obtain ⟨hc_1t, hc_1f⟩ := hw
      refine lv_icmp_gt (tgt := 36) hx hb dX0_greatestBorne_12 (by decide) (fun c_1 => ?_) (fun c_1 => ?_)
      · have hw := hc_1t c_1
        clear hc_1t hc_1f
        refine lv_iload_n hx hb dX0_greatestBorne_36 rfl (lv_at hl 2 rfl) ?_
        exact W.iret (v := x2) hx hb hr (fun t ht hW => ⟨⟨x2, S, rfl, hw, by rw [ht]; exact hP, va_K.moved hW.alike hK, hD⟩, hS.F ht⟩) hS.2.2 dX0_greatestBorne_37
      · have hw := hc_1f c_1
        clear hc_1t hc_1f
        refine lv_aload_n hx hb dX0_greatestBorne_15 rfl (lv_at hl 0 rfl) ?_
        refine lv_iload_n hx hb dX0_greatestBorne_16 rfl (lv_at hl 3 rfl) ?_
        refine e_callVi (As := [.int x3]) (rest := []) nxE_stable hs ⟨hx, hb, hml, hown, hts⟩ (cC_X0_errorsAt l D h cy _ _ _ hw) (cwV 1 hts gX0_greatestBorne_X0_errorsAt rfl rfl rfl (by decide +kernel) ⟨Nat.le_of_ble_eq_true rfl, Nat.le_of_ble_eq_true rfl⟩) (va_recv hK hP (ci := 0) (q0 := 1) rfl rfl) hK hP hD hS hA rfl hl.1 rfl (Nat.le_of_ble_eq_true rfl) dX0_greatestBorne_17 ⟨Nat.zero_le _, Nat.zero_le _⟩ (fun r_2 S_3 H locs hw hP hD hS => ?_)
        refine lv_iload_n hx hb dX0_greatestBorne_20 rfl (lv_at hl 1 rfl) ?_
        obtain ⟨hc_4t, hc_4f⟩ := hw
        refine lv_icmp_ne (tgt := 28) hx hb dX0_greatestBorne_21 (by decide) (fun c_4 => ?_) (fun c_4 => ?_)
        · have hw := hc_4f c_4
          clear hc_4t hc_4f
          refine lv_iload_n hx hb dX0_greatestBorne_28 rfl (lv_at hl 2 rfl) ?_
          refine lv_istore_n (lv' := [(2, .int x2), (0, .ref (h 1)), (1, .int x1), (3, .int x3)]) hx hb dX0_greatestBorne_29 rfl hl (by decide) rfl (fun ls hl => ?_)
          refine lv_iinc (v := x3 + 1) (lv' := [(3, .int (x3 + 1)), (2, .int x2), (0, .ref (h 1)), (1, .int x1)]) hx hb dX0_greatestBorne_30 hl (k := 3) rfl (k_inc (by decide)) (by decide) rfl (fun ls hl => ?_)
          refine lv_goto (tgt := 9) hx hb dX0_greatestBorne_33 (by decide) ?_
          exact ih_9 x1 x2 (x3 + 1) S_3 _ _ _ hw hP hD hS (lv_sub hl [2, 3, 1, 0] rfl)
        · have hw := hc_4t c_4
          clear hc_4t hc_4f
          refine lv_iload_n hx hb dX0_greatestBorne_24 rfl (lv_at hl 3 rfl) ?_
          refine lv_goto (tgt := 29) hx hb dX0_greatestBorne_25 (by decide) ?_
          refine lv_istore_n (lv' := [(2, .int x3), (0, .ref (h 1)), (1, .int x1), (3, .int x3)]) hx hb dX0_greatestBorne_29 rfl hl (by decide) rfl (fun ls hl => ?_)
          refine lv_iinc (v := x3 + 1) (lv' := [(3, .int (x3 + 1)), (2, .int x3), (0, .ref (h 1)), (1, .int x1)]) hx hb dX0_greatestBorne_30 hl (k := 3) rfl (k_inc (by decide)) (by decide) rfl (fun ls hl => ?_)
          refine lv_goto (tgt := 9) hx hb dX0_greatestBorne_33 (by decide) ?_
          exact ih_9 x1 x3 (x3 + 1) S_3 _ _ _ hw hP hD hS (lv_sub hl [2, 3, 1, 0] rfl)
  refine lv_aload_n hx hb dX0_greatestBorne_0 rfl (lv_at hl 0 rfl) ?_
  refine e_callVi (As := []) (rest := []) nxE_stable hs ⟨hx, hb, hml, hown, hts⟩ (cC_X0_leastErrors l D h cy _ _ hw) (cwV 0 hts gX0_greatestBorne_X0_leastErrors rfl rfl rfl (by decide +kernel) ⟨Nat.le_of_ble_eq_true rfl, Nat.le_of_ble_eq_true rfl⟩) (va_recv hK hP (ci := 0) (q0 := 1) rfl rfl) hK hP hD hS hA rfl hl.1 rfl (Nat.le_of_ble_eq_true rfl) dX0_greatestBorne_1 ⟨Nat.zero_le _, Nat.zero_le _⟩ (fun r_5 S_6 H locs hw hP hD hS => ?_)
  refine lv_istore_n (lv' := [(1, .int r_5), (0, .ref (h 1))]) hx hb dX0_greatestBorne_4 rfl hl (by decide) rfl (fun ls hl => ?_)
  refine lv_iconst (v := 0) hx hb dX0_greatestBorne_5 (by decide) ?_
  refine lv_istore_n (lv' := [(2, .int 0), (1, .int r_5), (0, .ref (h 1))]) hx hb dX0_greatestBorne_6 rfl hl (by decide) rfl (fun ls hl => ?_)
  refine lv_iconst (v := 0) hx hb dX0_greatestBorne_7 (by decide) ?_
  refine lv_istore_n (lv' := [(3, .int 0), (2, .int 0), (1, .int r_5), (0, .ref (h 1))]) hx hb dX0_greatestBorne_8 rfl hl (by decide) rfl (fun ls hl => ?_)
  obtain ⟨n_9, hw⟩ := hw
  exact L_9 n_9 r_5 0 0 S_6 _ _ _ hw hP hD hS (lv_sub hl [3, 2, 1, 0] rfl)
