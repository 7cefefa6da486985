def wC_X11_undo (S : CS) (post : Int32 → CS → Prop) : Prop := (((cx_cs_count S) = 0 → post (-1) S) ∧ (¬ ((cx_cs_count S) = 0) → wC_X8_takeBack_city_now S (fun S_3 => post (cx_cs_count S_3) S_3)))
set_option maxHeartbeats 4000000 in
set_option maxRecDepth 100000 in
theorem cC_X11_undo (l : Launch) (D : va_G) (h : Nat → Nat) (cy : Nat → ClassId) (S : CS) (post : Int32 → CS → Prop) (hw : wC_X11_undo S post) : e_Mi clE l yX11_undo wsX11_undo { frames := 4, cells := 0, slots := 0, locals := 132 } D (tyC cy) (wC h cy) [.ref (h 0)] S post := by
  intro sz
  refine Met.ofW (cc := cX11_undo) (maxL := 1) (ret := (some .int)) (by decide) rfl ?_
  intro p e s m args below meth c s₁ B hml hv
  obtain ⟨rfl, hsz, hP, hK, hD0, hs⟩ := hv
  have hx := B.exec
  have hb := B.bytes
  have hr := B.returns
  have hts := atoms_spec (ws := wsX11_undo) B.pre
  have hown : s.vm.findClass RX11 = some m.cls := findClass_of_methodNamed B.named
  have hlocks := B.notSynchronized
  subst hsz
  have hD := hD0.self (sz := s.heap.size)
  generalize hAe : va_A (wC h cy S) s.heap.size = A at hD hs ⊢
  have hA : ∀ q : Nat, s.heap.size ≤ q → A q := fun q h => by rw [← hAe]; exact Or.inr h
  have hS : va_S A s.heap s.heap [] := va_S.rf
  have hin11 : ∀ w ∈ wsX110, w ∈ wsX11_undo := fun _ h => List.mem_cons_of_mem _ (List.mem_append_left _ (List.mem_append_left _ (List.mem_append_right _ h)))
  have hin0 : ∀ w ∈ wsX00, w ∈ wsX11_undo := fun _ h => List.mem_cons_of_mem _ (List.mem_append_left _ (List.mem_append_right _ h))
  have hin8 : ∀ w ∈ wsX80, w ∈ wsX11_undo := fun _ h => List.mem_cons_of_mem _ (List.mem_append_right _ h)
  have w10 := hts (.fieldLink RX11 10 "ClownsMourn" "city" "LClownsMourn$City;") (List.mem_of_getElem? (i := 1) rfl)
  have w134 := hts (.fieldLink RX11 134 "ClownsMourn$City" "steps" "LClownsMourn$Steps;") (List.mem_of_getElem? (i := 2) rfl)
  have w138 := hts (.fieldLink RX11 138 "ClownsMourn$City" "now" "[I") (List.mem_of_getElem? (i := 4) rfl)
  have w191 := hts (.fieldLink RX11 191 "ClownsMourn$Steps" "count" "I") (List.mem_of_getElem? (i := 3) rfl)
  have hl := lv_entry ([.ref (h 0)]) (n := 1) (Nat.le_of_ble_eq_true rfl)
  rw [lg_entry_eq]
  generalize (lg_sl ([.ref (h 0)]) ++ List.replicate (1 - (lg_sl ([.ref (h 0)])).length) Slot.unset).toArray = ls at hl ⊢
  have hl : lv_has ls 1 [(0, .ref (h 0))] := hl
  unfold wC_X11_undo at hw
  clear hD0
  refine lv_aload_n hx hb dX11_undo_0 rfl (lv_at hl 0 rfl) ?_
  refine va_get (D := D) (ci := 10) (v := .ref (h 1)) (C := RX11) (T := TX11) (N := 9) hx hb hts hin11 hown hK hP 0 rfl rfl 0 (by decide) w10 (fun _ h9 => h9) rfl dX11_undo_1 ?_
  refine va_get (D := D) (ci := 0) (v := .ref (h 2)) (C := RX0) (T := TX0) (N := 16) hx hb hts hin0 hown hK hP 1 rfl rfl 1 (by decide) w134 (fun _ h9 => h9) rfl dX11_undo_4 ?_
  refine va_get (D := D) (ci := 8) (v := .int (cx_cs_count S)) (C := RX8) (T := TX8) (N := 3) hx hb hts hin8 hown hK hP 2 rfl rfl 2 (by decide) w191 (fun _ h9 => h9) rfl dX11_undo_7 ?_
  obtain ⟨hc_1t, hc_1f⟩ := hw
  refine lv_if_ne (tgt := 15) hx hb dX11_undo_10 (by decide) (fun c_1 => ?_) (fun c_1 => ?_)
  · have hw := hc_1f c_1
    clear hc_1t hc_1f
    refine lv_aload_n hx hb dX11_undo_15 rfl (lv_at hl 0 rfl) ?_
    refine va_get (D := D) (ci := 10) (v := .ref (h 1)) (C := RX11) (T := TX11) (N := 9) hx hb hts hin11 hown hK hP 0 rfl rfl 0 (by decide) w10 (fun _ h9 => h9) rfl dX11_undo_16 ?_
    refine va_get (D := D) (ci := 0) (v := .ref (h 2)) (C := RX0) (T := TX0) (N := 16) hx hb hts hin0 hown hK hP 1 rfl rfl 1 (by decide) w134 (fun _ h9 => h9) rfl dX11_undo_19 ?_
    refine lv_aload_n hx hb dX11_undo_22 rfl (lv_at hl 0 rfl) ?_
    refine va_get (D := D) (ci := 10) (v := .ref (h 1)) (C := RX11) (T := TX11) (N := 9) hx hb hts hin11 hown hK hP 0 rfl rfl 0 (by decide) w10 (fun _ h9 => h9) rfl dX11_undo_23 ?_
    refine va_get (D := D) (ci := 0) (v := .ref (h 12)) (C := RX0) (T := TX0) (N := 16) hx hb hts hin0 hown hK hP 1 rfl rfl 0 (by decide) w138 (fun _ h9 => h9) rfl dX11_undo_26 ?_
    refine e_callVv (As := [.ref (h 12)]) (rest := []) clE_stable hs ⟨hx, hb, hml, hown, hts⟩ (cC_X8_takeBack_city_now l D h cy _ _ hw) (cwV 1 hts gX11_undo_X8_takeBack rfl rfl rfl (by decide +kernel) ⟨Nat.le_of_ble_eq_true rfl, Nat.le_of_ble_eq_true rfl⟩) (va_recv hK hP (ci := 8) (q0 := 2) rfl rfl) hK hP hD hS hA rfl hl.1 rfl (Nat.le_of_ble_eq_true rfl) dX11_undo_29 ⟨Nat.zero_le _, Nat.zero_le _⟩ (fun S_3 H locs hw hP hD hS => ?_)
    refine lv_aload_n hx hb dX11_undo_32 rfl (lv_at hl 0 rfl) ?_
    refine va_get (D := D) (ci := 10) (v := .ref (h 1)) (C := RX11) (T := TX11) (N := 9) hx hb hts hin11 hown hK hP 0 rfl rfl 0 (by decide) w10 (fun _ h9 => h9) rfl dX11_undo_33 ?_
    refine va_get (D := D) (ci := 0) (v := .ref (h 2)) (C := RX0) (T := TX0) (N := 16) hx hb hts hin0 hown hK hP 1 rfl rfl 1 (by decide) w134 (fun _ h9 => h9) rfl dX11_undo_36 ?_
    refine va_get (D := D) (ci := 8) (v := .int (cx_cs_count S_3)) (C := RX8) (T := TX8) (N := 3) hx hb hts hin8 hown hK hP 2 rfl rfl 2 (by decide) w191 (fun _ h9 => h9) rfl dX11_undo_39 ?_
    exact W.iret (v := (cx_cs_count S_3)) hx hb hr (fun t ht hW => ⟨⟨(cx_cs_count S_3), S_3, rfl, hw, by rw [ht]; exact hP, va_K.moved hW.alike hK, hD⟩, hS.F ht⟩) hS.2.2 dX11_undo_42
  · have hw := hc_1t c_1
    clear hc_1t hc_1f
    refine lv_iconst (v := (-1)) hx hb dX11_undo_13 (by decide) ?_
    exact W.iret (v := (-1)) hx hb hr (fun t ht hW => ⟨⟨(-1), S, rfl, hw, by rw [ht]; exact hP, va_K.moved hW.alike hK, hD⟩, hS.F ht⟩) hS.2.2 dX11_undo_14
def wC_X11_of (p1 : Int32) (p2 : Int32) (S : CS) (post : Int32 → CS → Prop) : Prop := wC_X0_hasHouse p1 S (fun r_1 S_2 => ((r_1 = 0 → post (-2) S_2) ∧ (¬ (r_1 = 0) → ((p2 = 0 → post (k_at 6 (cx_c_kinds S_2) p1) S_2) ∧ (p2 = 1 → wC_X0_see 0 p1 S_2 (fun r_5 S_6 => post r_5 S_6)) ∧ (p2 = 2 → wC_X0_see 6 p1 S_2 (fun r_8 S_9 => post r_8 S_9)) ∧ (p2 = 3 → wC_X0_see 12 p1 S_2 (fun r_11 S_12 => post r_11 S_12)) ∧ (p2 = 4 → wC_X0_see 18 p1 S_2 (fun r_14 S_15 => post r_14 S_15)) ∧ (p2 = 5 → wC_X0_textAt (cx_c_ruling S_2) S_2 (fun r_17 S_18 => wC_X3_growing r_17 p1 S_18 (fun r_19 S_20 => post r_19 S_20))) ∧ (p2 = 6 → wC_X0_clownsAt p1 S_2 (fun r_22 S_23 => post r_22 S_23)) ∧ (¬ p2 = 0 → ¬ p2 = 1 → ¬ p2 = 2 → ¬ p2 = 3 → ¬ p2 = 4 → ¬ p2 = 5 → ¬ p2 = 6 → post (-2) S_2)))))
set_option maxHeartbeats 4000000 in
set_option maxRecDepth 100000 in
theorem cC_X11_of (l : Launch) (D : va_G) (h : Nat → Nat) (cy : Nat → ClassId) (p1 : Int32) (p2 : Int32) (S : CS) (post : Int32 → CS → Prop) (hw : wC_X11_of p1 p2 S post) : e_Mi clE l yX11_of wsX11_of { frames := 4, cells := 0, slots := 0, locals := 99 } D (tyC cy) (wC h cy) [.ref (h 0), .int p1, .int p2] S post := by
  intro sz
  refine Met.ofW (cc := cX11_of) (maxL := 3) (ret := (some .int)) (by decide) rfl ?_
  intro p e s m args below meth c s₁ B hml hv
  obtain ⟨rfl, hsz, hP, hK, hD0, hs⟩ := hv
  have hx := B.exec
  have hb := B.bytes
  have hr := B.returns
  have hts := atoms_spec (ws := wsX11_of) B.pre
  have hown : s.vm.findClass RX11 = some m.cls := findClass_of_methodNamed B.named
  have hlocks := B.notSynchronized
  subst hsz
  have hD := hD0.self (sz := s.heap.size)
  generalize hAe : va_A (wC h cy S) s.heap.size = A at hD hs ⊢
  have hA : ∀ q : Nat, s.heap.size ≤ q → A q := fun q h => by rw [← hAe]; exact Or.inr h
  have hS : va_S A s.heap s.heap [] := va_S.rf
  have hin11 : ∀ w ∈ wsX110, w ∈ wsX11_of := fun _ h => List.mem_cons_of_mem _ (List.mem_append_left _ (List.mem_append_left _ (List.mem_append_left _ (List.mem_append_right _ h))))
  have hin0 : ∀ w ∈ wsX00, w ∈ wsX11_of := fun _ h => List.mem_cons_of_mem _ (List.mem_append_left _ (List.mem_append_left _ (List.mem_append_right _ h)))
  have hin3 : ∀ w ∈ wsX30, w ∈ wsX11_of := fun _ h => List.mem_cons_of_mem _ (List.mem_append_left _ (List.mem_append_right _ h))
  have hin9 : ∀ w ∈ wsX90, w ∈ wsX11_of := fun _ h => List.mem_cons_of_mem _ (List.mem_append_right _ h)
  have w10 := hts (.fieldLink RX11 10 "ClownsMourn" "city" "LClownsMourn$City;") (List.mem_of_getElem? (i := 1) rfl)
  have w127 := hts (.fieldLink RX11 127 "ClownsMourn$City" "ruling" "I") (List.mem_of_getElem? (i := 4) rfl)
  have w200 := hts (.fieldLink RX11 200 "ClownsMourn$City" "kinds" "[I") (List.mem_of_getElem? (i := 2) rfl)
  have w31 := hts (.fieldLink RX11 31 "ClownsMourn" "laws" "LClownsMourn$Laws;") (List.mem_of_getElem? (i := 3) rfl)
  have hl := lv_entry ([.ref (h 0), .int p1, .int p2]) (n := 3) (Nat.le_of_ble_eq_true rfl)
  rw [lg_entry_eq]
  generalize (lg_sl ([.ref (h 0), .int p1, .int p2]) ++ List.replicate (3 - (lg_sl ([.ref (h 0), .int p1, .int p2])).length) Slot.unset).toArray = ls at hl ⊢
  have hl : lv_has ls 3 [(0, .ref (h 0)), (1, .int p1), (2, .int p2)] := hl
  unfold wC_X11_of at hw
  clear hD0
  refine lv_aload_n hx hb dX11_of_0 rfl (lv_at hl 0 rfl) ?_
  refine va_get (D := D) (ci := 10) (v := .ref (h 1)) (C := RX11) (T := TX11) (N := 9) hx hb hts hin11 hown hK hP 0 rfl rfl 0 (by decide) w10 (fun _ h9 => h9) rfl dX11_of_1 ?_
  refine lv_iload_n hx hb dX11_of_4 rfl (lv_at hl 1 rfl) ?_
  refine e_callVi (As := [.int p1]) (rest := []) clE_stable hs ⟨hx, hb, hml, hown, hts⟩ (cC_X0_hasHouse l D h cy _ _ _ hw) (cwV 1 hts gX11_of_X0_hasHouse rfl rfl rfl (by decide +kernel) ⟨Nat.le_of_ble_eq_true rfl, Nat.le_of_ble_eq_true rfl⟩) (va_recv hK hP (ci := 0) (q0 := 1) rfl rfl) hK hP hD hS hA rfl hl.1 rfl (Nat.le_of_ble_eq_true rfl) dX11_of_5 ⟨Nat.zero_le _, Nat.zero_le _⟩ (fun r_1 S_2 H locs hw hP hD hS => ?_)
  obtain ⟨hc_3t, hc_3f⟩ := hw
  refine lv_if_ne (tgt := 14) hx hb dX11_of_8 (by decide) (fun c_3 => ?_) (fun c_3 => ?_)
  · have hw := hc_3f c_3
    clear hc_3t hc_3f
    refine lv_iload_n hx hb dX11_of_14 rfl (lv_at hl 2 rfl) ?_
    obtain ⟨hc_4, hw⟩ := hw
    by_cases c_4 : p2 = 0
    · have hw := hc_4 c_4
      refine lv_tableIn (off := 41) (tgt := 56) hx hb dX11_of_15 (by rw [c_4]; decide) (by rw [c_4]; decide) (by rw [c_4]; rfl) (by decide) ?_
      refine lv_aload_n hx hb dX11_of_56 rfl (lv_at hl 0 rfl) ?_
      refine va_get (D := D) (ci := 10) (v := .ref (h 1)) (C := RX11) (T := TX11) (N := 9) hx hb hts hin11 hown hK hP 0 rfl rfl 0 (by decide) w10 (fun _ h9 => h9) rfl dX11_of_57 ?_
      refine va_get (D := D) (ci := 0) (v := .ref (h 13)) (C := RX0) (T := TX0) (N := 16) hx hb hts hin0 hown hK hP 1 rfl rfl 2 (by decide) w200 (fun _ h9 => h9) rfl dX11_of_60 ?_
      refine lv_iload_n hx hb dX11_of_63 rfl (lv_at hl 1 rfl) ?_
      refine e_callSi (As := [.ref (h 13), .int p1]) (rest := []) clE_stable hs ⟨hx, hb, hml, hown, hts⟩ (cA_at l D clE (tyC cy) (wC h cy) S_2 13 1 _ _ 6 (cx_c_kinds S_2) rfl rfl (by decide) _ (fun r S0 => r = k_at 6 (cx_c_kinds S_2) p1 ∧ S_2 = S0) ⟨rfl, rfl⟩) (va_cwS 2 hts gX11_of_X11_at rfl rfl rfl (by decide +kernel) ⟨Nat.le_of_ble_eq_true rfl, Nat.le_of_ble_eq_true rfl⟩) hK hP hD hS hA rfl hl.1 rfl (Nat.le_of_ble_eq_true rfl) dX11_of_64 ⟨Nat.zero_le _, Nat.zero_le _⟩ (fun r_ S_ H locs hq hP hD hS => ?_)
      obtain ⟨rfl, rfl⟩ := hq
      exact W.iret (v := k_at 6 (cx_c_kinds S_2) p1) hx hb hr (fun t ht hW => ⟨⟨k_at 6 (cx_c_kinds S_2) p1, S_2, rfl, hw, by rw [ht]; exact hP, va_K.moved hW.alike hK, hD⟩, hS.F ht⟩) hS.2.2 dX11_of_67
    obtain ⟨hc_7, hw⟩ := hw
    by_cases c_7 : p2 = 1
    · have hw := hc_7 c_7
      refine lv_tableIn (off := 53) (tgt := 68) hx hb dX11_of_15 (by rw [c_7]; decide) (by rw [c_7]; decide) (by rw [c_7]; rfl) (by decide) ?_
      refine lv_aload_n hx hb dX11_of_68 rfl (lv_at hl 0 rfl) ?_
      refine va_get (D := D) (ci := 10) (v := .ref (h 1)) (C := RX11) (T := TX11) (N := 9) hx hb hts hin11 hown hK hP 0 rfl rfl 0 (by decide) w10 (fun _ h9 => h9) rfl dX11_of_69 ?_
      refine lv_iconst (v := 0) hx hb dX11_of_72 (by decide) ?_
      refine lv_iload_n hx hb dX11_of_73 rfl (lv_at hl 1 rfl) ?_
      refine e_callVi (As := [.int 0, .int p1]) (rest := []) clE_stable hs ⟨hx, hb, hml, hown, hts⟩ (cC_X0_see l D h cy _ _ _ _ hw) (cwV 2 hts gX11_of_X0_see rfl rfl rfl (by decide +kernel) ⟨Nat.le_of_ble_eq_true rfl, Nat.le_of_ble_eq_true rfl⟩) (va_recv hK hP (ci := 0) (q0 := 1) rfl rfl) hK hP hD hS hA rfl hl.1 rfl (Nat.le_of_ble_eq_true rfl) dX11_of_74 ⟨Nat.zero_le _, Nat.zero_le _⟩ (fun r_5 S_6 H locs hw hP hD hS => ?_)
      exact W.iret (v := r_5) hx hb hr (fun t ht hW => ⟨⟨r_5, S_6, rfl, hw, by rw [ht]; exact hP, va_K.moved hW.alike hK, hD⟩, hS.F ht⟩) hS.2.2 dX11_of_77
    obtain ⟨hc_10, hw⟩ := hw
    by_cases c_10 : p2 = 2
    · have hw := hc_10 c_10
      refine lv_tableIn (off := 63) (tgt := 78) hx hb dX11_of_15 (by rw [c_10]; decide) (by rw [c_10]; decide) (by rw [c_10]; rfl) (by decide) ?_
      refine lv_aload_n hx hb dX11_of_78 rfl (lv_at hl 0 rfl) ?_
      refine va_get (D := D) (ci := 10) (v := .ref (h 1)) (C := RX11) (T := TX11) (N := 9) hx hb hts hin11 hown hK hP 0 rfl rfl 0 (by decide) w10 (fun _ h9 => h9) rfl dX11_of_79 ?_
      refine lv_bipush (v := 6) hx hb dX11_of_82 (by decide) ?_
      refine lv_iload_n hx hb dX11_of_84 rfl (lv_at hl 1 rfl) ?_
      refine e_callVi (As := [.int 6, .int p1]) (rest := []) clE_stable hs ⟨hx, hb, hml, hown, hts⟩ (cC_X0_see l D h cy _ _ _ _ hw) (cwV 2 hts gX11_of_X0_see rfl rfl rfl (by decide +kernel) ⟨Nat.le_of_ble_eq_true rfl, Nat.le_of_ble_eq_true rfl⟩) (va_recv hK hP (ci := 0) (q0 := 1) rfl rfl) hK hP hD hS hA rfl hl.1 rfl (Nat.le_of_ble_eq_true rfl) dX11_of_85 ⟨Nat.zero_le _, Nat.zero_le _⟩ (fun r_8 S_9 H locs hw hP hD hS => ?_)
      exact W.iret (v := r_8) hx hb hr (fun t ht hW => ⟨⟨r_8, S_9, rfl, hw, by rw [ht]; exact hP, va_K.moved hW.alike hK, hD⟩, hS.F ht⟩) hS.2.2 dX11_of_88
    obtain ⟨hc_13, hw⟩ := hw
    by_cases c_13 : p2 = 3
    · have hw := hc_13 c_13
      refine lv_tableIn (off := 74) (tgt := 89) hx hb dX11_of_15 (by rw [c_13]; decide) (by rw [c_13]; decide) (by rw [c_13]; rfl) (by decide) ?_
      refine lv_aload_n hx hb dX11_of_89 rfl (lv_at hl 0 rfl) ?_
      refine va_get (D := D) (ci := 10) (v := .ref (h 1)) (C := RX11) (T := TX11) (N := 9) hx hb hts hin11 hown hK hP 0 rfl rfl 0 (by decide) w10 (fun _ h9 => h9) rfl dX11_of_90 ?_
      refine lv_bipush (v := 12) hx hb dX11_of_93 (by decide) ?_
      refine lv_iload_n hx hb dX11_of_95 rfl (lv_at hl 1 rfl) ?_
      refine e_callVi (As := [.int 12, .int p1]) (rest := []) clE_stable hs ⟨hx, hb, hml, hown, hts⟩ (cC_X0_see l D h cy _ _ _ _ hw) (cwV 2 hts gX11_of_X0_see rfl rfl rfl (by decide +kernel) ⟨Nat.le_of_ble_eq_true rfl, Nat.le_of_ble_eq_true rfl⟩) (va_recv hK hP (ci := 0) (q0 := 1) rfl rfl) hK hP hD hS hA rfl hl.1 rfl (Nat.le_of_ble_eq_true rfl) dX11_of_96 ⟨Nat.zero_le _, Nat.zero_le _⟩ (fun r_11 S_12 H locs hw hP hD hS => ?_)
      exact W.iret (v := r_11) hx hb hr (fun t ht hW => ⟨⟨r_11, S_12, rfl, hw, by rw [ht]; exact hP, va_K.moved hW.alike hK, hD⟩, hS.F ht⟩) hS.2.2 dX11_of_99
    obtain ⟨hc_16, hw⟩ := hw
    by_cases c_16 : p2 = 4
    · have hw := hc_16 c_16
      refine lv_tableIn (off := 85) (tgt := 100) hx hb dX11_of_15 (by rw [c_16]; decide) (by rw [c_16]; decide) (by rw [c_16]; rfl) (by decide) ?_
      refine lv_aload_n hx hb dX11_of_100 rfl (lv_at hl 0 rfl) ?_
      refine va_get (D := D) (ci := 10) (v := .ref (h 1)) (C := RX11) (T := TX11) (N := 9) hx hb hts hin11 hown hK hP 0 rfl rfl 0 (by decide) w10 (fun _ h9 => h9) rfl dX11_of_101 ?_
      refine lv_bipush (v := 18) hx hb dX11_of_104 (by decide) ?_
      refine lv_iload_n hx hb dX11_of_106 rfl (lv_at hl 1 rfl) ?_
      refine e_callVi (As := [.int 18, .int p1]) (rest := []) clE_stable hs ⟨hx, hb, hml, hown, hts⟩ (cC_X0_see l D h cy _ _ _ _ hw) (cwV 2 hts gX11_of_X0_see rfl rfl rfl (by decide +kernel) ⟨Nat.le_of_ble_eq_true rfl, Nat.le_of_ble_eq_true rfl⟩) (va_recv hK hP (ci := 0) (q0 := 1) rfl rfl) hK hP hD hS hA rfl hl.1 rfl (Nat.le_of_ble_eq_true rfl) dX11_of_107 ⟨Nat.zero_le _, Nat.zero_le _⟩ (fun r_14 S_15 H locs hw hP hD hS => ?_)
      exact W.iret (v := r_14) hx hb hr (fun t ht hW => ⟨⟨r_14, S_15, rfl, hw, by rw [ht]; exact hP, va_K.moved hW.alike hK, hD⟩, hS.F ht⟩) hS.2.2 dX11_of_110
    obtain ⟨hc_21, hw⟩ := hw
    by_cases c_21 : p2 = 5
    · have hw := hc_21 c_21
      refine lv_tableIn (off := 96) (tgt := 111) hx hb dX11_of_15 (by rw [c_21]; decide) (by rw [c_21]; decide) (by rw [c_21]; rfl) (by decide) ?_
      refine lv_aload_n hx hb dX11_of_111 rfl (lv_at hl 0 rfl) ?_
      refine va_get (D := D) (ci := 10) (v := .ref (h 6)) (C := RX11) (T := TX11) (N := 9) hx hb hts hin11 hown hK hP 0 rfl rfl 3 (by decide) w31 (fun _ h9 => h9) rfl dX11_of_112 ?_
      refine lv_aload_n hx hb dX11_of_115 rfl (lv_at hl 0 rfl) ?_
      refine va_get (D := D) (ci := 10) (v := .ref (h 1)) (C := RX11) (T := TX11) (N := 9) hx hb hts hin11 hown hK hP 0 rfl rfl 0 (by decide) w10 (fun _ h9 => h9) rfl dX11_of_116 ?_
      refine lv_aload_n hx hb dX11_of_119 rfl (lv_at hl 0 rfl) ?_
      refine va_get (D := D) (ci := 10) (v := .ref (h 1)) (C := RX11) (T := TX11) (N := 9) hx hb hts hin11 hown hK hP 0 rfl rfl 0 (by decide) w10 (fun _ h9 => h9) rfl dX11_of_120 ?_
      refine va_get (D := D) (ci := 0) (v := .int (cx_c_ruling S_2)) (C := RX0) (T := TX0) (N := 16) hx hb hts hin0 hown hK hP 1 rfl rfl 8 (by decide) w127 (fun _ h9 => h9) rfl dX11_of_123 ?_
      refine e_callVq (As := [.int (cx_c_ruling S_2)]) (rest := [.ref (h 6)]) clE_stable hs ⟨hx, hb, hml, hown, hts⟩ (cC_X0_textAt l D h cy _ _ _ hw) (cwV 1 hts gX11_of_X0_textAt rfl rfl rfl (by decide +kernel) ⟨Nat.le_of_ble_eq_true rfl, Nat.le_of_ble_eq_true rfl⟩) (va_recv hK hP (ci := 0) (q0 := 1) rfl rfl) hK hP hD hS hA rfl hl.1 rfl (Nat.le_of_ble_eq_true rfl) dX11_of_126 ⟨Nat.zero_le _, Nat.zero_le _⟩ (fun r_17 S_18 H locs hw hP hD hS => ?_)
      refine lv_iload_n hx hb dX11_of_129 rfl (lv_at hl 1 rfl) ?_
      refine e_callVi (As := [va_rf r_17, .int p1]) (rest := []) clE_stable hs ⟨hx, hb, hml, hown, hts⟩ (cC_X3_growing l D h cy _ _ _ _ hw) (cwV 2 hts gX11_of_X3_growing rfl rfl rfl (by decide +kernel) ⟨Nat.le_of_ble_eq_true rfl, Nat.le_of_ble_eq_true rfl⟩) (va_recv hK hP (ci := 3) (q0 := 6) rfl rfl) hK hP hD hS hA rfl hl.1 rfl (Nat.le_of_ble_eq_true rfl) dX11_of_130 ⟨Nat.zero_le _, Nat.zero_le _⟩ (fun r_19 S_20 H locs hw hP hD hS => ?_)
      exact W.iret (v := r_19) hx hb hr (fun t ht hW => ⟨⟨r_19, S_20, rfl, hw, by rw [ht]; exact hP, va_K.moved hW.alike hK, hD⟩, hS.F ht⟩) hS.2.2 dX11_of_133
    obtain ⟨hc_24, hw⟩ := hw
    by_cases c_24 : p2 = 6
    · have hw := hc_24 c_24
      refine lv_tableIn (off := 119) (tgt := 134) hx hb dX11_of_15 (by rw [c_24]; decide) (by rw [c_24]; decide) (by rw [c_24]; rfl) (by decide) ?_
      refine lv_aload_n hx hb dX11_of_134 rfl (lv_at hl 0 rfl) ?_
      refine va_get (D := D) (ci := 10) (v := .ref (h 1)) (C := RX11) (T := TX11) (N := 9) hx hb hts hin11 hown hK hP 0 rfl rfl 0 (by decide) w10 (fun _ h9 => h9) rfl dX11_of_135 ?_
      refine lv_iload_n hx hb dX11_of_138 rfl (lv_at hl 1 rfl) ?_
      refine e_callVi (As := [.int p1]) (rest := []) clE_stable hs ⟨hx, hb, hml, hown, hts⟩ (cC_X0_clownsAt l D h cy _ _ _ hw) (cwV 1 hts gX11_of_X0_clownsAt rfl rfl rfl (by decide +kernel) ⟨Nat.le_of_ble_eq_true rfl, Nat.le_of_ble_eq_true rfl⟩) (va_recv hK hP (ci := 0) (q0 := 1) rfl rfl) hK hP hD hS hA rfl hl.1 rfl (Nat.le_of_ble_eq_true rfl) dX11_of_139 ⟨Nat.zero_le _, Nat.zero_le _⟩ (fun r_22 S_23 H locs hw hP hD hS => ?_)
      exact W.iret (v := r_22) hx hb hr (fun t ht hW => ⟨⟨r_22, S_23, rfl, hw, by rw [ht]; exact hP, va_K.moved hW.alike hK, hD⟩, hS.F ht⟩) hS.2.2 dX11_of_142
    have hw := hw c_4 c_7 c_10 c_13 c_16 c_21 c_24
    have c_4n := lv_neT c_4 (a := 0) (by decide)
    have c_7n := lv_neT c_7 (a := 1) (by decide)
    have c_10n := lv_neT c_10 (a := 2) (by decide)
    have c_13n := lv_neT c_13 (a := 3) (by decide)
    have c_16n := lv_neT c_16 (a := 4) (by decide)
    have c_21n := lv_neT c_21 (a := 5) (by decide)
    have c_24n := lv_neT c_24 (a := 6) (by decide)
    refine lv_tableOut (tgt := 143) hx hb dX11_of_15 (by omega) (by decide) ?_
    refine lv_bipush (v := (-2)) hx hb dX11_of_143 (by decide) ?_
    exact W.iret (v := (-2)) hx hb hr (fun t ht hW => ⟨⟨(-2), S_2, rfl, hw, by rw [ht]; exact hP, va_K.moved hW.alike hK, hD⟩, hS.F ht⟩) hS.2.2 dX11_of_145
  · have hw := hc_3t c_3
    clear hc_3t hc_3f
    refine lv_bipush (v := (-2)) hx hb dX11_of_11 (by decide) ?_
    exact W.iret (v := (-2)) hx hb hr (fun t ht hW => ⟨⟨(-2), S_2, rfl, hw, by rw [ht]; exact hP, va_K.moved hW.alike hK, hD⟩, hS.F ht⟩) hS.2.2 dX11_of_13
def wC_X11_ofClown (p1 : Int32) (p2 : Int32) (S : CS) (post : Int32 → CS → Prop) : Prop := wC_X0_hasClown p1 S (fun r_1 S_2 => ((r_1 = 0 → post (-2) S_2) ∧ (¬ (r_1 = 0) → ((p2 = 0 → post (k_at 5 (cx_c_skills S_2) p1) S_2) ∧ (p2 = 1 → post (k_at 5 (cx_c_ages S_2) p1) S_2) ∧ (p2 = 2 → wC_X0_see 24 p1 S_2 (fun r_6 S_7 => post r_6 S_7)) ∧ (p2 = 3 → wC_X0_see 29 p1 S_2 (fun r_9 S_10 => post r_9 S_10)) ∧ (p2 = 4 → wC_X0_see 34 p1 S_2 (fun r_12 S_13 => post r_12 S_13)) ∧ (¬ p2 = 0 → ¬ p2 = 1 → ¬ p2 = 2 → ¬ p2 = 3 → ¬ p2 = 4 → post (-2) S_2)))))
set_option maxHeartbeats 4000000 in
set_option maxRecDepth 100000 in
theorem cC_X11_ofClown (l : Launch) (D : va_G) (h : Nat → Nat) (cy : Nat → ClassId) (p1 : Int32) (p2 : Int32) (S : CS) (post : Int32 → CS → Prop) (hw : wC_X11_ofClown p1 p2 S post) : e_Mi clE l yX11_ofClown wsX11_ofClown { frames := 2, cells := 0, slots := 0, locals := 43 } D (tyC cy) (wC h cy) [.ref (h 0), .int p1, .int p2] S post := by
  intro sz
  refine Met.ofW (cc := cX11_ofClown) (maxL := 3) (ret := (some .int)) (by decide) rfl ?_
  intro p e s m args below meth c s₁ B hml hv
  obtain ⟨rfl, hsz, hP, hK, hD0, hs⟩ := hv
  have hx := B.exec
  have hb := B.bytes
  have hr := B.returns
  have hts := atoms_spec (ws := wsX11_ofClown) B.pre
  have hown : s.vm.findClass RX11 = some m.cls := findClass_of_methodNamed B.named
  have hlocks := B.notSynchronized
  subst hsz
  have hD := hD0.self (sz := s.heap.size)
  generalize hAe : va_A (wC h cy S) s.heap.size = A at hD hs ⊢
  have hA : ∀ q : Nat, s.heap.size ≤ q → A q := fun q h => by rw [← hAe]; exact Or.inr h
  have hS : va_S A s.heap s.heap [] := va_S.rf
  have hin11 : ∀ w ∈ wsX110, w ∈ wsX11_ofClown := fun _ h => List.mem_cons_of_mem _ (List.mem_append_left _ (List.mem_append_right _ h))
  have hin0 : ∀ w ∈ wsX00, w ∈ wsX11_ofClown := fun _ h => List.mem_cons_of_mem _ (List.mem_append_right _ h)
  have w10 := hts (.fieldLink RX11 10 "ClownsMourn" "city" "LClownsMourn$City;") (List.mem_of_getElem? (i := 1) rfl)
  have w217 := hts (.fieldLink RX11 217 "ClownsMourn$City" "skills" "[I") (List.mem_of_getElem? (i := 2) rfl)
  have w220 := hts (.fieldLink RX11 220 "ClownsMourn$City" "ages" "[I") (List.mem_of_getElem? (i := 3) rfl)
  have hl := lv_entry ([.ref (h 0), .int p1, .int p2]) (n := 3) (Nat.le_of_ble_eq_true rfl)
  rw [lg_entry_eq]
  generalize (lg_sl ([.ref (h 0), .int p1, .int p2]) ++ List.replicate (3 - (lg_sl ([.ref (h 0), .int p1, .int p2])).length) Slot.unset).toArray = ls at hl ⊢
  have hl : lv_has ls 3 [(0, .ref (h 0)), (1, .int p1), (2, .int p2)] := hl
  unfold wC_X11_ofClown at hw
  clear hD0
  refine lv_aload_n hx hb dX11_ofClown_0 rfl (lv_at hl 0 rfl) ?_
  refine va_get (D := D) (ci := 10) (v := .ref (h 1)) (C := RX11) (T := TX11) (N := 9) hx hb hts hin11 hown hK hP 0 rfl rfl 0 (by decide) w10 (fun _ h9 => h9) rfl dX11_ofClown_1 ?_
  refine lv_iload_n hx hb dX11_ofClown_4 rfl (lv_at hl 1 rfl) ?_
  refine e_callVi (As := [.int p1]) (rest := []) clE_stable hs ⟨hx, hb, hml, hown, hts⟩ (cC_X0_hasClown l D h cy _ _ _ hw) (cwV 1 hts gX11_ofClown_X0_hasClown rfl rfl rfl (by decide +kernel) ⟨Nat.le_of_ble_eq_true rfl, Nat.le_of_ble_eq_true rfl⟩) (va_recv hK hP (ci := 0) (q0 := 1) rfl rfl) hK hP hD hS hA rfl hl.1 rfl (Nat.le_of_ble_eq_true rfl) dX11_ofClown_5 ⟨Nat.zero_le _, Nat.zero_le _⟩ (fun r_1 S_2 H locs hw hP hD hS => ?_)
  obtain ⟨hc_3t, hc_3f⟩ := hw
  refine lv_if_ne (tgt := 14) hx hb dX11_ofClown_8 (by decide) (fun c_3 => ?_) (fun c_3 => ?_)
  · have hw := hc_3f c_3
    clear hc_3t hc_3f
    refine lv_iload_n hx hb dX11_ofClown_14 rfl (lv_at hl 2 rfl) ?_
    obtain ⟨hc_4, hw⟩ := hw
    by_cases c_4 : p2 = 0
    · have hw := hc_4 c_4
      refine lv_tableIn (off := 33) (tgt := 48) hx hb dX11_ofClown_15 (by rw [c_4]; decide) (by rw [c_4]; decide) (by rw [c_4]; rfl) (by decide) ?_
      refine lv_aload_n hx hb dX11_ofClown_48 rfl (lv_at hl 0 rfl) ?_
      refine va_get (D := D) (ci := 10) (v := .ref (h 1)) (C := RX11) (T := TX11) (N := 9) hx hb hts hin11 hown hK hP 0 rfl rfl 0 (by decide) w10 (fun _ h9 => h9) rfl dX11_ofClown_49 ?_
      refine va_get (D := D) (ci := 0) (v := .ref (h 14)) (C := RX0) (T := TX0) (N := 16) hx hb hts hin0 hown hK hP 1 rfl rfl 3 (by decide) w217 (fun _ h9 => h9) rfl dX11_ofClown_52 ?_
      refine lv_iload_n hx hb dX11_ofClown_55 rfl (lv_at hl 1 rfl) ?_
      refine e_callSi (As := [.ref (h 14), .int p1]) (rest := []) clE_stable hs ⟨hx, hb, hml, hown, hts⟩ (cA_at l D clE (tyC cy) (wC h cy) S_2 14 2 _ _ 5 (cx_c_skills S_2) rfl rfl (by decide) _ (fun r S0 => r = k_at 5 (cx_c_skills S_2) p1 ∧ S_2 = S0) ⟨rfl, rfl⟩) (va_cwS 2 hts gX11_ofClown_X11_at rfl rfl rfl (by decide +kernel) ⟨Nat.le_of_ble_eq_true rfl, Nat.le_of_ble_eq_true rfl⟩) hK hP hD hS hA rfl hl.1 rfl (Nat.le_of_ble_eq_true rfl) dX11_ofClown_56 ⟨Nat.zero_le _, Nat.zero_le _⟩ (fun r_ S_ H locs hq hP hD hS => ?_)
      obtain ⟨rfl, rfl⟩ := hq
      exact W.iret (v := k_at 5 (cx_c_skills S_2) p1) hx hb hr (fun t ht hW => ⟨⟨k_at 5 (cx_c_skills S_2) p1, S_2, rfl, hw, by rw [ht]; exact hP, va_K.moved hW.alike hK, hD⟩, hS.F ht⟩) hS.2.2 dX11_ofClown_59
    obtain ⟨hc_5, hw⟩ := hw
    by_cases c_5 : p2 = 1
    · have hw := hc_5 c_5
      refine lv_tableIn (off := 45) (tgt := 60) hx hb dX11_ofClown_15 (by rw [c_5]; decide) (by rw [c_5]; decide) (by rw [c_5]; rfl) (by decide) ?_
      refine lv_aload_n hx hb dX11_ofClown_60 rfl (lv_at hl 0 rfl) ?_
      refine va_get (D := D) (ci := 10) (v := .ref (h 1)) (C := RX11) (T := TX11) (N := 9) hx hb hts hin11 hown hK hP 0 rfl rfl 0 (by decide) w10 (fun _ h9 => h9) rfl dX11_ofClown_61 ?_
      refine va_get (D := D) (ci := 0) (v := .ref (h 15)) (C := RX0) (T := TX0) (N := 16) hx hb hts hin0 hown hK hP 1 rfl rfl 4 (by decide) w220 (fun _ h9 => h9) rfl dX11_ofClown_64 ?_
      refine lv_iload_n hx hb dX11_ofClown_67 rfl (lv_at hl 1 rfl) ?_
      refine e_callSi (As := [.ref (h 15), .int p1]) (rest := []) clE_stable hs ⟨hx, hb, hml, hown, hts⟩ (cA_at l D clE (tyC cy) (wC h cy) S_2 15 3 _ _ 5 (cx_c_ages S_2) rfl rfl (by decide) _ (fun r S0 => r = k_at 5 (cx_c_ages S_2) p1 ∧ S_2 = S0) ⟨rfl, rfl⟩) (va_cwS 2 hts gX11_ofClown_X11_at rfl rfl rfl (by decide +kernel) ⟨Nat.le_of_ble_eq_true rfl, Nat.le_of_ble_eq_true rfl⟩) hK hP hD hS hA rfl hl.1 rfl (Nat.le_of_ble_eq_true rfl) dX11_ofClown_68 ⟨Nat.zero_le _, Nat.zero_le _⟩ (fun r_ S_ H locs hq hP hD hS => ?_)
      obtain ⟨rfl, rfl⟩ := hq
      exact W.iret (v := k_at 5 (cx_c_ages S_2) p1) hx hb hr (fun t ht hW => ⟨⟨k_at 5 (cx_c_ages S_2) p1, S_2, rfl, hw, by rw [ht]; exact hP, va_K.moved hW.alike hK, hD⟩, hS.F ht⟩) hS.2.2 dX11_ofClown_71
    obtain ⟨hc_8, hw⟩ := hw
    by_cases c_8 : p2 = 2
    · have hw := hc_8 c_8
      refine lv_tableIn (off := 57) (tgt := 72) hx hb dX11_ofClown_15 (by rw [c_8]; decide) (by rw [c_8]; decide) (by rw [c_8]; rfl) (by decide) ?_
      refine lv_aload_n hx hb dX11_ofClown_72 rfl (lv_at hl 0 rfl) ?_
      refine va_get (D := D) (ci := 10) (v := .ref (h 1)) (C := RX11) (T := TX11) (N := 9) hx hb hts hin11 hown hK hP 0 rfl rfl 0 (by decide) w10 (fun _ h9 => h9) rfl dX11_ofClown_73 ?_
      refine lv_bipush (v := 24) hx hb dX11_ofClown_76 (by decide) ?_
      refine lv_iload_n hx hb dX11_ofClown_78 rfl (lv_at hl 1 rfl) ?_
      refine e_callVi (As := [.int 24, .int p1]) (rest := []) clE_stable hs ⟨hx, hb, hml, hown, hts⟩ (cC_X0_see l D h cy _ _ _ _ hw) (cwV 2 hts gX11_ofClown_X0_see rfl rfl rfl (by decide +kernel) ⟨Nat.le_of_ble_eq_true rfl, Nat.le_of_ble_eq_true rfl⟩) (va_recv hK hP (ci := 0) (q0 := 1) rfl rfl) hK hP hD hS hA rfl hl.1 rfl (Nat.le_of_ble_eq_true rfl) dX11_ofClown_79 ⟨Nat.zero_le _, Nat.zero_le _⟩ (fun r_6 S_7 H locs hw hP hD hS => ?_)
      exact W.iret (v := r_6) hx hb hr (fun t ht hW => ⟨⟨r_6, S_7, rfl, hw, by rw [ht]; exact hP, va_K.moved hW.alike hK, hD⟩, hS.F ht⟩) hS.2.2 dX11_ofClown_82
    obtain ⟨hc_11, hw⟩ := hw
    by_cases c_11 : p2 = 3
    · have hw := hc_11 c_11
      refine lv_tableIn (off := 68) (tgt := 83) hx hb dX11_ofClown_15 (by rw [c_11]; decide) (by rw [c_11]; decide) (by rw [c_11]; rfl) (by decide) ?_
      refine lv_aload_n hx hb dX11_ofClown_83 rfl (lv_at hl 0 rfl) ?_
      refine va_get (D := D) (ci := 10) (v := .ref (h 1)) (C := RX11) (T := TX11) (N := 9) hx hb hts hin11 hown hK hP 0 rfl rfl 0 (by decide) w10 (fun _ h9 => h9) rfl dX11_ofClown_84 ?_
      refine lv_bipush (v := 29) hx hb dX11_ofClown_87 (by decide) ?_
      refine lv_iload_n hx hb dX11_ofClown_89 rfl (lv_at hl 1 rfl) ?_
      refine e_callVi (As := [.int 29, .int p1]) (rest := []) clE_stable hs ⟨hx, hb, hml, hown, hts⟩ (cC_X0_see l D h cy _ _ _ _ hw) (cwV 2 hts gX11_ofClown_X0_see rfl rfl rfl (by decide +kernel) ⟨Nat.le_of_ble_eq_true rfl, Nat.le_of_ble_eq_true rfl⟩) (va_recv hK hP (ci := 0) (q0 := 1) rfl rfl) hK hP hD hS hA rfl hl.1 rfl (Nat.le_of_ble_eq_true rfl) dX11_ofClown_90 ⟨Nat.zero_le _, Nat.zero_le _⟩ (fun r_9 S_10 H locs hw hP hD hS => ?_)
      exact W.iret (v := r_9) hx hb hr (fun t ht hW => ⟨⟨r_9, S_10, rfl, hw, by rw [ht]; exact hP, va_K.moved hW.alike hK, hD⟩, hS.F ht⟩) hS.2.2 dX11_ofClown_93
    obtain ⟨hc_14, hw⟩ := hw
    by_cases c_14 : p2 = 4
    · have hw := hc_14 c_14
      refine lv_tableIn (off := 79) (tgt := 94) hx hb dX11_ofClown_15 (by rw [c_14]; decide) (by rw [c_14]; decide) (by rw [c_14]; rfl) (by decide) ?_
      refine lv_aload_n hx hb dX11_ofClown_94 rfl (lv_at hl 0 rfl) ?_
      refine va_get (D := D) (ci := 10) (v := .ref (h 1)) (C := RX11) (T := TX11) (N := 9) hx hb hts hin11 hown hK hP 0 rfl rfl 0 (by decide) w10 (fun _ h9 => h9) rfl dX11_ofClown_95 ?_
      refine lv_bipush (v := 34) hx hb dX11_ofClown_98 (by decide) ?_
      refine lv_iload_n hx hb dX11_ofClown_100 rfl (lv_at hl 1 rfl) ?_
      refine e_callVi (As := [.int 34, .int p1]) (rest := []) clE_stable hs ⟨hx, hb, hml, hown, hts⟩ (cC_X0_see l D h cy _ _ _ _ hw) (cwV 2 hts gX11_ofClown_X0_see rfl rfl rfl (by decide +kernel) ⟨Nat.le_of_ble_eq_true rfl, Nat.le_of_ble_eq_true rfl⟩) (va_recv hK hP (ci := 0) (q0 := 1) rfl rfl) hK hP hD hS hA rfl hl.1 rfl (Nat.le_of_ble_eq_true rfl) dX11_ofClown_101 ⟨Nat.zero_le _, Nat.zero_le _⟩ (fun r_12 S_13 H locs hw hP hD hS => ?_)
      exact W.iret (v := r_12) hx hb hr (fun t ht hW => ⟨⟨r_12, S_13, rfl, hw, by rw [ht]; exact hP, va_K.moved hW.alike hK, hD⟩, hS.F ht⟩) hS.2.2 dX11_ofClown_104
    have hw := hw c_4 c_5 c_8 c_11 c_14
    have c_4n := lv_neT c_4 (a := 0) (by decide)
    have c_5n := lv_neT c_5 (a := 1) (by decide)
    have c_8n := lv_neT c_8 (a := 2) (by decide)
    have c_11n := lv_neT c_11 (a := 3) (by decide)
    have c_14n := lv_neT c_14 (a := 4) (by decide)
    refine lv_tableOut (tgt := 105) hx hb dX11_ofClown_15 (by omega) (by decide) ?_
    refine lv_bipush (v := (-2)) hx hb dX11_ofClown_105 (by decide) ?_
    exact W.iret (v := (-2)) hx hb hr (fun t ht hW => ⟨⟨(-2), S_2, rfl, hw, by rw [ht]; exact hP, va_K.moved hW.alike hK, hD⟩, hS.F ht⟩) hS.2.2 dX11_ofClown_107
  · have hw := hc_3t c_3
    clear hc_3t hc_3f
    refine lv_bipush (v := (-2)) hx hb dX11_ofClown_11 (by decide) ?_
    exact W.iret (v := (-2)) hx hb hr (fun t ht hW => ⟨⟨(-2), S_2, rfl, hw, by rw [ht]; exact hP, va_K.moved hW.alike hK, hD⟩, hS.F ht⟩) hS.2.2 dX11_ofClown_13
def wC_X11_eased (p1 : Int32) (p2 : Int32) (S : CS) (post : Int32 → CS → Prop) : Prop := wC_X0_isOut p1 S (fun r_1 S_2 => ((r_1 = 0 → post (-1) S_2) ∧ (¬ (r_1 = 0) → wC_X11_isFall p2 S_2 (fun r_4 S_5 => ((r_4 = 0 → post (-1) S_5) ∧ (¬ (r_4 = 0) → wC_X3_easing p1 p2 S_5 (fun r_7 S_8 => post r_7 S_8)))))))
set_option maxHeartbeats 4000000 in
set_option maxRecDepth 100000 in
theorem cC_X11_eased (l : Launch) (D : va_G) (h : Nat → Nat) (cy : Nat → ClassId) (p1 : Int32) (p2 : Int32) (S : CS) (post : Int32 → CS → Prop) (hw : wC_X11_eased p1 p2 S post) : e_Mi clE l yX11_eased wsX11_eased { frames := 4, cells := 0, slots := 0, locals := 99 } D (tyC cy) (wC h cy) [.ref (h 0), .int p1, .int p2] S post := by
  intro sz
  refine Met.ofW (cc := cX11_eased) (maxL := 3) (ret := (some .int)) (by decide) rfl ?_
  intro p e s m args below meth c s₁ B hml hv
  obtain ⟨rfl, hsz, hP, hK, hD0, hs⟩ := hv
  have hx := B.exec
  have hb := B.bytes
  have hr := B.returns
  have hts := atoms_spec (ws := wsX11_eased) B.pre
  have hown : s.vm.findClass RX11 = some m.cls := findClass_of_methodNamed B.named
  have hlocks := B.notSynchronized
  subst hsz
  have hD := hD0.self (sz := s.heap.size)
  generalize hAe : va_A (wC h cy S) s.heap.size = A at hD hs ⊢
  have hA : ∀ q : Nat, s.heap.size ≤ q → A q := fun q h => by rw [← hAe]; exact Or.inr h
  have hS : va_S A s.heap s.heap [] := va_S.rf
  have hin11 : ∀ w ∈ wsX110, w ∈ wsX11_eased := fun _ h => List.mem_cons_of_mem _ (List.mem_append_left _ (List.mem_append_left _ (List.mem_append_left _ (List.mem_append_right _ h))))
  have hin0 : ∀ w ∈ wsX00, w ∈ wsX11_eased := fun _ h => List.mem_cons_of_mem _ (List.mem_append_left _ (List.mem_append_left _ (List.mem_append_right _ h)))
  have hin3 : ∀ w ∈ wsX30, w ∈ wsX11_eased := fun _ h => List.mem_cons_of_mem _ (List.mem_append_left _ (List.mem_append_right _ h))
  have hin9 : ∀ w ∈ wsX90, w ∈ wsX11_eased := fun _ h => List.mem_cons_of_mem _ (List.mem_append_right _ h)
  have w10 := hts (.fieldLink RX11 10 "ClownsMourn" "city" "LClownsMourn$City;") (List.mem_of_getElem? (i := 1) rfl)
  have w31 := hts (.fieldLink RX11 31 "ClownsMourn" "laws" "LClownsMourn$Laws;") (List.mem_of_getElem? (i := 2) rfl)
  have hl := lv_entry ([.ref (h 0), .int p1, .int p2]) (n := 3) (Nat.le_of_ble_eq_true rfl)
  rw [lg_entry_eq]
  generalize (lg_sl ([.ref (h 0), .int p1, .int p2]) ++ List.replicate (3 - (lg_sl ([.ref (h 0), .int p1, .int p2])).length) Slot.unset).toArray = ls at hl ⊢
  have hl : lv_has ls 3 [(0, .ref (h 0)), (1, .int p1), (2, .int p2)] := hl
  unfold wC_X11_eased at hw
  clear hD0
  refine lv_aload_n hx hb dX11_eased_0 rfl (lv_at hl 0 rfl) ?_
  refine va_get (D := D) (ci := 10) (v := .ref (h 1)) (C := RX11) (T := TX11) (N := 9) hx hb hts hin11 hown hK hP 0 rfl rfl 0 (by decide) w10 (fun _ h9 => h9) rfl dX11_eased_1 ?_
  refine lv_iload_n hx hb dX11_eased_4 rfl (lv_at hl 1 rfl) ?_
  refine e_callVi (As := [.int p1]) (rest := []) clE_stable hs ⟨hx, hb, hml, hown, hts⟩ (cC_X0_isOut l D h cy _ _ _ hw) (cwV 1 hts gX11_eased_X0_isOut rfl rfl rfl (by decide +kernel) ⟨Nat.le_of_ble_eq_true rfl, Nat.le_of_ble_eq_true rfl⟩) (va_recv hK hP (ci := 0) (q0 := 1) rfl rfl) hK hP hD hS hA rfl hl.1 rfl (Nat.le_of_ble_eq_true rfl) dX11_eased_5 ⟨Nat.zero_le _, Nat.zero_le _⟩ (fun r_1 S_2 H locs hw hP hD hS => ?_)
  obtain ⟨hc_3t, hc_3f⟩ := hw
  refine lv_if_eq (tgt := 30) hx hb dX11_eased_8 (by decide) (fun c_3 => ?_) (fun c_3 => ?_)
  · have hw := hc_3t c_3
    clear hc_3t hc_3f
    refine lv_iconst (v := (-1)) hx hb dX11_eased_30 (by decide) ?_
    exact W.iret (v := (-1)) hx hb hr (fun t ht hW => ⟨⟨(-1), S_2, rfl, hw, by rw [ht]; exact hP, va_K.moved hW.alike hK, hD⟩, hS.F ht⟩) hS.2.2 dX11_eased_31
  · have hw := hc_3f c_3
    clear hc_3t hc_3f
    refine lv_iload_n hx hb dX11_eased_11 rfl (lv_at hl 2 rfl) ?_
    refine e_callSi (As := [.int p2]) (rest := []) clE_stable hs ⟨hx, hb, hml, hown, hts⟩ (cC_X11_isFall l D h cy _ _ _ hw) (va_cwS 1 hts gX11_eased_X11_isFall rfl rfl rfl (by decide +kernel) ⟨Nat.le_of_ble_eq_true rfl, Nat.le_of_ble_eq_true rfl⟩) hK hP hD hS hA rfl hl.1 rfl (Nat.le_of_ble_eq_true rfl) dX11_eased_12 ⟨Nat.zero_le _, Nat.zero_le _⟩ (fun r_4 S_5 H locs hw hP hD hS => ?_)
    obtain ⟨hc_6t, hc_6f⟩ := hw
    refine lv_if_eq (tgt := 30) hx hb dX11_eased_15 (by decide) (fun c_6 => ?_) (fun c_6 => ?_)
    · have hw := hc_6t c_6
      clear hc_6t hc_6f
      refine lv_iconst (v := (-1)) hx hb dX11_eased_30 (by decide) ?_
      exact W.iret (v := (-1)) hx hb hr (fun t ht hW => ⟨⟨(-1), S_5, rfl, hw, by rw [ht]; exact hP, va_K.moved hW.alike hK, hD⟩, hS.F ht⟩) hS.2.2 dX11_eased_31
    · have hw := hc_6f c_6
      clear hc_6t hc_6f
      refine lv_aload_n hx hb dX11_eased_18 rfl (lv_at hl 0 rfl) ?_
      refine va_get (D := D) (ci := 10) (v := .ref (h 6)) (C := RX11) (T := TX11) (N := 9) hx hb hts hin11 hown hK hP 0 rfl rfl 3 (by decide) w31 (fun _ h9 => h9) rfl dX11_eased_19 ?_
      refine lv_iload_n hx hb dX11_eased_22 rfl (lv_at hl 1 rfl) ?_
      refine lv_iload_n hx hb dX11_eased_23 rfl (lv_at hl 2 rfl) ?_
      refine e_callVi (As := [.int p1, .int p2]) (rest := []) clE_stable hs ⟨hx, hb, hml, hown, hts⟩ (cC_X3_easing l D h cy _ _ _ _ hw) (cwV 2 hts gX11_eased_X3_easing rfl rfl rfl (by decide +kernel) ⟨Nat.le_of_ble_eq_true rfl, Nat.le_of_ble_eq_true rfl⟩) (va_recv hK hP (ci := 3) (q0 := 6) rfl rfl) hK hP hD hS hA rfl hl.1 rfl (Nat.le_of_ble_eq_true rfl) dX11_eased_24 ⟨Nat.zero_le _, Nat.zero_le _⟩ (fun r_7 S_8 H locs hw hP hD hS => ?_)
      refine lv_goto (tgt := 31) hx hb dX11_eased_27 (by decide) ?_
      exact W.iret (v := r_7) hx hb hr (fun t ht hW => ⟨⟨r_7, S_8, rfl, hw, by rw [ht]; exact hP, va_K.moved hW.alike hK, hD⟩, hS.F ht⟩) hS.2.2 dX11_eased_31
def wC_X2_oddsOfFall (p1 : Int32) (p2 : Int32) (S : CS) (post : Int32 → CS → Prop) : Prop := wC_X0_see 29 p1 S (fun r_1 S_2 => wC_X0_see 0 r_1 S_2 (fun r_3 S_4 => wC_X0_see 6 r_1 S_4 (fun r_5 S_6 => wC_X3_easing p1 p2 S_6 (fun r_7 S_8 => wC_X2_moves r_1 p2 r_7 S_8 (fun S_10 => wC_X3_laughing p1 p2 S_10 (fun r_11 S_12 => wC_X0_set 0 r_1 r_3 S_12 (fun S_14 => wC_X0_set 6 r_1 r_5 S_14 (fun S_16 => post r_11 S_16))))))))
set_option maxHeartbeats 4000000 in
set_option maxRecDepth 100000 in
theorem cC_X2_oddsOfFall (l : Launch) (D : va_G) (h : Nat → Nat) (cy : Nat → ClassId) (p1 : Int32) (p2 : Int32) (S : CS) (post : Int32 → CS → Prop) (hw : wC_X2_oddsOfFall p1 p2 S post) : e_Mi clE l yX2_oddsOfFall wsX2_oddsOfFall { frames := 4, cells := 0, slots := 0, locals := 100 } D (tyC cy) (wC h cy) [.ref (h 7), .int p1, .int p2] S post := by
  intro sz
  refine Met.ofW (cc := cX2_oddsOfFall) (maxL := 7) (ret := (some .int)) (by decide) rfl ?_
  intro p e s m args below meth c s₁ B hml hv
  obtain ⟨rfl, hsz, hP, hK, hD0, hs⟩ := hv
  have hx := B.exec
  have hb := B.bytes
  have hr := B.returns
  have hts := atoms_spec (ws := wsX2_oddsOfFall) B.pre
  have hown : s.vm.findClass RX2 = some m.cls := findClass_of_methodNamed B.named
  have hlocks := B.notSynchronized
  subst hsz
  have hD := hD0.self (sz := s.heap.size)
  generalize hAe : va_A (wC h cy S) s.heap.size = A at hD hs ⊢
  have hA : ∀ q : Nat, s.heap.size ≤ q → A q := fun q h => by rw [← hAe]; exact Or.inr h
  have hS : va_S A s.heap s.heap [] := va_S.rf
  have hin2 : ∀ w ∈ wsX20, w ∈ wsX2_oddsOfFall := fun _ h => List.mem_cons_of_mem _ (List.mem_append_left _ (List.mem_append_left _ (List.mem_append_left _ (List.mem_append_right _ h))))
  have hin0 : ∀ w ∈ wsX00, w ∈ wsX2_oddsOfFall := fun _ h => List.mem_cons_of_mem _ (List.mem_append_left _ (List.mem_append_left _ (List.mem_append_right _ h)))
  have hin3 : ∀ w ∈ wsX30, w ∈ wsX2_oddsOfFall := fun _ h => List.mem_cons_of_mem _ (List.mem_append_left _ (List.mem_append_right _ h))
  have hin9 : ∀ w ∈ wsX90, w ∈ wsX2_oddsOfFall := fun _ h => List.mem_cons_of_mem _ (List.mem_append_right _ h)
  have w17 := hts (.fieldLink RX2 17 "ClownsMourn$Guild" "city" "LClownsMourn$City;") (List.mem_of_getElem? (i := 1) rfl)
  have w21 := hts (.fieldLink RX2 21 "ClownsMourn$Guild" "laws" "LClownsMourn$Laws;") (List.mem_of_getElem? (i := 2) rfl)
  have hl := lv_entry ([.ref (h 7), .int p1, .int p2]) (n := 7) (Nat.le_of_ble_eq_true rfl)
  rw [lg_entry_eq]
  generalize (lg_sl ([.ref (h 7), .int p1, .int p2]) ++ List.replicate (7 - (lg_sl ([.ref (h 7), .int p1, .int p2])).length) Slot.unset).toArray = ls at hl ⊢
  have hl : lv_has ls 7 [(0, .ref (h 7)), (1, .int p1), (2, .int p2)] := hl
  unfold wC_X2_oddsOfFall at hw
  clear hD0
  refine lv_aload_n hx hb dX2_oddsOfFall_0 rfl (lv_at hl 0 rfl) ?_
  refine va_get (D := D) (ci := 2) (v := .ref (h 1)) (C := RX2) (T := TX2) (N := 3) hx hb hts hin2 hown hK hP 7 rfl rfl 0 (by decide) w17 (fun _ h9 => h9) rfl dX2_oddsOfFall_1 ?_
  refine lv_bipush (v := 29) hx hb dX2_oddsOfFall_4 (by decide) ?_
  refine lv_iload_n hx hb dX2_oddsOfFall_6 rfl (lv_at hl 1 rfl) ?_
  refine e_callVi (As := [.int 29, .int p1]) (rest := []) clE_stable hs ⟨hx, hb, hml, hown, hts⟩ (cC_X0_see l D h cy _ _ _ _ hw) (cwV 2 hts gX2_oddsOfFall_X0_see rfl rfl rfl (by decide +kernel) ⟨Nat.le_of_ble_eq_true rfl, Nat.le_of_ble_eq_true rfl⟩) (va_recv hK hP (ci := 0) (q0 := 1) rfl rfl) hK hP hD hS hA rfl hl.1 rfl (Nat.le_of_ble_eq_true rfl) dX2_oddsOfFall_7 ⟨Nat.zero_le _, Nat.zero_le _⟩ (fun r_1 S_2 H locs hw hP hD hS => ?_)
  refine lv_istore_n (lv' := [(3, .int r_1), (0, .ref (h 7)), (1, .int p1), (2, .int p2)]) hx hb dX2_oddsOfFall_10 rfl hl (by decide) rfl (fun ls hl => ?_)
  refine lv_aload_n hx hb dX2_oddsOfFall_11 rfl (lv_at hl 1 rfl) ?_
  refine va_get (D := D) (ci := 2) (v := .ref (h 1)) (C := RX2) (T := TX2) (N := 3) hx hb hts hin2 hown hK hP 7 rfl rfl 0 (by decide) w17 (fun _ h9 => h9) rfl dX2_oddsOfFall_12 ?_
  refine lv_iconst (v := 0) hx hb dX2_oddsOfFall_15 (by decide) ?_
  refine lv_iload_n hx hb dX2_oddsOfFall_16 rfl (lv_at hl 0 rfl) ?_
  refine e_callVi (As := [.int 0, .int r_1]) (rest := []) clE_stable hs ⟨hx, hb, hml, hown, hts⟩ (cC_X0_see l D h cy _ _ _ _ hw) (cwV 2 hts gX2_oddsOfFall_X0_see rfl rfl rfl (by decide +kernel) ⟨Nat.le_of_ble_eq_true rfl, Nat.le_of_ble_eq_true rfl⟩) (va_recv hK hP (ci := 0) (q0 := 1) rfl rfl) hK hP hD hS hA rfl hl.1 rfl (Nat.le_of_ble_eq_true rfl) dX2_oddsOfFall_17 ⟨Nat.zero_le _, Nat.zero_le _⟩ (fun r_3 S_4 H locs hw hP hD hS => ?_)
  refine lv_istore (lv' := [(4, .int r_3), (3, .int r_1), (0, .ref (h 7)), (1, .int p1), (2, .int p2)]) hx hb dX2_oddsOfFall_20 hl (by decide) rfl (fun ls hl => ?_)
  refine lv_aload_n hx hb dX2_oddsOfFall_22 rfl (lv_at hl 2 rfl) ?_
  refine va_get (D := D) (ci := 2) (v := .ref (h 1)) (C := RX2) (T := TX2) (N := 3) hx hb hts hin2 hown hK hP 7 rfl rfl 0 (by decide) w17 (fun _ h9 => h9) rfl dX2_oddsOfFall_23 ?_
  refine lv_bipush (v := 6) hx hb dX2_oddsOfFall_26 (by decide) ?_
  refine lv_iload_n hx hb dX2_oddsOfFall_28 rfl (lv_at hl 1 rfl) ?_
  refine e_callVi (As := [.int 6, .int r_1]) (rest := []) clE_stable hs ⟨hx, hb, hml, hown, hts⟩ (cC_X0_see l D h cy _ _ _ _ hw) (cwV 2 hts gX2_oddsOfFall_X0_see rfl rfl rfl (by decide +kernel) ⟨Nat.le_of_ble_eq_true rfl, Nat.le_of_ble_eq_true rfl⟩) (va_recv hK hP (ci := 0) (q0 := 1) rfl rfl) hK hP hD hS hA rfl hl.1 rfl (Nat.le_of_ble_eq_true rfl) dX2_oddsOfFall_29 ⟨Nat.zero_le _, Nat.zero_le _⟩ (fun r_5 S_6 H locs hw hP hD hS => ?_)
  refine lv_istore (lv' := [(5, .int r_5), (4, .int r_3), (3, .int r_1), (0, .ref (h 7)), (1, .int p1), (2, .int p2)]) hx hb dX2_oddsOfFall_32 hl (by decide) rfl (fun ls hl => ?_)
  refine lv_aload_n hx hb dX2_oddsOfFall_34 rfl (lv_at hl 3 rfl) ?_
  refine lv_iload_n hx hb dX2_oddsOfFall_35 rfl (lv_at hl 2 rfl) ?_
  refine lv_iload_n hx hb dX2_oddsOfFall_36 rfl (lv_at hl 5 rfl) ?_
  refine lv_aload_n hx hb dX2_oddsOfFall_37 rfl (lv_at hl 3 rfl) ?_
  refine va_get (D := D) (ci := 2) (v := .ref (h 6)) (C := RX2) (T := TX2) (N := 3) hx hb hts hin2 hown hK hP 7 rfl rfl 1 (by decide) w21 (fun _ h9 => h9) rfl dX2_oddsOfFall_38 ?_
  refine lv_iload_n hx hb dX2_oddsOfFall_41 rfl (lv_at hl 4 rfl) ?_
  refine lv_iload_n hx hb dX2_oddsOfFall_42 rfl (lv_at hl 5 rfl) ?_
  refine e_callVi (As := [.int p1, .int p2]) (rest := [.int p2, .int r_1, .ref (h 7)]) clE_stable hs ⟨hx, hb, hml, hown, hts⟩ (cC_X3_easing l D h cy _ _ _ _ hw) (cwV 2 hts gX2_oddsOfFall_X3_easing rfl rfl rfl (by decide +kernel) ⟨Nat.le_of_ble_eq_true rfl, Nat.le_of_ble_eq_true rfl⟩) (va_recv hK hP (ci := 3) (q0 := 6) rfl rfl) hK hP hD hS hA rfl hl.1 rfl (Nat.le_of_ble_eq_true rfl) dX2_oddsOfFall_43 ⟨Nat.zero_le _, Nat.zero_le _⟩ (fun r_7 S_8 H locs hw hP hD hS => ?_)
  refine e_callVv (As := [.int r_1, .int p2, .int r_7]) (rest := []) clE_stable hs ⟨hx, hb, hml, hown, hts⟩ (cC_X2_moves l D h cy _ _ _ _ _ hw) (cwV 3 hts gX2_oddsOfFall_X2_moves rfl rfl rfl (by decide +kernel) ⟨Nat.le_of_ble_eq_true rfl, Nat.le_of_ble_eq_true rfl⟩) (va_recv hK hP (ci := 2) (q0 := 7) rfl rfl) hK hP hD hS hA rfl hl.1 rfl (Nat.le_of_ble_eq_true rfl) dX2_oddsOfFall_46 ⟨Nat.zero_le _, Nat.zero_le _⟩ (fun S_10 H locs hw hP hD hS => ?_)
  refine lv_aload_n hx hb dX2_oddsOfFall_49 rfl (lv_at hl 3 rfl) ?_
  refine va_get (D := D) (ci := 2) (v := .ref (h 6)) (C := RX2) (T := TX2) (N := 3) hx hb hts hin2 hown hK hP 7 rfl rfl 1 (by decide) w21 (fun _ h9 => h9) rfl dX2_oddsOfFall_50 ?_
  refine lv_iload_n hx hb dX2_oddsOfFall_53 rfl (lv_at hl 4 rfl) ?_
  refine lv_iload_n hx hb dX2_oddsOfFall_54 rfl (lv_at hl 5 rfl) ?_
  refine e_callVi (As := [.int p1, .int p2]) (rest := []) clE_stable hs ⟨hx, hb, hml, hown, hts⟩ (cC_X3_laughing l D h cy _ _ _ _ hw) (cwV 2 hts gX2_oddsOfFall_X3_laughing rfl rfl rfl (by decide +kernel) ⟨Nat.le_of_ble_eq_true rfl, Nat.le_of_ble_eq_true rfl⟩) (va_recv hK hP (ci := 3) (q0 := 6) rfl rfl) hK hP hD hS hA rfl hl.1 rfl (Nat.le_of_ble_eq_true rfl) dX2_oddsOfFall_55 ⟨Nat.zero_le _, Nat.zero_le _⟩ (fun r_11 S_12 H locs hw hP hD hS => ?_)
  refine lv_istore (lv' := [(6, .int r_11), (5, .int r_5), (4, .int r_3), (3, .int r_1), (0, .ref (h 7)), (1, .int p1), (2, .int p2)]) hx hb dX2_oddsOfFall_58 hl (by decide) rfl (fun ls hl => ?_)
  refine lv_aload_n hx hb dX2_oddsOfFall_60 rfl (lv_at hl 4 rfl) ?_
  refine va_get (D := D) (ci := 2) (v := .ref (h 1)) (C := RX2) (T := TX2) (N := 3) hx hb hts hin2 hown hK hP 7 rfl rfl 0 (by decide) w17 (fun _ h9 => h9) rfl dX2_oddsOfFall_61 ?_
  refine lv_iconst (v := 0) hx hb dX2_oddsOfFall_64 (by decide) ?_
  refine lv_iload_n hx hb dX2_oddsOfFall_65 rfl (lv_at hl 3 rfl) ?_
  refine lv_iload hx hb dX2_oddsOfFall_66 (lv_at hl 2 rfl) ?_
  refine e_callVv (As := [.int 0, .int r_1, .int r_3]) (rest := []) clE_stable hs ⟨hx, hb, hml, hown, hts⟩ (cC_X0_set l D h cy _ _ _ _ _ hw) (cwV 3 hts gX2_oddsOfFall_X0_set rfl rfl rfl (by decide +kernel) ⟨Nat.le_of_ble_eq_true rfl, Nat.le_of_ble_eq_true rfl⟩) (va_recv hK hP (ci := 0) (q0 := 1) rfl rfl) hK hP hD hS hA rfl hl.1 rfl (Nat.le_of_ble_eq_true rfl) dX2_oddsOfFall_68 ⟨Nat.zero_le _, Nat.zero_le _⟩ (fun S_14 H locs hw hP hD hS => ?_)
  refine lv_aload_n hx hb dX2_oddsOfFall_71 rfl (lv_at hl 4 rfl) ?_
  refine va_get (D := D) (ci := 2) (v := .ref (h 1)) (C := RX2) (T := TX2) (N := 3) hx hb hts hin2 hown hK hP 7 rfl rfl 0 (by decide) w17 (fun _ h9 => h9) rfl dX2_oddsOfFall_72 ?_
  refine lv_bipush (v := 6) hx hb dX2_oddsOfFall_75 (by decide) ?_
  refine lv_iload_n hx hb dX2_oddsOfFall_77 rfl (lv_at hl 3 rfl) ?_
  refine lv_iload hx hb dX2_oddsOfFall_78 (lv_at hl 1 rfl) ?_
  refine e_callVv (As := [.int 6, .int r_1, .int r_5]) (rest := []) clE_stable hs ⟨hx, hb, hml, hown, hts⟩ (cC_X0_set l D h cy _ _ _ _ _ hw) (cwV 3 hts gX2_oddsOfFall_X0_set rfl rfl rfl (by decide +kernel) ⟨Nat.le_of_ble_eq_true rfl, Nat.le_of_ble_eq_true rfl⟩) (va_recv hK hP (ci := 0) (q0 := 1) rfl rfl) hK hP hD hS hA rfl hl.1 rfl (Nat.le_of_ble_eq_true rfl) dX2_oddsOfFall_80 ⟨Nat.zero_le _, Nat.zero_le _⟩ (fun S_16 H locs hw hP hD hS => ?_)
  refine lv_iload hx hb dX2_oddsOfFall_83 (lv_at hl 0 rfl) ?_
  exact W.iret (v := r_11) hx hb hr (fun t ht hW => ⟨⟨r_11, S_16, rfl, hw, by rw [ht]; exact hP, va_K.moved hW.alike hK, hD⟩, hS.F ht⟩) hS.2.2 dX2_oddsOfFall_85
def wC_X11_laughs (p1 : Int32) (p2 : Int32) (S : CS) (post : Int32 → CS → Prop) : Prop := wC_X0_isOut p1 S (fun r_1 S_2 => ((r_1 = 0 → post (-1) S_2) ∧ (¬ (r_1 = 0) → wC_X11_isFall p2 S_2 (fun r_4 S_5 => ((r_4 = 0 → post (-1) S_5) ∧ (¬ (r_4 = 0) → wC_X2_oddsOfFall p1 p2 S_5 (fun r_7 S_8 => post r_7 S_8)))))))
set_option maxHeartbeats 4000000 in
set_option maxRecDepth 100000 in
theorem cC_X11_laughs (l : Launch) (D : va_G) (h : Nat → Nat) (cy : Nat → ClassId) (p1 : Int32) (p2 : Int32) (S : CS) (post : Int32 → CS → Prop) (hw : wC_X11_laughs p1 p2 S post) : e_Mi clE l yX11_laughs wsX11_laughs { frames := 5, cells := 0, slots := 0, locals := 126 } D (tyC cy) (wC h cy) [.ref (h 0), .int p1, .int p2] S post := by
  intro sz
  refine Met.ofW (cc := cX11_laughs) (maxL := 3) (ret := (some .int)) (by decide) rfl ?_
  intro p e s m args below meth c s₁ B hml hv
  obtain ⟨rfl, hsz, hP, hK, hD0, hs⟩ := hv
  have hx := B.exec
  have hb := B.bytes
  have hr := B.returns
  have hts := atoms_spec (ws := wsX11_laughs) B.pre
  have hown : s.vm.findClass RX11 = some m.cls := findClass_of_methodNamed B.named
  have hlocks := B.notSynchronized
  subst hsz
  have hD := hD0.self (sz := s.heap.size)
  generalize hAe : va_A (wC h cy S) s.heap.size = A at hD hs ⊢
  have hA : ∀ q : Nat, s.heap.size ≤ q → A q := fun q h => by rw [← hAe]; exact Or.inr h
  have hS : va_S A s.heap s.heap [] := va_S.rf
  have hin11 : ∀ w ∈ wsX110, w ∈ wsX11_laughs := fun _ h => List.mem_cons_of_mem _ (List.mem_append_left _ (List.mem_append_left _ (List.mem_append_left _ (List.mem_append_left _ (List.mem_append_right _ h)))))
  have hin0 : ∀ w ∈ wsX00, w ∈ wsX11_laughs := fun _ h => List.mem_cons_of_mem _ (List.mem_append_left _ (List.mem_append_left _ (List.mem_append_left _ (List.mem_append_right _ h))))
  have hin2 : ∀ w ∈ wsX20, w ∈ wsX11_laughs := fun _ h => List.mem_cons_of_mem _ (List.mem_append_left _ (List.mem_append_left _ (List.mem_append_right _ h)))
  have hin3 : ∀ w ∈ wsX30, w ∈ wsX11_laughs := fun _ h => List.mem_cons_of_mem _ (List.mem_append_left _ (List.mem_append_right _ h))
  have hin9 : ∀ w ∈ wsX90, w ∈ wsX11_laughs := fun _ h => List.mem_cons_of_mem _ (List.mem_append_right _ h)
  have w10 := hts (.fieldLink RX11 10 "ClownsMourn" "city" "LClownsMourn$City;") (List.mem_of_getElem? (i := 1) rfl)
  have w40 := hts (.fieldLink RX11 40 "ClownsMourn" "guild" "LClownsMourn$Guild;") (List.mem_of_getElem? (i := 2) rfl)
  have hl := lv_entry ([.ref (h 0), .int p1, .int p2]) (n := 3) (Nat.le_of_ble_eq_true rfl)
  rw [lg_entry_eq]
  generalize (lg_sl ([.ref (h 0), .int p1, .int p2]) ++ List.replicate (3 - (lg_sl ([.ref (h 0), .int p1, .int p2])).length) Slot.unset).toArray = ls at hl ⊢
  have hl : lv_has ls 3 [(0, .ref (h 0)), (1, .int p1), (2, .int p2)] := hl
  unfold wC_X11_laughs at hw
  clear hD0
  refine lv_aload_n hx hb dX11_laughs_0 rfl (lv_at hl 0 rfl) ?_
  refine va_get (D := D) (ci := 10) (v := .ref (h 1)) (C := RX11) (T := TX11) (N := 9) hx hb hts hin11 hown hK hP 0 rfl rfl 0 (by decide) w10 (fun _ h9 => h9) rfl dX11_laughs_1 ?_
  refine lv_iload_n hx hb dX11_laughs_4 rfl (lv_at hl 1 rfl) ?_
  refine e_callVi (As := [.int p1]) (rest := []) clE_stable hs ⟨hx, hb, hml, hown, hts⟩ (cC_X0_isOut l D h cy _ _ _ hw) (cwV 1 hts gX11_laughs_X0_isOut rfl rfl rfl (by decide +kernel) ⟨Nat.le_of_ble_eq_true rfl, Nat.le_of_ble_eq_true rfl⟩) (va_recv hK hP (ci := 0) (q0 := 1) rfl rfl) hK hP hD hS hA rfl hl.1 rfl (Nat.le_of_ble_eq_true rfl) dX11_laughs_5 ⟨Nat.zero_le _, Nat.zero_le _⟩ (fun r_1 S_2 H locs hw hP hD hS => ?_)
  obtain ⟨hc_3t, hc_3f⟩ := hw
  refine lv_if_eq (tgt := 30) hx hb dX11_laughs_8 (by decide) (fun c_3 => ?_) (fun c_3 => ?_)
  · have hw := hc_3t c_3
    clear hc_3t hc_3f
    refine lv_iconst (v := (-1)) hx hb dX11_laughs_30 (by decide) ?_
    exact W.iret (v := (-1)) hx hb hr (fun t ht hW => ⟨⟨(-1), S_2, rfl, hw, by rw [ht]; exact hP, va_K.moved hW.alike hK, hD⟩, hS.F ht⟩) hS.2.2 dX11_laughs_31
  · have hw := hc_3f c_3
    clear hc_3t hc_3f
    refine lv_iload_n hx hb dX11_laughs_11 rfl (lv_at hl 2 rfl) ?_
    refine e_callSi (As := [.int p2]) (rest := []) clE_stable hs ⟨hx, hb, hml, hown, hts⟩ (cC_X11_isFall l D h cy _ _ _ hw) (va_cwS 1 hts gX11_laughs_X11_isFall rfl rfl rfl (by decide +kernel) ⟨Nat.le_of_ble_eq_true rfl, Nat.le_of_ble_eq_true rfl⟩) hK hP hD hS hA rfl hl.1 rfl (Nat.le_of_ble_eq_true rfl) dX11_laughs_12 ⟨Nat.zero_le _, Nat.zero_le _⟩ (fun r_4 S_5 H locs hw hP hD hS => ?_)
    obtain ⟨hc_6t, hc_6f⟩ := hw
    refine lv_if_eq (tgt := 30) hx hb dX11_laughs_15 (by decide) (fun c_6 => ?_) (fun c_6 => ?_)
    · have hw := hc_6t c_6
      clear hc_6t hc_6f
      refine lv_iconst (v := (-1)) hx hb dX11_laughs_30 (by decide) ?_
      exact W.iret (v := (-1)) hx hb hr (fun t ht hW => ⟨⟨(-1), S_5, rfl, hw, by rw [ht]; exact hP, va_K.moved hW.alike hK, hD⟩, hS.F ht⟩) hS.2.2 dX11_laughs_31
    · have hw := hc_6f c_6
      clear hc_6t hc_6f
      refine lv_aload_n hx hb dX11_laughs_18 rfl (lv_at hl 0 rfl) ?_
      refine va_get (D := D) (ci := 10) (v := .ref (h 7)) (C := RX11) (T := TX11) (N := 9) hx hb hts hin11 hown hK hP 0 rfl rfl 4 (by decide) w40 (fun _ h9 => h9) rfl dX11_laughs_19 ?_
      refine lv_iload_n hx hb dX11_laughs_22 rfl (lv_at hl 1 rfl) ?_
      refine lv_iload_n hx hb dX11_laughs_23 rfl (lv_at hl 2 rfl) ?_
      refine e_callVi (As := [.int p1, .int p2]) (rest := []) clE_stable hs ⟨hx, hb, hml, hown, hts⟩ (cC_X2_oddsOfFall l D h cy _ _ _ _ hw) (cwV 2 hts gX11_laughs_X2_oddsOfFall rfl rfl rfl (by decide +kernel) ⟨Nat.le_of_ble_eq_true rfl, Nat.le_of_ble_eq_true rfl⟩) (va_recv hK hP (ci := 2) (q0 := 7) rfl rfl) hK hP hD hS hA rfl hl.1 rfl (Nat.le_of_ble_eq_true rfl) dX11_laughs_24 ⟨Nat.zero_le _, Nat.zero_le _⟩ (fun r_7 S_8 H locs hw hP hD hS => ?_)
      refine lv_goto (tgt := 31) hx hb dX11_laughs_27 (by decide) ?_
      exact W.iret (v := r_7) hx hb hr (fun t ht hW => ⟨⟨r_7, S_8, rfl, hw, by rw [ht]; exact hP, va_K.moved hW.alike hK, hD⟩, hS.F ht⟩) hS.2.2 dX11_laughs_31
def wC_X11_is (p1 : Int32) (S : CS) (post : Int32 → CS → Prop) : Prop := ((p1 = 0 → wC_X0_today S (fun r_1 S_2 => post r_1 S_2)) ∧ (p1 = 1 → wC_X0_see 40 0 S (fun r_4 S_5 => post r_4 S_5)) ∧ (¬ p1 = 0 → ¬ p1 = 1 → post (-2) S))
set_option maxHeartbeats 4000000 in
set_option maxRecDepth 100000 in
theorem cC_X11_is (l : Launch) (D : va_G) (h : Nat → Nat) (cy : Nat → ClassId) (p1 : Int32) (S : CS) (post : Int32 → CS → Prop) (hw : wC_X11_is p1 S post) : e_Mi clE l yX11_is wsX11_is { frames := 2, cells := 0, slots := 0, locals := 43 } D (tyC cy) (wC h cy) [.ref (h 0), .int p1] S post := by
  intro sz
  refine Met.ofW (cc := cX11_is) (maxL := 2) (ret := (some .int)) (by decide) rfl ?_
  intro p e s m args below meth c s₁ B hml hv
  obtain ⟨rfl, hsz, hP, hK, hD0, hs⟩ := hv
  have hx := B.exec
  have hb := B.bytes
  have hr := B.returns
  have hts := atoms_spec (ws := wsX11_is) B.pre
  have hown : s.vm.findClass RX11 = some m.cls := findClass_of_methodNamed B.named
  have hlocks := B.notSynchronized
  subst hsz
  have hD := hD0.self (sz := s.heap.size)
  generalize hAe : va_A (wC h cy S) s.heap.size = A at hD hs ⊢
  have hA : ∀ q : Nat, s.heap.size ≤ q → A q := fun q h => by rw [← hAe]; exact Or.inr h
  have hS : va_S A s.heap s.heap [] := va_S.rf
  have hin11 : ∀ w ∈ wsX110, w ∈ wsX11_is := fun _ h => List.mem_cons_of_mem _ (List.mem_append_left _ (List.mem_append_right _ h))
  have hin0 : ∀ w ∈ wsX00, w ∈ wsX11_is := fun _ h => List.mem_cons_of_mem _ (List.mem_append_right _ h)
  have w10 := hts (.fieldLink RX11 10 "ClownsMourn" "city" "LClownsMourn$City;") (List.mem_of_getElem? (i := 1) rfl)
  have hl := lv_entry ([.ref (h 0), .int p1]) (n := 2) (Nat.le_of_ble_eq_true rfl)
  rw [lg_entry_eq]
  generalize (lg_sl ([.ref (h 0), .int p1]) ++ List.replicate (2 - (lg_sl ([.ref (h 0), .int p1])).length) Slot.unset).toArray = ls at hl ⊢
  have hl : lv_has ls 2 [(0, .ref (h 0)), (1, .int p1)] := hl
  unfold wC_X11_is at hw
  clear hD0
  refine lv_iload_n hx hb dX11_is_0 rfl (lv_at hl 1 rfl) ?_
  obtain ⟨hc_3, hw⟩ := hw
  by_cases c_3 : p1 = 0
  · have hw := hc_3 c_3
    refine lv_lookup (off := 27) (tgt := 28) hx hb dX11_is_1 (by decide) (by rw [c_3]; decide) (by decide) ?_
    refine lv_aload_n hx hb dX11_is_28 rfl (lv_at hl 0 rfl) ?_
    refine va_get (D := D) (ci := 10) (v := .ref (h 1)) (C := RX11) (T := TX11) (N := 9) hx hb hts hin11 hown hK hP 0 rfl rfl 0 (by decide) w10 (fun _ h9 => h9) rfl dX11_is_29 ?_
    refine e_callVi (As := []) (rest := []) clE_stable hs ⟨hx, hb, hml, hown, hts⟩ (cC_X0_today l D h cy _ _ hw) (cwV 0 hts gX11_is_X0_today rfl rfl rfl (by decide +kernel) ⟨Nat.le_of_ble_eq_true rfl, Nat.le_of_ble_eq_true rfl⟩) (va_recv hK hP (ci := 0) (q0 := 1) rfl rfl) hK hP hD hS hA rfl hl.1 rfl (Nat.le_of_ble_eq_true rfl) dX11_is_32 ⟨Nat.zero_le _, Nat.zero_le _⟩ (fun r_1 S_2 H locs hw hP hD hS => ?_)
    exact W.iret (v := r_1) hx hb hr (fun t ht hW => ⟨⟨r_1, S_2, rfl, hw, by rw [ht]; exact hP, va_K.moved hW.alike hK, hD⟩, hS.F ht⟩) hS.2.2 dX11_is_35
  obtain ⟨hc_6, hw⟩ := hw
  by_cases c_6 : p1 = 1
  · have hw := hc_6 c_6
    refine lv_lookup (off := 35) (tgt := 36) hx hb dX11_is_1 (by decide) (by rw [c_6]; decide) (by decide) ?_
    refine lv_aload_n hx hb dX11_is_36 rfl (lv_at hl 0 rfl) ?_
    refine va_get (D := D) (ci := 10) (v := .ref (h 1)) (C := RX11) (T := TX11) (N := 9) hx hb hts hin11 hown hK hP 0 rfl rfl 0 (by decide) w10 (fun _ h9 => h9) rfl dX11_is_37 ?_
    refine lv_bipush (v := 40) hx hb dX11_is_40 (by decide) ?_
    refine lv_iconst (v := 0) hx hb dX11_is_42 (by decide) ?_
    refine e_callVi (As := [.int 40, .int 0]) (rest := []) clE_stable hs ⟨hx, hb, hml, hown, hts⟩ (cC_X0_see l D h cy _ _ _ _ hw) (cwV 2 hts gX11_is_X0_see rfl rfl rfl (by decide +kernel) ⟨Nat.le_of_ble_eq_true rfl, Nat.le_of_ble_eq_true rfl⟩) (va_recv hK hP (ci := 0) (q0 := 1) rfl rfl) hK hP hD hS hA rfl hl.1 rfl (Nat.le_of_ble_eq_true rfl) dX11_is_43 ⟨Nat.zero_le _, Nat.zero_le _⟩ (fun r_4 S_5 H locs hw hP hD hS => ?_)
    exact W.iret (v := r_4) hx hb hr (fun t ht hW => ⟨⟨r_4, S_5, rfl, hw, by rw [ht]; exact hP, va_K.moved hW.alike hK, hD⟩, hS.F ht⟩) hS.2.2 dX11_is_46
  have hw := hw c_3 c_6
  have c_3n := lv_neT c_3 (a := 0) (by decide)
  have c_6n := lv_neT c_6 (a := 1) (by decide)
  refine lv_lookup (off := 46) (tgt := 47) hx hb dX11_is_1 (by decide) (by simp [Op.lookupswitch.offset, c_3n, Ne.symm c_3n, c_6n, Ne.symm c_6n]) (by decide) ?_
  refine lv_bipush (v := (-2)) hx hb dX11_is_47 (by decide) ?_
  exact W.iret (v := (-2)) hx hb hr (fun t ht hW => ⟨⟨(-2), S, rfl, hw, by rw [ht]; exact hP, va_K.moved hW.alike hK, hD⟩, hS.F ht⟩) hS.2.2 dX11_is_49
def wC_X11_book (p1 : Int32) (p2 : Int32) (S : CS) (post : Int32 → CS → Prop) : Prop := wC_X0_see 41 0 S (fun r_1 S_2 => ((p1 = (-1) → post r_1 S_2) ∧ (¬ (p1 = (-1)) → wC_X11_within p1 0 (r_1 - 1) S_2 (fun r_4 S_5 => ((r_4 = 0 → post (-2) S_5) ∧ (¬ (r_4 = 0) → wC_X0_see 42 p1 S_5 (fun r_7 S_8 => ((p2 = 0 → post (k_shr r_7 6) S_8) ∧ (p2 = 1 → post ((k_shr r_7 3) &&& 7) S_8) ∧ (p2 = 2 → post (r_7 &&& 7) S_8) ∧ (¬ p2 = 0 → ¬ p2 = 1 → ¬ p2 = 2 → post (-2) S_8)))))))))
set_option maxHeartbeats 4000000 in
set_option maxRecDepth 100000 in
theorem cC_X11_book (l : Launch) (D : va_G) (h : Nat → Nat) (cy : Nat → ClassId) (p1 : Int32) (p2 : Int32) (S : CS) (post : Int32 → CS → Prop) (hw : wC_X11_book p1 p2 S post) : e_Mi clE l yX11_book wsX11_book { frames := 2, cells := 0, slots := 0, locals := 43 } D (tyC cy) (wC h cy) [.ref (h 0), .int p1, .int p2] S post := by
  intro sz
  refine Met.ofW (cc := cX11_book) (maxL := 5) (ret := (some .int)) (by decide) rfl ?_
  intro p e s m args below meth c s₁ B hml hv
  obtain ⟨rfl, hsz, hP, hK, hD0, hs⟩ := hv
  have hx := B.exec
  have hb := B.bytes
  have hr := B.returns
  have hts := atoms_spec (ws := wsX11_book) B.pre
  have hown : s.vm.findClass RX11 = some m.cls := findClass_of_methodNamed B.named
  have hlocks := B.notSynchronized
  subst hsz
  have hD := hD0.self (sz := s.heap.size)
  generalize hAe : va_A (wC h cy S) s.heap.size = A at hD hs ⊢
  have hA : ∀ q : Nat, s.heap.size ≤ q → A q := fun q h => by rw [← hAe]; exact Or.inr h
  have hS : va_S A s.heap s.heap [] := va_S.rf
  have hin11 : ∀ w ∈ wsX110, w ∈ wsX11_book := fun _ h => List.mem_cons_of_mem _ (List.mem_append_left _ (List.mem_append_right _ h))
  have hin0 : ∀ w ∈ wsX00, w ∈ wsX11_book := fun _ h => List.mem_cons_of_mem _ (List.mem_append_right _ h)
  have w10 := hts (.fieldLink RX11 10 "ClownsMourn" "city" "LClownsMourn$City;") (List.mem_of_getElem? (i := 1) rfl)
  have hl := lv_entry ([.ref (h 0), .int p1, .int p2]) (n := 5) (Nat.le_of_ble_eq_true rfl)
  rw [lg_entry_eq]
  generalize (lg_sl ([.ref (h 0), .int p1, .int p2]) ++ List.replicate (5 - (lg_sl ([.ref (h 0), .int p1, .int p2])).length) Slot.unset).toArray = ls at hl ⊢
  have hl : lv_has ls 5 [(0, .ref (h 0)), (1, .int p1), (2, .int p2)] := hl
  unfold wC_X11_book at hw
  clear hD0
  refine lv_aload_n hx hb dX11_book_0 rfl (lv_at hl 0 rfl) ?_
  refine va_get (D := D) (ci := 10) (v := .ref (h 1)) (C := RX11) (T := TX11) (N := 9) hx hb hts hin11 hown hK hP 0 rfl rfl 0 (by decide) w10 (fun _ h9 => h9) rfl dX11_book_1 ?_
  refine lv_bipush (v := 41) hx hb dX11_book_4 (by decide) ?_
  refine lv_iconst (v := 0) hx hb dX11_book_6 (by decide) ?_
  refine e_callVi (As := [.int 41, .int 0]) (rest := []) clE_stable hs ⟨hx, hb, hml, hown, hts⟩ (cC_X0_see l D h cy _ _ _ _ hw) (cwV 2 hts gX11_book_X0_see rfl rfl rfl (by decide +kernel) ⟨Nat.le_of_ble_eq_true rfl, Nat.le_of_ble_eq_true rfl⟩) (va_recv hK hP (ci := 0) (q0 := 1) rfl rfl) hK hP hD hS hA rfl hl.1 rfl (Nat.le_of_ble_eq_true rfl) dX11_book_7 ⟨Nat.zero_le _, Nat.zero_le _⟩ (fun r_1 S_2 H locs hw hP hD hS => ?_)
  refine lv_istore_n (lv' := [(3, .int r_1), (0, .ref (h 0)), (1, .int p1), (2, .int p2)]) hx hb dX11_book_10 rfl hl (by decide) rfl (fun ls hl => ?_)
  refine lv_iload_n hx hb dX11_book_11 rfl (lv_at hl 2 rfl) ?_
  refine lv_iconst (v := (-1)) hx hb dX11_book_12 (by decide) ?_
  obtain ⟨hc_3t, hc_3f⟩ := hw
  refine lv_icmp_ne (tgt := 18) hx hb dX11_book_13 (by decide) (fun c_3 => ?_) (fun c_3 => ?_)
  · have hw := hc_3f c_3
    clear hc_3t hc_3f
    refine lv_iload_n hx hb dX11_book_18 rfl (lv_at hl 2 rfl) ?_
    refine lv_iconst (v := 0) hx hb dX11_book_19 (by decide) ?_
    refine lv_iload_n hx hb dX11_book_20 rfl (lv_at hl 0 rfl) ?_
    refine lv_iconst (v := 1) hx hb dX11_book_21 (by decide) ?_
    refine lv_isub hx hb dX11_book_22 ?_
    refine e_callSi (As := [.int p1, .int 0, .int (r_1 - 1)]) (rest := []) clE_stable hs ⟨hx, hb, hml, hown, hts⟩ (cC_X11_within l D h cy _ _ _ _ _ hw) (va_cwS 3 hts gX11_book_X11_within rfl rfl rfl (by decide +kernel) ⟨Nat.le_of_ble_eq_true rfl, Nat.le_of_ble_eq_true rfl⟩) hK hP hD hS hA rfl hl.1 rfl (Nat.le_of_ble_eq_true rfl) dX11_book_23 ⟨Nat.zero_le _, Nat.zero_le _⟩ (fun r_4 S_5 H locs hw hP hD hS => ?_)
    obtain ⟨hc_6t, hc_6f⟩ := hw
    refine lv_if_ne (tgt := 32) hx hb dX11_book_26 (by decide) (fun c_6 => ?_) (fun c_6 => ?_)
    · have hw := hc_6f c_6
      clear hc_6t hc_6f
      refine lv_aload_n hx hb dX11_book_32 rfl (lv_at hl 1 rfl) ?_
      refine va_get (D := D) (ci := 10) (v := .ref (h 1)) (C := RX11) (T := TX11) (N := 9) hx hb hts hin11 hown hK hP 0 rfl rfl 0 (by decide) w10 (fun _ h9 => h9) rfl dX11_book_33 ?_
      refine lv_bipush (v := 42) hx hb dX11_book_36 (by decide) ?_
      refine lv_iload_n hx hb dX11_book_38 rfl (lv_at hl 2 rfl) ?_
      refine e_callVi (As := [.int 42, .int p1]) (rest := []) clE_stable hs ⟨hx, hb, hml, hown, hts⟩ (cC_X0_see l D h cy _ _ _ _ hw) (cwV 2 hts gX11_book_X0_see rfl rfl rfl (by decide +kernel) ⟨Nat.le_of_ble_eq_true rfl, Nat.le_of_ble_eq_true rfl⟩) (va_recv hK hP (ci := 0) (q0 := 1) rfl rfl) hK hP hD hS hA rfl hl.1 rfl (Nat.le_of_ble_eq_true rfl) dX11_book_39 ⟨Nat.zero_le _, Nat.zero_le _⟩ (fun r_7 S_8 H locs hw hP hD hS => ?_)
      refine lv_istore (lv' := [(4, .int r_7), (3, .int r_1), (0, .ref (h 0)), (1, .int p1), (2, .int p2)]) hx hb dX11_book_42 hl (by decide) rfl (fun ls hl => ?_)
      refine lv_iload_n hx hb dX11_book_44 rfl (lv_at hl 4 rfl) ?_
      obtain ⟨hc_9, hw⟩ := hw
      by_cases c_9 : p2 = 0
      · have hw := hc_9 c_9
        refine lv_tableIn (off := 27) (tgt := 72) hx hb dX11_book_45 (by rw [c_9]; decide) (by rw [c_9]; decide) (by rw [c_9]; rfl) (by decide) ?_
        refine lv_iload hx hb dX11_book_72 (lv_at hl 0 rfl) ?_
        refine lv_bipush (v := 6) hx hb dX11_book_74 (by decide) ?_
        refine k_ishr hx hb dX11_book_76 ?_
        exact W.iret (v := k_shr r_7 6) hx hb hr (fun t ht hW => ⟨⟨k_shr r_7 6, S_8, rfl, hw, by rw [ht]; exact hP, va_K.moved hW.alike hK, hD⟩, hS.F ht⟩) hS.2.2 dX11_book_77
      obtain ⟨hc_10, hw⟩ := hw
      by_cases c_10 : p2 = 1
      · have hw := hc_10 c_10
        refine lv_tableIn (off := 33) (tgt := 78) hx hb dX11_book_45 (by rw [c_10]; decide) (by rw [c_10]; decide) (by rw [c_10]; rfl) (by decide) ?_
        refine lv_iload hx hb dX11_book_78 (lv_at hl 0 rfl) ?_
        refine lv_iconst (v := 3) hx hb dX11_book_80 (by decide) ?_
        refine k_ishr hx hb dX11_book_81 ?_
        refine lv_bipush (v := 7) hx hb dX11_book_82 (by decide) ?_
        refine lv_iand hx hb dX11_book_84 ?_
        exact W.iret (v := (k_shr r_7 3) &&& 7) hx hb hr (fun t ht hW => ⟨⟨(k_shr r_7 3) &&& 7, S_8, rfl, hw, by rw [ht]; exact hP, va_K.moved hW.alike hK, hD⟩, hS.F ht⟩) hS.2.2 dX11_book_85
      obtain ⟨hc_11, hw⟩ := hw
      by_cases c_11 : p2 = 2
      · have hw := hc_11 c_11
        refine lv_tableIn (off := 41) (tgt := 86) hx hb dX11_book_45 (by rw [c_11]; decide) (by rw [c_11]; decide) (by rw [c_11]; rfl) (by decide) ?_
        refine lv_iload hx hb dX11_book_86 (lv_at hl 0 rfl) ?_
        refine lv_bipush (v := 7) hx hb dX11_book_88 (by decide) ?_
        refine lv_iand hx hb dX11_book_90 ?_
        exact W.iret (v := r_7 &&& 7) hx hb hr (fun t ht hW => ⟨⟨r_7 &&& 7, S_8, rfl, hw, by rw [ht]; exact hP, va_K.moved hW.alike hK, hD⟩, hS.F ht⟩) hS.2.2 dX11_book_91
      have hw := hw c_9 c_10 c_11
      have c_9n := lv_neT c_9 (a := 0) (by decide)
      have c_10n := lv_neT c_10 (a := 1) (by decide)
      have c_11n := lv_neT c_11 (a := 2) (by decide)
      refine lv_tableOut (tgt := 92) hx hb dX11_book_45 (by omega) (by decide) ?_
      refine lv_bipush (v := (-2)) hx hb dX11_book_92 (by decide) ?_
      exact W.iret (v := (-2)) hx hb hr (fun t ht hW => ⟨⟨(-2), S_8, rfl, hw, by rw [ht]; exact hP, va_K.moved hW.alike hK, hD⟩, hS.F ht⟩) hS.2.2 dX11_book_94
    · have hw := hc_6t c_6
      clear hc_6t hc_6f
      refine lv_bipush (v := (-2)) hx hb dX11_book_29 (by decide) ?_
      exact W.iret (v := (-2)) hx hb hr (fun t ht hW => ⟨⟨(-2), S_5, rfl, hw, by rw [ht]; exact hP, va_K.moved hW.alike hK, hD⟩, hS.F ht⟩) hS.2.2 dX11_book_31
  · have hw := hc_3t c_3
    clear hc_3t hc_3f
    refine lv_iload_n hx hb dX11_book_16 rfl (lv_at hl 0 rfl) ?_
    exact W.iret (v := r_1) hx hb hr (fun t ht hW => ⟨⟨r_1, S_2, rfl, hw, by rw [ht]; exact hP, va_K.moved hW.alike hK, hD⟩, hS.F ht⟩) hS.2.2 dX11_book_17
def wC_X2_endForetelling (S : CS) (post : CS → Prop) : Prop := (∀ S_1 : CS, S_1 = (cx_set_c_now S (k_copyW 74 74 (cx_g_asItIs S) (cx_c_now S))) → post S_1)
set_option maxHeartbeats 4000000 in
set_option maxRecDepth 100000 in
theorem cC_X2_endForetelling (l : Launch) (D : va_G) (h : Nat → Nat) (cy : Nat → ClassId) (S : CS) (post : CS → Prop) (hw : wC_X2_endForetelling S post) : e_Mv clE l yX2_endForetelling wsX2_endForetelling { frames := 3, cells := 0, slots := 0, locals := 105 } D (tyC cy) (wC h cy) [.ref (h 7)] S post := by
  intro sz
  refine Met.ofW (cc := cX2_endForetelling) (maxL := 1) (ret := none) (by decide) rfl ?_
  intro p e s m args below meth c s₁ B hml hv
  obtain ⟨rfl, hsz, hP, hK, hD0, hs⟩ := hv
  have hx := B.exec
  have hb := B.bytes
  have hr := B.returns
  have hts := atoms_spec (ws := wsX2_endForetelling) B.pre
  have hown : s.vm.findClass RX2 = some m.cls := findClass_of_methodNamed B.named
  have hlocks := B.notSynchronized
  subst hsz
  have hD := hD0.self (sz := s.heap.size)
  generalize hAe : va_A (wC h cy S) s.heap.size = A at hD hs ⊢
  have hA : ∀ q : Nat, s.heap.size ≤ q → A q := fun q h => by rw [← hAe]; exact Or.inr h
  have hS : va_S A s.heap s.heap [] := va_S.rf
  have hin2 : ∀ w ∈ wsX20, w ∈ wsX2_endForetelling := fun _ h => List.mem_cons_of_mem _ (List.mem_append_left _ (List.mem_append_right _ h))
  have hin0 : ∀ w ∈ wsX00, w ∈ wsX2_endForetelling := fun _ h => List.mem_cons_of_mem _ (List.mem_append_right _ h)
  have w11 := hts (.fieldLink RX2 11 "ClownsMourn$Guild" "asItIs" "[I") (List.mem_of_getElem? (i := 1) rfl)
  have w120 := hts (.fieldLink RX2 120 "ClownsMourn$City" "now" "[I") (List.mem_of_getElem? (i := 3) rfl)
  have w17 := hts (.fieldLink RX2 17 "ClownsMourn$Guild" "city" "LClownsMourn$City;") (List.mem_of_getElem? (i := 2) rfl)
  have wiX11 := hts (.initialized RX11) (List.mem_of_getElem? (i := 5) rfl)
  have wstcopyWhole := hts (.static yX11_copyWhole) (List.mem_of_getElem? (i := 4) rfl)
  have hl := lv_entry ([.ref (h 7)]) (n := 1) (Nat.le_of_ble_eq_true rfl)
  rw [lg_entry_eq]
  generalize (lg_sl ([.ref (h 7)]) ++ List.replicate (1 - (lg_sl ([.ref (h 7)])).length) Slot.unset).toArray = ls at hl ⊢
  have hl : lv_has ls 1 [(0, .ref (h 7))] := hl
  unfold wC_X2_endForetelling at hw
  clear hD0
  refine lv_aload_n hx hb dX2_endForetelling_0 rfl (lv_at hl 0 rfl) ?_
  refine va_get (D := D) (ci := 2) (v := .ref (h 42)) (C := RX2) (T := TX2) (N := 3) hx hb hts hin2 hown hK hP 7 rfl rfl 2 (by decide) w11 (fun _ h9 => h9) rfl dX2_endForetelling_1 ?_
  refine lv_aload_n hx hb dX2_endForetelling_4 rfl (lv_at hl 0 rfl) ?_
  refine va_get (D := D) (ci := 2) (v := .ref (h 1)) (C := RX2) (T := TX2) (N := 3) hx hb hts hin2 hown hK hP 7 rfl rfl 0 (by decide) w17 (fun _ h9 => h9) rfl dX2_endForetelling_5 ?_
  refine va_get (D := D) (ci := 0) (v := .ref (h 12)) (C := RX0) (T := TX0) (N := 16) hx hb hts hin0 hown hK hP 1 rfl rfl 0 (by decide) w120 (fun _ h9 => h9) rfl dX2_endForetelling_8 ?_
  refine e_callNv (As := [.ref (h 42), .ref (h 12)]) (rest := []) clE_stable hs ⟨hx, hb, hml, hown, hts⟩ (cA_copyWhole l D clE clE_stable (tyC cy) (wC h cy) S 42 30 12 0 _ _ _ _ 74 74 cx_g_asItIs cx_c_now cx_set_c_now rfl rfl (wCs_c_now h cy S) rfl rfl (by decide) (by decide) (fun S0 => S0 = (cx_set_c_now S (k_copyW 74 74 (cx_g_asItIs S) (cx_c_now S)))) rfl) ⟨va_cnB 2 hts gX2_endForetelling_X11_copyWhole_n123 rfl rfl rfl hs.1.2.2.2.2.2.2.2.2.2.2.2.2.2.2.2.2.2.2.2.1 wiX11 (by decide +kernel) ⟨Nat.le_of_ble_eq_true rfl, Nat.le_of_ble_eq_true rfl⟩, wstcopyWhole, trivial⟩ hK hP hD hS hA rfl hl.1 rfl (Nat.le_of_ble_eq_true rfl) dX2_endForetelling_11 ⟨Nat.zero_le _, Nat.zero_le _⟩ (fun S_1 H locs eS_1 hP hD hS => ?_)
  replace hw := hw S_1 eS_1
  exact W.vret hx hb hr (fun t ht hW => ⟨⟨S_1, rfl, hw, by rw [ht]; exact hP, va_K.moved hW.alike hK, hD⟩, hS.F ht⟩) hS.2.2 dX2_endForetelling_14
def wC_X2_beginForetelling (S : CS) (post : CS → Prop) : Prop := (∀ S_1 : CS, S_1 = (cx_set_g_asItIs S (k_copyW 74 74 (cx_c_now S) (cx_g_asItIs S))) → post S_1)
set_option maxHeartbeats 4000000 in
set_option maxRecDepth 100000 in
theorem cC_X2_beginForetelling (l : Launch) (D : va_G) (h : Nat → Nat) (cy : Nat → ClassId) (S : CS) (post : CS → Prop) (hw : wC_X2_beginForetelling S post) : e_Mv clE l yX2_beginForetelling wsX2_beginForetelling { frames := 3, cells := 0, slots := 0, locals := 105 } D (tyC cy) (wC h cy) [.ref (h 7)] S post := by
  intro sz
  refine Met.ofW (cc := cX2_beginForetelling) (maxL := 1) (ret := none) (by decide) rfl ?_
  intro p e s m args below meth c s₁ B hml hv
  obtain ⟨rfl, hsz, hP, hK, hD0, hs⟩ := hv
  have hx := B.exec
  have hb := B.bytes
  have hr := B.returns
  have hts := atoms_spec (ws := wsX2_beginForetelling) B.pre
  have hown : s.vm.findClass RX2 = some m.cls := findClass_of_methodNamed B.named
  have hlocks := B.notSynchronized
  subst hsz
  have hD := hD0.self (sz := s.heap.size)
  generalize hAe : va_A (wC h cy S) s.heap.size = A at hD hs ⊢
  have hA : ∀ q : Nat, s.heap.size ≤ q → A q := fun q h => by rw [← hAe]; exact Or.inr h
  have hS : va_S A s.heap s.heap [] := va_S.rf
  have hin2 : ∀ w ∈ wsX20, w ∈ wsX2_beginForetelling := fun _ h => List.mem_cons_of_mem _ (List.mem_append_left _ (List.mem_append_right _ h))
  have hin0 : ∀ w ∈ wsX00, w ∈ wsX2_beginForetelling := fun _ h => List.mem_cons_of_mem _ (List.mem_append_right _ h)
  have w11 := hts (.fieldLink RX2 11 "ClownsMourn$Guild" "asItIs" "[I") (List.mem_of_getElem? (i := 3) rfl)
  have w120 := hts (.fieldLink RX2 120 "ClownsMourn$City" "now" "[I") (List.mem_of_getElem? (i := 2) rfl)
  have w17 := hts (.fieldLink RX2 17 "ClownsMourn$Guild" "city" "LClownsMourn$City;") (List.mem_of_getElem? (i := 1) rfl)
  have wiX11 := hts (.initialized RX11) (List.mem_of_getElem? (i := 5) rfl)
  have wstcopyWhole := hts (.static yX11_copyWhole) (List.mem_of_getElem? (i := 4) rfl)
  have hl := lv_entry ([.ref (h 7)]) (n := 1) (Nat.le_of_ble_eq_true rfl)
  rw [lg_entry_eq]
  generalize (lg_sl ([.ref (h 7)]) ++ List.replicate (1 - (lg_sl ([.ref (h 7)])).length) Slot.unset).toArray = ls at hl ⊢
  have hl : lv_has ls 1 [(0, .ref (h 7))] := hl
  unfold wC_X2_beginForetelling at hw
  clear hD0
  refine lv_aload_n hx hb dX2_beginForetelling_0 rfl (lv_at hl 0 rfl) ?_
  refine va_get (D := D) (ci := 2) (v := .ref (h 1)) (C := RX2) (T := TX2) (N := 3) hx hb hts hin2 hown hK hP 7 rfl rfl 0 (by decide) w17 (fun _ h9 => h9) rfl dX2_beginForetelling_1 ?_
  refine va_get (D := D) (ci := 0) (v := .ref (h 12)) (C := RX0) (T := TX0) (N := 16) hx hb hts hin0 hown hK hP 1 rfl rfl 0 (by decide) w120 (fun _ h9 => h9) rfl dX2_beginForetelling_4 ?_
  refine lv_aload_n hx hb dX2_beginForetelling_7 rfl (lv_at hl 0 rfl) ?_
  refine va_get (D := D) (ci := 2) (v := .ref (h 42)) (C := RX2) (T := TX2) (N := 3) hx hb hts hin2 hown hK hP 7 rfl rfl 2 (by decide) w11 (fun _ h9 => h9) rfl dX2_beginForetelling_8 ?_
  refine e_callNv (As := [.ref (h 12), .ref (h 42)]) (rest := []) clE_stable hs ⟨hx, hb, hml, hown, hts⟩ (cA_copyWhole l D clE clE_stable (tyC cy) (wC h cy) S 12 0 42 30 _ _ _ _ 74 74 cx_c_now cx_g_asItIs cx_set_g_asItIs rfl rfl (wCs_g_asItIs h cy S) rfl rfl (by decide) (by decide) (fun S0 => S0 = (cx_set_g_asItIs S (k_copyW 74 74 (cx_c_now S) (cx_g_asItIs S)))) rfl) ⟨va_cnB 2 hts gX2_beginForetelling_X11_copyWhole_n123 rfl rfl rfl hs.1.2.2.2.2.2.2.2.2.2.2.2.2.2.2.2.2.2.2.2.1 wiX11 (by decide +kernel) ⟨Nat.le_of_ble_eq_true rfl, Nat.le_of_ble_eq_true rfl⟩, wstcopyWhole, trivial⟩ hK hP hD hS hA rfl hl.1 rfl (Nat.le_of_ble_eq_true rfl) dX2_beginForetelling_11 ⟨Nat.zero_le _, Nat.zero_le _⟩ (fun S_1 H locs eS_1 hP hD hS => ?_)
  replace hw := hw S_1 eS_1
  exact W.vret hx hb hr (fun t ht hW => ⟨⟨S_1, rfl, hw, by rw [ht]; exact hP, va_K.moved hW.alike hK, hD⟩, hS.F ht⟩) hS.2.2 dX2_beginForetelling_14
def wC_X11_foretold_60 (post : Int32 → CS → Prop) (x2 : Int32) (S : CS) : Prop := wC_X0_see 0 x2 S (fun r_1 S_2 => wC_X2_endForetelling S_2 (fun S_4 => post r_1 S_4))
def wC_X11_foretold_32 (post : Int32 → CS → Prop) : Nat → Int32 → Int32 → Int32 → CS → Prop
  | 0, _, _, _, _ => False
  | n + 1, x1, x2, x3, S => ((x1 ≤ x3 → wC_X11_foretold_60 post x2 S) ∧ (¬ (x1 ≤ x3) → wC_X2_canPass S (fun r_2 S_3 => ((r_2 = 0 → wC_X11_foretold_60 post x2 S_3) ∧ (¬ (r_2 = 0) → wC_X2_passes S_3 (fun S_6 => wC_X11_foretold_32 post n x1 x2 (x3 + 1) S_6))))))
def wC_X11_foretold (p1 : Int32) (p2 : Int32) (S : CS) (post : Int32 → CS → Prop) : Prop := wC_X11_within p1 1 60 S (fun r_1 S_2 => ((r_1 = 0 → post (-1) S_2) ∧ (¬ (r_1 = 0) → wC_X0_hasHouse p2 S_2 (fun r_4 S_5 => ((r_4 = 0 → post (-1) S_5) ∧ (¬ (r_4 = 0) → wC_X2_beginForetelling S_5 (fun S_8 => ∃ k_ : Nat, wC_X11_foretold_32 post k_ p1 p2 0 S_8)))))))
set_option maxHeartbeats 4000000 in
set_option maxRecDepth 100000 in
theorem cC_X11_foretold (l : Launch) (D : va_G) (h : Nat → Nat) (cy : Nat → ClassId) (p1 : Int32) (p2 : Int32) (S : CS) (post : Int32 → CS → Prop) (hw : wC_X11_foretold p1 p2 S post) : e_Mi clE l yX11_foretold wsX11_foretold { frames := 5, cells := 0, slots := 0, locals := 125 } D (tyC cy) (wC h cy) [.ref (h 0), .int p1, .int p2] S post := by
  intro sz
  refine Met.ofW (cc := cX11_foretold) (maxL := 4) (ret := (some .int)) (by decide) rfl ?_
  intro p e s m args below meth c s₁ B hml hv
  obtain ⟨rfl, hsz, hP, hK, hD0, hs⟩ := hv
  have hx := B.exec
  have hb := B.bytes
  have hr := B.returns
  have hts := atoms_spec (ws := wsX11_foretold) B.pre
  have hown : s.vm.findClass RX11 = some m.cls := findClass_of_methodNamed B.named
  have hlocks := B.notSynchronized
  subst hsz
  have hD := hD0.self (sz := s.heap.size)
  generalize hAe : va_A (wC h cy S) s.heap.size = A at hD hs ⊢
  have hA : ∀ q : Nat, s.heap.size ≤ q → A q := fun q h => by rw [← hAe]; exact Or.inr h
  have hS : va_S A s.heap s.heap [] := va_S.rf
  have hin11 : ∀ w ∈ wsX110, w ∈ wsX11_foretold := fun _ h => List.mem_cons_of_mem _ (List.mem_append_left _ (List.mem_append_left _ (List.mem_append_left _ (List.mem_append_left _ (List.mem_append_right _ h)))))
  have hin0 : ∀ w ∈ wsX00, w ∈ wsX11_foretold := fun _ h => List.mem_cons_of_mem _ (List.mem_append_left _ (List.mem_append_left _ (List.mem_append_left _ (List.mem_append_right _ h))))
  have hin2 : ∀ w ∈ wsX20, w ∈ wsX11_foretold := fun _ h => List.mem_cons_of_mem _ (List.mem_append_left _ (List.mem_append_left _ (List.mem_append_right _ h)))
  have hin3 : ∀ w ∈ wsX30, w ∈ wsX11_foretold := fun _ h => List.mem_cons_of_mem _ (List.mem_append_left _ (List.mem_append_right _ h))
  have hin9 : ∀ w ∈ wsX90, w ∈ wsX11_foretold := fun _ h => List.mem_cons_of_mem _ (List.mem_append_right _ h)
  have w10 := hts (.fieldLink RX11 10 "ClownsMourn" "city" "LClownsMourn$City;") (List.mem_of_getElem? (i := 1) rfl)
  have w40 := hts (.fieldLink RX11 40 "ClownsMourn" "guild" "LClownsMourn$Guild;") (List.mem_of_getElem? (i := 2) rfl)
  have hl := lv_entry ([.ref (h 0), .int p1, .int p2]) (n := 4) (Nat.le_of_ble_eq_true rfl)
  rw [lg_entry_eq]
  generalize (lg_sl ([.ref (h 0), .int p1, .int p2]) ++ List.replicate (4 - (lg_sl ([.ref (h 0), .int p1, .int p2])).length) Slot.unset).toArray = ls at hl ⊢
  have hl : lv_has ls 4 [(0, .ref (h 0)), (1, .int p1), (2, .int p2)] := hl
  unfold wC_X11_foretold at hw
  clear hD0
  have J_60 : ∀ (x2 : Int32) (S : CS) (H : Heap) (locs : List Loc) (ls : Array Slot), wC_X11_foretold_60 post x2 S → va_P D vwCl (wC h cy S) H → va_D A (wC h cy S) → va_S A s.heap H locs → lv_has ls 4 [(0, .ref (h 0)), (2, .int x2)] → W p l e (headSpec wsX11_foretold { frames := 5, cells := 0, slots := 0, locals := 125 }).room s m (([.ref (h 0), .int p1, .int p2] : List Value).toArray) below meth c H locs 0 0 (MQ below (va_Qi post (k_Post D (tyC cy) (wC h cy) A) A) (([.ref (h 0), .int p1, .int p2] : List Value).toArray) s 0 0 A) (F0 m 60 ls []) := by
    intro x2 S H locs ls hw hP hD hS hl
    unfold wC_X11_foretold_60 at hw
    refine lv_aload_n hx hb dX11_foretold_60 rfl (lv_at hl 0 rfl) ?_
    refine va_get (D := D) (ci := 10) (v := .ref (h 1)) (C := RX11) (T := TX11) (N := 9) hx hb hts hin11 hown hK hP 0 rfl rfl 0 (by decide) w10 (fun _ h9 => h9) rfl dX11_foretold_61 ?_
    refine lv_iconst (v := 0) hx hb dX11_foretold_64 (by decide) ?_
    refine lv_iload_n hx hb dX11_foretold_65 rfl (lv_at hl 1 rfl) ?_
    refine e_callVi (As := [.int 0, .int x2]) (rest := []) clE_stable hs ⟨hx, hb, hml, hown, hts⟩ (cC_X0_see l D h cy _ _ _ _ hw) (cwV 2 hts gX11_foretold_X0_see rfl rfl rfl (by decide +kernel) ⟨Nat.le_of_ble_eq_true rfl, Nat.le_of_ble_eq_true rfl⟩) (va_recv hK hP (ci := 0) (q0 := 1) rfl rfl) hK hP hD hS hA rfl hl.1 rfl (Nat.le_of_ble_eq_true rfl) dX11_foretold_66 ⟨Nat.zero_le _, Nat.zero_le _⟩ (fun r_1 S_2 H locs hw hP hD hS => ?_)
    refine lv_istore_n (lv' := [(3, .int r_1), (0, .ref (h 0)), (2, .int x2)]) hx hb dX11_foretold_69 rfl hl (by decide) rfl (fun ls hl => ?_)
    refine lv_aload_n hx hb dX11_foretold_70 rfl (lv_at hl 1 rfl) ?_
    refine va_get (D := D) (ci := 10) (v := .ref (h 7)) (C := RX11) (T := TX11) (N := 9) hx hb hts hin11 hown hK hP 0 rfl rfl 4 (by decide) w40 (fun _ h9 => h9) rfl dX11_foretold_71 ?_
    refine e_callVv (As := []) (rest := []) clE_stable hs ⟨hx, hb, hml, hown, hts⟩ (cC_X2_endForetelling l D h cy _ _ hw) (cwV 0 hts gX11_foretold_X2_endForetelling rfl rfl rfl (by decide +kernel) ⟨Nat.le_of_ble_eq_true rfl, Nat.le_of_ble_eq_true rfl⟩) (va_recv hK hP (ci := 2) (q0 := 7) rfl rfl) hK hP hD hS hA rfl hl.1 rfl (Nat.le_of_ble_eq_true rfl) dX11_foretold_74 ⟨Nat.zero_le _, Nat.zero_le _⟩ (fun S_4 H locs hw hP hD hS => ?_)
    refine lv_iload_n hx hb dX11_foretold_77 rfl (lv_at hl 0 rfl) ?_
    exact W.iret (v := r_1) hx hb hr (fun t ht hW => ⟨⟨r_1, S_4, rfl, hw, by rw [ht]; exact hP, va_K.moved hW.alike hK, hD⟩, hS.F ht⟩) hS.2.2 dX11_foretold_78
  have L_32 : ∀ (n32 : Nat) (x1 : Int32) (x2 : Int32) (x3 : Int32) (S : CS) (H : Heap) (locs : List Loc) (ls : Array Slot), wC_X11_foretold_32 post n32 x1 x2 x3 S → va_P D vwCl (wC h cy S) H → va_D A (wC h cy S) → va_S A s.heap H locs → lv_has ls 4 [(0, .ref (h 0)), (1, .int x1), (2, .int x2), (3, .int x3)] → W p l e (headSpec wsX11_foretold { frames := 5, cells := 0, slots := 0, locals := 125 }).room s m (([.ref (h 0), .int p1, .int p2] : List Value).toArray) below meth c H locs 0 0 (MQ below (va_Qi post (k_Post D (tyC cy) (wC h cy) A) A) (([.ref (h 0), .int p1, .int p2] : List Value).toArray) s 0 0 A) (F0 m 32 ls []) := by
    intro n32
    induction n32 with
    | zero => intro x1 x2 x3 S H locs ls hw; exact False.elim hw
    | succ n32 ih_32 =>
      intro x1 x2 x3 S H locs ls hw hP hD hS hl
      unfold wC_X11_foretold_32 at hw
      refine lv_iload_n hx hb dX11_foretold_32 rfl (lv_at hl 3 rfl) ?_
      refine lv_iload_n hx hb dX11_foretold_33 rfl (lv_at hl 1 rfl) ?_
      obtain ⟨hc_5t, hc_5f⟩ := hw
      refine lv_icmp_ge (tgt := 60) hx hb dX11_foretold_34 (by decide) (fun c_5 => ?_) (fun c_5 => ?_)
      · have hw := hc_5t c_5
        clear hc_5t hc_5f
        exact J_60 x2 S _ _ _ hw hP hD hS (lv_sub hl [0, 2] rfl)
      · have hw := hc_5f c_5
        clear hc_5t hc_5f
        refine lv_aload_n hx hb dX11_foretold_37 rfl (lv_at hl 0 rfl) ?_
        refine va_get (D := D) (ci := 10) (v := .ref (h 7)) (C := RX11) (T := TX11) (N := 9) hx hb hts hin11 hown hK hP 0 rfl rfl 4 (by decide) w40 (fun _ h9 => h9) rfl dX11_foretold_38 ?_
        refine e_callVi (As := []) (rest := []) clE_stable hs ⟨hx, hb, hml, hown, hts⟩ (cC_X2_canPass l D h cy _ _ hw) (cwV 0 hts gX11_foretold_X2_canPass rfl rfl rfl (by decide +kernel) ⟨Nat.le_of_ble_eq_true rfl, Nat.le_of_ble_eq_true rfl⟩) (va_recv hK hP (ci := 2) (q0 := 7) rfl rfl) hK hP hD hS hA rfl hl.1 rfl (Nat.le_of_ble_eq_true rfl) dX11_foretold_41 ⟨Nat.zero_le _, Nat.zero_le _⟩ (fun r_6 S_7 H locs hw hP hD hS => ?_)
        obtain ⟨hc_8t, hc_8f⟩ := hw
        refine lv_if_eq (tgt := 60) hx hb dX11_foretold_44 (by decide) (fun c_8 => ?_) (fun c_8 => ?_)
        · have hw := hc_8t c_8
          clear hc_8t hc_8f
          exact J_60 x2 S_7 _ _ _ hw hP hD hS (lv_sub hl [0, 2] rfl)
        · have hw := hc_8f c_8
          clear hc_8t hc_8f
          refine lv_aload_n hx hb dX11_foretold_47 rfl (lv_at hl 0 rfl) ?_
          refine va_get (D := D) (ci := 10) (v := .ref (h 7)) (C := RX11) (T := TX11) (N := 9) hx hb hts hin11 hown hK hP 0 rfl rfl 4 (by decide) w40 (fun _ h9 => h9) rfl dX11_foretold_48 ?_
          refine e_callVv (As := []) (rest := []) clE_stable hs ⟨hx, hb, hml, hown, hts⟩ (cC_X2_passes l D h cy _ _ hw) (cwV 0 hts gX11_foretold_X2_passes rfl rfl rfl (by decide +kernel) ⟨Nat.le_of_ble_eq_true rfl, Nat.le_of_ble_eq_true rfl⟩) (va_recv hK hP (ci := 2) (q0 := 7) rfl rfl) hK hP hD hS hA rfl hl.1 rfl (Nat.le_of_ble_eq_true rfl) dX11_foretold_51 ⟨Nat.zero_le _, Nat.zero_le _⟩ (fun S_10 H locs hw hP hD hS => ?_)
          refine lv_iinc (v := x3 + 1) (lv' := [(3, .int (x3 + 1)), (0, .ref (h 0)), (1, .int x1), (2, .int x2)]) hx hb dX11_foretold_54 hl (k := 3) rfl (k_inc (by decide)) (by decide) rfl (fun ls hl => ?_)
          refine lv_goto (tgt := 32) hx hb dX11_foretold_57 (by decide) ?_
          exact ih_32 x1 x2 (x3 + 1) S_10 _ _ _ hw hP hD hS (lv_sub hl [1, 2, 3, 0] rfl)
  refine lv_iload_n hx hb dX11_foretold_0 rfl (lv_at hl 1 rfl) ?_
  refine lv_iconst (v := 1) hx hb dX11_foretold_1 (by decide) ?_
  refine lv_bipush (v := 60) hx hb dX11_foretold_2 (by decide) ?_
  refine e_callSi (As := [.int p1, .int 1, .int 60]) (rest := []) clE_stable hs ⟨hx, hb, hml, hown, hts⟩ (cC_X11_within l D h cy _ _ _ _ _ hw) (va_cwS 3 hts gX11_foretold_X11_within rfl rfl rfl (by decide +kernel) ⟨Nat.le_of_ble_eq_true rfl, Nat.le_of_ble_eq_true rfl⟩) hK hP hD hS hA rfl hl.1 rfl (Nat.le_of_ble_eq_true rfl) dX11_foretold_4 ⟨Nat.zero_le _, Nat.zero_le _⟩ (fun r_11 S_12 H locs hw hP hD hS => ?_)
  obtain ⟨hc_13t, hc_13f⟩ := hw
  refine lv_if_eq (tgt := 21) hx hb dX11_foretold_7 (by decide) (fun c_13 => ?_) (fun c_13 => ?_)
  · have hw := hc_13t c_13
    clear hc_13t hc_13f
    refine lv_iconst (v := (-1)) hx hb dX11_foretold_21 (by decide) ?_
    exact W.iret (v := (-1)) hx hb hr (fun t ht hW => ⟨⟨(-1), S_12, rfl, hw, by rw [ht]; exact hP, va_K.moved hW.alike hK, hD⟩, hS.F ht⟩) hS.2.2 dX11_foretold_22
  · have hw := hc_13f c_13
    clear hc_13t hc_13f
    refine lv_aload_n hx hb dX11_foretold_10 rfl (lv_at hl 0 rfl) ?_
    refine va_get (D := D) (ci := 10) (v := .ref (h 1)) (C := RX11) (T := TX11) (N := 9) hx hb hts hin11 hown hK hP 0 rfl rfl 0 (by decide) w10 (fun _ h9 => h9) rfl dX11_foretold_11 ?_
    refine lv_iload_n hx hb dX11_foretold_14 rfl (lv_at hl 2 rfl) ?_
    refine e_callVi (As := [.int p2]) (rest := []) clE_stable hs ⟨hx, hb, hml, hown, hts⟩ (cC_X0_hasHouse l D h cy _ _ _ hw) (cwV 1 hts gX11_foretold_X0_hasHouse rfl rfl rfl (by decide +kernel) ⟨Nat.le_of_ble_eq_true rfl, Nat.le_of_ble_eq_true rfl⟩) (va_recv hK hP (ci := 0) (q0 := 1) rfl rfl) hK hP hD hS hA rfl hl.1 rfl (Nat.le_of_ble_eq_true rfl) dX11_foretold_15 ⟨Nat.zero_le _, Nat.zero_le _⟩ (fun r_14 S_15 H locs hw hP hD hS => ?_)
    obtain ⟨hc_16t, hc_16f⟩ := hw
    refine lv_if_ne (tgt := 23) hx hb dX11_foretold_18 (by decide) (fun c_16 => ?_) (fun c_16 => ?_)
    · have hw := hc_16f c_16
      clear hc_16t hc_16f
      refine lv_aload_n hx hb dX11_foretold_23 rfl (lv_at hl 0 rfl) ?_
      refine va_get (D := D) (ci := 10) (v := .ref (h 7)) (C := RX11) (T := TX11) (N := 9) hx hb hts hin11 hown hK hP 0 rfl rfl 4 (by decide) w40 (fun _ h9 => h9) rfl dX11_foretold_24 ?_
      refine e_callVv (As := []) (rest := []) clE_stable hs ⟨hx, hb, hml, hown, hts⟩ (cC_X2_beginForetelling l D h cy _ _ hw) (cwV 0 hts gX11_foretold_X2_beginForetelling rfl rfl rfl (by decide +kernel) ⟨Nat.le_of_ble_eq_true rfl, Nat.le_of_ble_eq_true rfl⟩) (va_recv hK hP (ci := 2) (q0 := 7) rfl rfl) hK hP hD hS hA rfl hl.1 rfl (Nat.le_of_ble_eq_true rfl) dX11_foretold_27 ⟨Nat.zero_le _, Nat.zero_le _⟩ (fun S_18 H locs hw hP hD hS => ?_)
      refine lv_iconst (v := 0) hx hb dX11_foretold_30 (by decide) ?_
      refine lv_istore_n (lv' := [(3, .int 0), (0, .ref (h 0)), (1, .int p1), (2, .int p2)]) hx hb dX11_foretold_31 rfl hl (by decide) rfl (fun ls hl => ?_)
      obtain ⟨n_32, hw⟩ := hw
      exact L_32 n_32 p1 p2 0 S_18 _ _ _ hw hP hD hS (lv_sub hl [1, 2, 3, 0] rfl)
    · have hw := hc_16t c_16
      clear hc_16t hc_16f
      refine lv_iconst (v := (-1)) hx hb dX11_foretold_21 (by decide) ?_
      exact W.iret (v := (-1)) hx hb hr (fun t ht hW => ⟨⟨(-1), S_15, rfl, hw, by rw [ht]; exact hP, va_K.moved hW.alike hK, hD⟩, hS.F ht⟩) hS.2.2 dX11_foretold_22
def wC_X0_allGrief_4 (post : Int32 → CS → Prop) : Nat → Int32 → Int32 → CS → Prop
  | 0, _, _, _ => False
  | n + 1, x1, x2, S => wC_X0_houseCount S (fun r_1 S_2 => ((r_1 ≤ x2 → post x1 S_2) ∧ (¬ (r_1 ≤ x2) → wC_X0_see 0 x2 S_2 (fun r_4 S_5 => wC_X0_allGrief_4 post n (x1 + r_4) (x2 + 1) S_5))))
def wC_X0_allGrief (S : CS) (post : Int32 → CS → Prop) : Prop := ∃ k_ : Nat, wC_X0_allGrief_4 post k_ 0 0 S
set_option maxHeartbeats 4000000 in
set_option maxRecDepth 100000 in
theorem cC_X0_allGrief (l : Launch) (D : va_G) (h : Nat → Nat) (cy : Nat → ClassId) (S : CS) (post : Int32 → CS → Prop) (hw : wC_X0_allGrief S post) : e_Mi clE l yX0_allGrief wsX0_allGrief { frames := 2, cells := 0, slots := 0, locals := 43 } D (tyC cy) (wC h cy) [.ref (h 1)] S post := by
  intro sz
  refine Met.ofW (cc := cX0_allGrief) (maxL := 3) (ret := (some .int)) (by decide) rfl ?_
  intro p e s m args below meth c s₁ B hml hv
  obtain ⟨rfl, hsz, hP, hK, hD0, hs⟩ := hv
  have hx := B.exec
  have hb := B.bytes
  have hr := B.returns
  have hts := atoms_spec (ws := wsX0_allGrief) B.pre
  have hown : s.vm.findClass RX0 = some m.cls := findClass_of_methodNamed B.named
  have hlocks := B.notSynchronized
  subst hsz
  have hD := hD0.self (sz := s.heap.size)
  generalize hAe : va_A (wC h cy S) s.heap.size = A at hD hs ⊢
  have hA : ∀ q : Nat, s.heap.size ≤ q → A q := fun q h => by rw [← hAe]; exact Or.inr h
  have hS : va_S A s.heap s.heap [] := va_S.rf
  have hl := lv_entry ([.ref (h 1)]) (n := 3) (Nat.le_of_ble_eq_true rfl)
  rw [lg_entry_eq]
  generalize (lg_sl ([.ref (h 1)]) ++ List.replicate (3 - (lg_sl ([.ref (h 1)])).length) Slot.unset).toArray = ls at hl ⊢
  have hl : lv_has ls 3 [(0, .ref (h 1))] := hl
  unfold wC_X0_allGrief at hw
  clear hD0
  have L_4 : ∀ (n4 : Nat) (x1 : Int32) (x2 : Int32) (S : CS) (H : Heap) (locs : List Loc) (ls : Array Slot), wC_X0_allGrief_4 post n4 x1 x2 S → va_P D vwCl (wC h cy S) H → va_D A (wC h cy S) → va_S A s.heap H locs → lv_has ls 3 [(0, .ref (h 1)), (1, .int x1), (2, .int x2)] → W p l e (headSpec wsX0_allGrief { frames := 2, cells := 0, slots := 0, locals := 43 }).room s m (([.ref (h 1)] : List Value).toArray) below meth c H locs 0 0 (MQ below (va_Qi post (k_Post D (tyC cy) (wC h cy) A) A) (([.ref (h 1)] : List Value).toArray) s 0 0 A) (F0 m 4 ls []) := by
    intro n4
    induction n4 with
    | zero => intro x1 x2 S H locs ls hw; exact False.elim hw
    | succ n4 ih_4 =>
      intro x1 x2 S H locs ls hw hP hD hS hl
      unfold wC_X0_allGrief_4 at hw
      refine lv_iload_n hx hb dX0_allGrief_4 rfl (lv_at hl 2 rfl) ?_
      refine lv_aload_n hx hb dX0_allGrief_5 rfl (lv_at hl 0 rfl) ?_
      refine e_callVi (As := []) (rest := [.int x2]) clE_stable hs ⟨hx, hb, hml, hown, hts⟩ (cC_X0_houseCount l D h cy _ _ hw) (cwV 0 hts gX0_allGrief_X0_houseCount rfl rfl rfl (by decide +kernel) ⟨Nat.le_of_ble_eq_true rfl, Nat.le_of_ble_eq_true rfl⟩) (va_recv hK hP (ci := 0) (q0 := 1) rfl rfl) hK hP hD hS hA rfl hl.1 rfl (Nat.le_of_ble_eq_true rfl) dX0_allGrief_6 ⟨Nat.zero_le _, Nat.zero_le _⟩ (fun r_1 S_2 H locs hw hP hD hS => ?_)
      obtain ⟨hc_3t, hc_3f⟩ := hw
      refine lv_icmp_ge (tgt := 27) hx hb dX0_allGrief_9 (by decide) (fun c_3 => ?_) (fun c_3 => ?_)
      · have hw := hc_3t c_3
        clear hc_3t hc_3f
        refine lv_iload_n hx hb dX0_allGrief_27 rfl (lv_at hl 1 rfl) ?_
        exact W.iret (v := x1) hx hb hr (fun t ht hW => ⟨⟨x1, S_2, rfl, hw, by rw [ht]; exact hP, va_K.moved hW.alike hK, hD⟩, hS.F ht⟩) hS.2.2 dX0_allGrief_28
      · have hw := hc_3f c_3
        clear hc_3t hc_3f
        refine lv_iload_n hx hb dX0_allGrief_12 rfl (lv_at hl 1 rfl) ?_
        refine lv_aload_n hx hb dX0_allGrief_13 rfl (lv_at hl 0 rfl) ?_
        refine lv_iconst (v := 0) hx hb dX0_allGrief_14 (by decide) ?_
        refine lv_iload_n hx hb dX0_allGrief_15 rfl (lv_at hl 2 rfl) ?_
        refine e_callVi (As := [.int 0, .int x2]) (rest := [.int x1]) clE_stable hs ⟨hx, hb, hml, hown, hts⟩ (cC_X0_see l D h cy _ _ _ _ hw) (cwV 2 hts gX0_allGrief_X0_see rfl rfl rfl (by decide +kernel) ⟨Nat.le_of_ble_eq_true rfl, Nat.le_of_ble_eq_true rfl⟩) (va_recv hK hP (ci := 0) (q0 := 1) rfl rfl) hK hP hD hS hA rfl hl.1 rfl (Nat.le_of_ble_eq_true rfl) dX0_allGrief_16 ⟨Nat.zero_le _, Nat.zero_le _⟩ (fun r_4 S_5 H locs hw hP hD hS => ?_)
        refine lv_iadd hx hb dX0_allGrief_19 ?_
        refine lv_istore_n (lv' := [(1, .int (x1 + r_4)), (0, .ref (h 1)), (2, .int x2)]) hx hb dX0_allGrief_20 rfl hl (by decide) rfl (fun ls hl => ?_)
        refine lv_iinc (v := x2 + 1) (lv' := [(2, .int (x2 + 1)), (1, .int (x1 + r_4)), (0, .ref (h 1))]) hx hb dX0_allGrief_21 hl (k := 2) rfl (k_inc (by decide)) (by decide) rfl (fun ls hl => ?_)
        refine lv_goto (tgt := 4) hx hb dX0_allGrief_24 (by decide) ?_
        exact ih_4 (x1 + r_4) (x2 + 1) S_5 _ _ _ hw hP hD hS (lv_sub hl [2, 1, 0] rfl)
  refine lv_iconst (v := 0) hx hb dX0_allGrief_0 (by decide) ?_
  refine lv_istore_n (lv' := [(1, .int 0), (0, .ref (h 1))]) hx hb dX0_allGrief_1 rfl hl (by decide) rfl (fun ls hl => ?_)
  refine lv_iconst (v := 0) hx hb dX0_allGrief_2 (by decide) ?_
  refine lv_istore_n (lv' := [(2, .int 0), (1, .int 0), (0, .ref (h 1))]) hx hb dX0_allGrief_3 rfl hl (by decide) rfl (fun ls hl => ?_)
  obtain ⟨n_4, hw⟩ := hw
  exact L_4 n_4 0 0 S _ _ _ hw hP hD hS (lv_sub hl [2, 1, 0] rfl)
def wC_X11_heavy_62 (post : Int32 → CS → Prop) (x1 : Int32) (x2 : Int32) (S : CS) : Prop := wC_X0_allGrief S (fun r_1 S_2 => ((r_1 < x1 → wC_X2_endForetelling S_2 (fun S_5 => post (-1) S_5)) ∧ (¬ (r_1 < x1) → wC_X2_endForetelling S_2 (fun S_7 => post x2 S_7))))
def wC_X11_heavy_22 (post : Int32 → CS → Prop) : Nat → Int32 → Int32 → CS → Prop
  | 0, _, _, _ => False
  | n + 1, x1, x2, S => ((60 ≤ x2 → wC_X11_heavy_62 post x1 x2 S) ∧ (¬ (60 ≤ x2) → wC_X2_canPass S (fun r_2 S_3 => ((r_2 = 0 → wC_X11_heavy_62 post x1 x2 S_3) ∧ (¬ (r_2 = 0) → wC_X0_allGrief S_3 (fun r_5 S_6 => ((x1 ≤ r_5 → wC_X11_heavy_62 post x1 x2 S_6) ∧ (¬ (x1 ≤ r_5) → wC_X2_passes S_6 (fun S_9 => wC_X11_heavy_22 post n x1 (x2 + 1) S_9)))))))))
def wC_X11_heavy (p1 : Int32) (S : CS) (post : Int32 → CS → Prop) : Prop := wC_X11_within p1 0 600 S (fun r_1 S_2 => ((r_1 = 0 → post (-1) S_2) ∧ (¬ (r_1 = 0) → wC_X2_beginForetelling S_2 (fun S_5 => ∃ k_ : Nat, wC_X11_heavy_22 post k_ p1 0 S_5))))
set_option maxHeartbeats 4000000 in
set_option maxRecDepth 100000 in
theorem cC_X11_heavy (l : Launch) (D : va_G) (h : Nat → Nat) (cy : Nat → ClassId) (p1 : Int32) (S : CS) (post : Int32 → CS → Prop) (hw : wC_X11_heavy p1 S post) : e_Mi clE l yX11_heavy wsX11_heavy { frames := 5, cells := 0, slots := 0, locals := 125 } D (tyC cy) (wC h cy) [.ref (h 0), .int p1] S post := by
  intro sz
  refine Met.ofW (cc := cX11_heavy) (maxL := 4) (ret := (some .int)) (by decide) rfl ?_
  intro p e s m args below meth c s₁ B hml hv
  obtain ⟨rfl, hsz, hP, hK, hD0, hs⟩ := hv
  have hx := B.exec
  have hb := B.bytes
  have hr := B.returns
  have hts := atoms_spec (ws := wsX11_heavy) B.pre
  have hown : s.vm.findClass RX11 = some m.cls := findClass_of_methodNamed B.named
  have hlocks := B.notSynchronized
  subst hsz
  have hD := hD0.self (sz := s.heap.size)
  generalize hAe : va_A (wC h cy S) s.heap.size = A at hD hs ⊢
  have hA : ∀ q : Nat, s.heap.size ≤ q → A q := fun q h => by rw [← hAe]; exact Or.inr h
  have hS : va_S A s.heap s.heap [] := va_S.rf
  have hin11 : ∀ w ∈ wsX110, w ∈ wsX11_heavy := fun _ h => List.mem_cons_of_mem _ (List.mem_append_left _ (List.mem_append_left _ (List.mem_append_left _ (List.mem_append_left _ (List.mem_append_right _ h)))))
  have hin2 : ∀ w ∈ wsX20, w ∈ wsX11_heavy := fun _ h => List.mem_cons_of_mem _ (List.mem_append_left _ (List.mem_append_left _ (List.mem_append_left _ (List.mem_append_right _ h))))
  have hin0 : ∀ w ∈ wsX00, w ∈ wsX11_heavy := fun _ h => List.mem_cons_of_mem _ (List.mem_append_left _ (List.mem_append_left _ (List.mem_append_right _ h)))
  have hin3 : ∀ w ∈ wsX30, w ∈ wsX11_heavy := fun _ h => List.mem_cons_of_mem _ (List.mem_append_left _ (List.mem_append_right _ h))
  have hin9 : ∀ w ∈ wsX90, w ∈ wsX11_heavy := fun _ h => List.mem_cons_of_mem _ (List.mem_append_right _ h)
  have w10 := hts (.fieldLink RX11 10 "ClownsMourn" "city" "LClownsMourn$City;") (List.mem_of_getElem? (i := 2) rfl)
  have w40 := hts (.fieldLink RX11 40 "ClownsMourn" "guild" "LClownsMourn$Guild;") (List.mem_of_getElem? (i := 1) rfl)
  have hl := lv_entry ([.ref (h 0), .int p1]) (n := 4) (Nat.le_of_ble_eq_true rfl)
  rw [lg_entry_eq]
  generalize (lg_sl ([.ref (h 0), .int p1]) ++ List.replicate (4 - (lg_sl ([.ref (h 0), .int p1])).length) Slot.unset).toArray = ls at hl ⊢
  have hl : lv_has ls 4 [(0, .ref (h 0)), (1, .int p1)] := hl
  unfold wC_X11_heavy at hw
  clear hD0
  have J_62 : ∀ (x1 : Int32) (x2 : Int32) (S : CS) (H : Heap) (locs : List Loc) (ls : Array Slot), wC_X11_heavy_62 post x1 x2 S → va_P D vwCl (wC h cy S) H → va_D A (wC h cy S) → va_S A s.heap H locs → lv_has ls 4 [(0, .ref (h 0)), (1, .int x1), (2, .int x2)] → W p l e (headSpec wsX11_heavy { frames := 5, cells := 0, slots := 0, locals := 125 }).room s m (([.ref (h 0), .int p1] : List Value).toArray) below meth c H locs 0 0 (MQ below (va_Qi post (k_Post D (tyC cy) (wC h cy) A) A) (([.ref (h 0), .int p1] : List Value).toArray) s 0 0 A) (F0 m 62 ls []) := by
    intro x1 x2 S H locs ls hw hP hD hS hl
    unfold wC_X11_heavy_62 at hw
    refine lv_aload_n hx hb dX11_heavy_62 rfl (lv_at hl 0 rfl) ?_
    refine va_get (D := D) (ci := 10) (v := .ref (h 1)) (C := RX11) (T := TX11) (N := 9) hx hb hts hin11 hown hK hP 0 rfl rfl 0 (by decide) w10 (fun _ h9 => h9) rfl dX11_heavy_63 ?_
    refine e_callVi (As := []) (rest := []) clE_stable hs ⟨hx, hb, hml, hown, hts⟩ (cC_X0_allGrief l D h cy _ _ hw) (cwV 0 hts gX11_heavy_X0_allGrief rfl rfl rfl (by decide +kernel) ⟨Nat.le_of_ble_eq_true rfl, Nat.le_of_ble_eq_true rfl⟩) (va_recv hK hP (ci := 0) (q0 := 1) rfl rfl) hK hP hD hS hA rfl hl.1 rfl (Nat.le_of_ble_eq_true rfl) dX11_heavy_66 ⟨Nat.zero_le _, Nat.zero_le _⟩ (fun r_1 S_2 H locs hw hP hD hS => ?_)
    refine lv_iload_n hx hb dX11_heavy_69 rfl (lv_at hl 1 rfl) ?_
    obtain ⟨hc_3t, hc_3f⟩ := hw
    refine lv_icmp_lt (tgt := 77) hx hb dX11_heavy_70 (by decide) (fun c_3 => ?_) (fun c_3 => ?_)
    · have hw := hc_3t c_3
      clear hc_3t hc_3f
      refine lv_iconst (v := (-1)) hx hb dX11_heavy_77 (by decide) ?_
      refine lv_istore_n (lv' := [(3, .int (-1)), (0, .ref (h 0)), (1, .int x1), (2, .int x2)]) hx hb dX11_heavy_78 rfl hl (by decide) rfl (fun ls hl => ?_)
      refine lv_aload_n hx hb dX11_heavy_79 rfl (lv_at hl 1 rfl) ?_
      refine va_get (D := D) (ci := 10) (v := .ref (h 7)) (C := RX11) (T := TX11) (N := 9) hx hb hts hin11 hown hK hP 0 rfl rfl 4 (by decide) w40 (fun _ h9 => h9) rfl dX11_heavy_80 ?_
      refine e_callVv (As := []) (rest := []) clE_stable hs ⟨hx, hb, hml, hown, hts⟩ (cC_X2_endForetelling l D h cy _ _ hw) (cwV 0 hts gX11_heavy_X2_endForetelling rfl rfl rfl (by decide +kernel) ⟨Nat.le_of_ble_eq_true rfl, Nat.le_of_ble_eq_true rfl⟩) (va_recv hK hP (ci := 2) (q0 := 7) rfl rfl) hK hP hD hS hA rfl hl.1 rfl (Nat.le_of_ble_eq_true rfl) dX11_heavy_83 ⟨Nat.zero_le _, Nat.zero_le _⟩ (fun S_5 H locs hw hP hD hS => ?_)
      refine lv_iload_n hx hb dX11_heavy_86 rfl (lv_at hl 0 rfl) ?_
      exact W.iret (v := (-1)) hx hb hr (fun t ht hW => ⟨⟨(-1), S_5, rfl, hw, by rw [ht]; exact hP, va_K.moved hW.alike hK, hD⟩, hS.F ht⟩) hS.2.2 dX11_heavy_87
    · have hw := hc_3f c_3
      clear hc_3t hc_3f
      refine lv_iload_n hx hb dX11_heavy_73 rfl (lv_at hl 2 rfl) ?_
      refine lv_goto (tgt := 78) hx hb dX11_heavy_74 (by decide) ?_
      refine lv_istore_n (lv' := [(3, .int x2), (0, .ref (h 0)), (1, .int x1), (2, .int x2)]) hx hb dX11_heavy_78 rfl hl (by decide) rfl (fun ls hl => ?_)
      refine lv_aload_n hx hb dX11_heavy_79 rfl (lv_at hl 1 rfl) ?_
      refine va_get (D := D) (ci := 10) (v := .ref (h 7)) (C := RX11) (T := TX11) (N := 9) hx hb hts hin11 hown hK hP 0 rfl rfl 4 (by decide) w40 (fun _ h9 => h9) rfl dX11_heavy_80 ?_
      refine e_callVv (As := []) (rest := []) clE_stable hs ⟨hx, hb, hml, hown, hts⟩ (cC_X2_endForetelling l D h cy _ _ hw) (cwV 0 hts gX11_heavy_X2_endForetelling rfl rfl rfl (by decide +kernel) ⟨Nat.le_of_ble_eq_true rfl, Nat.le_of_ble_eq_true rfl⟩) (va_recv hK hP (ci := 2) (q0 := 7) rfl rfl) hK hP hD hS hA rfl hl.1 rfl (Nat.le_of_ble_eq_true rfl) dX11_heavy_83 ⟨Nat.zero_le _, Nat.zero_le _⟩ (fun S_7 H locs hw hP hD hS => ?_)
      refine lv_iload_n hx hb dX11_heavy_86 rfl (lv_at hl 0 rfl) ?_
      exact W.iret (v := x2) hx hb hr (fun t ht hW => ⟨⟨x2, S_7, rfl, hw, by rw [ht]; exact hP, va_K.moved hW.alike hK, hD⟩, hS.F ht⟩) hS.2.2 dX11_heavy_87
  have L_22 : ∀ (n22 : Nat) (x1 : Int32) (x2 : Int32) (S : CS) (H : Heap) (locs : List Loc) (ls : Array Slot), wC_X11_heavy_22 post n22 x1 x2 S → va_P D vwCl (wC h cy S) H → va_D A (wC h cy S) → va_S A s.heap H locs → lv_has ls 4 [(0, .ref (h 0)), (1, .int x1), (2, .int x2)] → W p l e (headSpec wsX11_heavy { frames := 5, cells := 0, slots := 0, locals := 125 }).room s m (([.ref (h 0), .int p1] : List Value).toArray) below meth c H locs 0 0 (MQ below (va_Qi post (k_Post D (tyC cy) (wC h cy) A) A) (([.ref (h 0), .int p1] : List Value).toArray) s 0 0 A) (F0 m 22 ls []) := by
    intro n22
    induction n22 with
    | zero => intro x1 x2 S H locs ls hw; exact False.elim hw
    | succ n22 ih_22 =>
      intro x1 x2 S H locs ls hw hP hD hS hl
      unfold wC_X11_heavy_22 at hw
      refine lv_iload_n hx hb dX11_heavy_22 rfl (lv_at hl 2 rfl) ?_
      refine lv_bipush (v := 60) hx hb dX11_heavy_23 (by decide) ?_
      obtain ⟨hc_8t, hc_8f⟩ := hw
      refine lv_icmp_ge (tgt := 62) hx hb dX11_heavy_25 (by decide) (fun c_8 => ?_) (fun c_8 => ?_)
      · have hw := hc_8t c_8
        clear hc_8t hc_8f
        exact J_62 x1 x2 S _ _ _ hw hP hD hS (lv_sub hl [0, 1, 2] rfl)
      · have hw := hc_8f c_8
        clear hc_8t hc_8f
        refine lv_aload_n hx hb dX11_heavy_28 rfl (lv_at hl 0 rfl) ?_
        refine va_get (D := D) (ci := 10) (v := .ref (h 7)) (C := RX11) (T := TX11) (N := 9) hx hb hts hin11 hown hK hP 0 rfl rfl 4 (by decide) w40 (fun _ h9 => h9) rfl dX11_heavy_29 ?_
        refine e_callVi (As := []) (rest := []) clE_stable hs ⟨hx, hb, hml, hown, hts⟩ (cC_X2_canPass l D h cy _ _ hw) (cwV 0 hts gX11_heavy_X2_canPass rfl rfl rfl (by decide +kernel) ⟨Nat.le_of_ble_eq_true rfl, Nat.le_of_ble_eq_true rfl⟩) (va_recv hK hP (ci := 2) (q0 := 7) rfl rfl) hK hP hD hS hA rfl hl.1 rfl (Nat.le_of_ble_eq_true rfl) dX11_heavy_32 ⟨Nat.zero_le _, Nat.zero_le _⟩ (fun r_9 S_10 H locs hw hP hD hS => ?_)
        obtain ⟨hc_11t, hc_11f⟩ := hw
        refine lv_if_eq (tgt := 62) hx hb dX11_heavy_35 (by decide) (fun c_11 => ?_) (fun c_11 => ?_)
        · have hw := hc_11t c_11
          clear hc_11t hc_11f
          exact J_62 x1 x2 S_10 _ _ _ hw hP hD hS (lv_sub hl [0, 1, 2] rfl)
        · have hw := hc_11f c_11
          clear hc_11t hc_11f
          refine lv_aload_n hx hb dX11_heavy_38 rfl (lv_at hl 0 rfl) ?_
          refine va_get (D := D) (ci := 10) (v := .ref (h 1)) (C := RX11) (T := TX11) (N := 9) hx hb hts hin11 hown hK hP 0 rfl rfl 0 (by decide) w10 (fun _ h9 => h9) rfl dX11_heavy_39 ?_
          refine e_callVi (As := []) (rest := []) clE_stable hs ⟨hx, hb, hml, hown, hts⟩ (cC_X0_allGrief l D h cy _ _ hw) (cwV 0 hts gX11_heavy_X0_allGrief rfl rfl rfl (by decide +kernel) ⟨Nat.le_of_ble_eq_true rfl, Nat.le_of_ble_eq_true rfl⟩) (va_recv hK hP (ci := 0) (q0 := 1) rfl rfl) hK hP hD hS hA rfl hl.1 rfl (Nat.le_of_ble_eq_true rfl) dX11_heavy_42 ⟨Nat.zero_le _, Nat.zero_le _⟩ (fun r_12 S_13 H locs hw hP hD hS => ?_)
          refine lv_iload_n hx hb dX11_heavy_45 rfl (lv_at hl 1 rfl) ?_
          obtain ⟨hc_14t, hc_14f⟩ := hw
          refine lv_icmp_ge (tgt := 62) hx hb dX11_heavy_46 (by decide) (fun c_14 => ?_) (fun c_14 => ?_)
          · have hw := hc_14t c_14
            clear hc_14t hc_14f
            exact J_62 x1 x2 S_13 _ _ _ hw hP hD hS (lv_sub hl [0, 1, 2] rfl)
          · have hw := hc_14f c_14
            clear hc_14t hc_14f
            refine lv_aload_n hx hb dX11_heavy_49 rfl (lv_at hl 0 rfl) ?_
            refine va_get (D := D) (ci := 10) (v := .ref (h 7)) (C := RX11) (T := TX11) (N := 9) hx hb hts hin11 hown hK hP 0 rfl rfl 4 (by decide) w40 (fun _ h9 => h9) rfl dX11_heavy_50 ?_
            refine e_callVv (As := []) (rest := []) clE_stable hs ⟨hx, hb, hml, hown, hts⟩ (cC_X2_passes l D h cy _ _ hw) (cwV 0 hts gX11_heavy_X2_passes rfl rfl rfl (by decide +kernel) ⟨Nat.le_of_ble_eq_true rfl, Nat.le_of_ble_eq_true rfl⟩) (va_recv hK hP (ci := 2) (q0 := 7) rfl rfl) hK hP hD hS hA rfl hl.1 rfl (Nat.le_of_ble_eq_true rfl) dX11_heavy_53 ⟨Nat.zero_le _, Nat.zero_le _⟩ (fun S_16 H locs hw hP hD hS => ?_)
            refine lv_iinc (v := x2 + 1) (lv' := [(2, .int (x2 + 1)), (0, .ref (h 0)), (1, .int x1)]) hx hb dX11_heavy_56 hl (k := 2) rfl (k_inc (by decide)) (by decide) rfl (fun ls hl => ?_)
            refine lv_goto (tgt := 22) hx hb dX11_heavy_59 (by decide) ?_
            exact ih_22 x1 (x2 + 1) S_16 _ _ _ hw hP hD hS (lv_sub hl [1, 2, 0] rfl)
  refine lv_iload_n hx hb dX11_heavy_0 rfl (lv_at hl 1 rfl) ?_
  refine lv_iconst (v := 0) hx hb dX11_heavy_1 (by decide) ?_
  refine lv_sipush (v := 600) hx hb dX11_heavy_2 (by decide) ?_
  refine e_callSi (As := [.int p1, .int 0, .int 600]) (rest := []) clE_stable hs ⟨hx, hb, hml, hown, hts⟩ (cC_X11_within l D h cy _ _ _ _ _ hw) (va_cwS 3 hts gX11_heavy_X11_within rfl rfl rfl (by decide +kernel) ⟨Nat.le_of_ble_eq_true rfl, Nat.le_of_ble_eq_true rfl⟩) hK hP hD hS hA rfl hl.1 rfl (Nat.le_of_ble_eq_true rfl) dX11_heavy_5 ⟨Nat.zero_le _, Nat.zero_le _⟩ (fun r_17 S_18 H locs hw hP hD hS => ?_)
  obtain ⟨hc_19t, hc_19f⟩ := hw
  refine lv_if_ne (tgt := 13) hx hb dX11_heavy_8 (by decide) (fun c_19 => ?_) (fun c_19 => ?_)
  · have hw := hc_19f c_19
    clear hc_19t hc_19f
    refine lv_aload_n hx hb dX11_heavy_13 rfl (lv_at hl 0 rfl) ?_
    refine va_get (D := D) (ci := 10) (v := .ref (h 7)) (C := RX11) (T := TX11) (N := 9) hx hb hts hin11 hown hK hP 0 rfl rfl 4 (by decide) w40 (fun _ h9 => h9) rfl dX11_heavy_14 ?_
    refine e_callVv (As := []) (rest := []) clE_stable hs ⟨hx, hb, hml, hown, hts⟩ (cC_X2_beginForetelling l D h cy _ _ hw) (cwV 0 hts gX11_heavy_X2_beginForetelling rfl rfl rfl (by decide +kernel) ⟨Nat.le_of_ble_eq_true rfl, Nat.le_of_ble_eq_true rfl⟩) (va_recv hK hP (ci := 2) (q0 := 7) rfl rfl) hK hP hD hS hA rfl hl.1 rfl (Nat.le_of_ble_eq_true rfl) dX11_heavy_17 ⟨Nat.zero_le _, Nat.zero_le _⟩ (fun S_21 H locs hw hP hD hS => ?_)
    refine lv_iconst (v := 0) hx hb dX11_heavy_20 (by decide) ?_
    refine lv_istore_n (lv' := [(2, .int 0), (0, .ref (h 0)), (1, .int p1)]) hx hb dX11_heavy_21 rfl hl (by decide) rfl (fun ls hl => ?_)
    obtain ⟨n_22, hw⟩ := hw
    exact L_22 n_22 p1 0 S_21 _ _ _ hw hP hD hS (lv_sub hl [1, 2, 0] rfl)
  · have hw := hc_19t c_19
    clear hc_19t hc_19f
    refine lv_iconst (v := (-1)) hx hb dX11_heavy_11 (by decide) ?_
    exact W.iret (v := (-1)) hx hb hr (fun t ht hW => ⟨⟨(-1), S_18, rfl, hw, by rw [ht]; exact hP, va_K.moved hW.alike hK, hD⟩, hS.F ht⟩) hS.2.2 dX11_heavy_12
def wC_X11_told (p1 : Int32) (p2 : Int32) (S : CS) (post : Int32 → CS → Prop) : Prop := wC_X11_isFall p1 S (fun r_1 S_2 => ((r_1 = 0 → post (-1) S_2) ∧ (¬ (r_1 = 0) → wC_X11_isMood p2 S_2 (fun r_4 S_5 => ((r_4 = 0 → post (-1) S_5) ∧ (¬ (r_4 = 0) → wC_X0_turned p1 p2 S_5 (fun r_7 S_8 => post r_7 S_8)))))))
set_option maxHeartbeats 4000000 in
set_option maxRecDepth 100000 in
theorem cC_X11_told (l : Launch) (D : va_G) (h : Nat → Nat) (cy : Nat → ClassId) (p1 : Int32) (p2 : Int32) (S : CS) (post : Int32 → CS → Prop) (hw : wC_X11_told p1 p2 S post) : e_Mi clE l yX11_told wsX11_told { frames := 2, cells := 0, slots := 0, locals := 43 } D (tyC cy) (wC h cy) [.ref (h 0), .int p1, .int p2] S post := by
  intro sz
  refine Met.ofW (cc := cX11_told) (maxL := 3) (ret := (some .int)) (by decide) rfl ?_
  intro p e s m args below meth c s₁ B hml hv
  obtain ⟨rfl, hsz, hP, hK, hD0, hs⟩ := hv
  have hx := B.exec
  have hb := B.bytes
  have hr := B.returns
  have hts := atoms_spec (ws := wsX11_told) B.pre
  have hown : s.vm.findClass RX11 = some m.cls := findClass_of_methodNamed B.named
  have hlocks := B.notSynchronized
  subst hsz
  have hD := hD0.self (sz := s.heap.size)
  generalize hAe : va_A (wC h cy S) s.heap.size = A at hD hs ⊢
  have hA : ∀ q : Nat, s.heap.size ≤ q → A q := fun q h => by rw [← hAe]; exact Or.inr h
  have hS : va_S A s.heap s.heap [] := va_S.rf
  have hin11 : ∀ w ∈ wsX110, w ∈ wsX11_told := fun _ h => List.mem_cons_of_mem _ (List.mem_append_left _ (List.mem_append_right _ h))
  have hin0 : ∀ w ∈ wsX00, w ∈ wsX11_told := fun _ h => List.mem_cons_of_mem _ (List.mem_append_right _ h)
  have w10 := hts (.fieldLink RX11 10 "ClownsMourn" "city" "LClownsMourn$City;") (List.mem_of_getElem? (i := 1) rfl)
  have hl := lv_entry ([.ref (h 0), .int p1, .int p2]) (n := 3) (Nat.le_of_ble_eq_true rfl)
  rw [lg_entry_eq]
  generalize (lg_sl ([.ref (h 0), .int p1, .int p2]) ++ List.replicate (3 - (lg_sl ([.ref (h 0), .int p1, .int p2])).length) Slot.unset).toArray = ls at hl ⊢
  have hl : lv_has ls 3 [(0, .ref (h 0)), (1, .int p1), (2, .int p2)] := hl
  unfold wC_X11_told at hw
  clear hD0
  refine lv_iload_n hx hb dX11_told_0 rfl (lv_at hl 1 rfl) ?_
  refine e_callSi (As := [.int p1]) (rest := []) clE_stable hs ⟨hx, hb, hml, hown, hts⟩ (cC_X11_isFall l D h cy _ _ _ hw) (va_cwS 1 hts gX11_told_X11_isFall rfl rfl rfl (by decide +kernel) ⟨Nat.le_of_ble_eq_true rfl, Nat.le_of_ble_eq_true rfl⟩) hK hP hD hS hA rfl hl.1 rfl (Nat.le_of_ble_eq_true rfl) dX11_told_1 ⟨Nat.zero_le _, Nat.zero_le _⟩ (fun r_1 S_2 H locs hw hP hD hS => ?_)
  obtain ⟨hc_3t, hc_3f⟩ := hw
  refine lv_if_eq (tgt := 26) hx hb dX11_told_4 (by decide) (fun c_3 => ?_) (fun c_3 => ?_)
  · have hw := hc_3t c_3
    clear hc_3t hc_3f
    refine lv_iconst (v := (-1)) hx hb dX11_told_26 (by decide) ?_
    exact W.iret (v := (-1)) hx hb hr (fun t ht hW => ⟨⟨(-1), S_2, rfl, hw, by rw [ht]; exact hP, va_K.moved hW.alike hK, hD⟩, hS.F ht⟩) hS.2.2 dX11_told_27
  · have hw := hc_3f c_3
    clear hc_3t hc_3f
    refine lv_iload_n hx hb dX11_told_7 rfl (lv_at hl 2 rfl) ?_
    refine e_callSi (As := [.int p2]) (rest := []) clE_stable hs ⟨hx, hb, hml, hown, hts⟩ (cC_X11_isMood l D h cy _ _ _ hw) (va_cwS 1 hts gX11_told_X11_isMood rfl rfl rfl (by decide +kernel) ⟨Nat.le_of_ble_eq_true rfl, Nat.le_of_ble_eq_true rfl⟩) hK hP hD hS hA rfl hl.1 rfl (Nat.le_of_ble_eq_true rfl) dX11_told_8 ⟨Nat.zero_le _, Nat.zero_le _⟩ (fun r_4 S_5 H locs hw hP hD hS => ?_)
    obtain ⟨hc_6t, hc_6f⟩ := hw
    refine lv_if_eq (tgt := 26) hx hb dX11_told_11 (by decide) (fun c_6 => ?_) (fun c_6 => ?_)
    · have hw := hc_6t c_6
      clear hc_6t hc_6f
      refine lv_iconst (v := (-1)) hx hb dX11_told_26 (by decide) ?_
      exact W.iret (v := (-1)) hx hb hr (fun t ht hW => ⟨⟨(-1), S_5, rfl, hw, by rw [ht]; exact hP, va_K.moved hW.alike hK, hD⟩, hS.F ht⟩) hS.2.2 dX11_told_27
    · have hw := hc_6f c_6
      clear hc_6t hc_6f
      refine lv_aload_n hx hb dX11_told_14 rfl (lv_at hl 0 rfl) ?_
      refine va_get (D := D) (ci := 10) (v := .ref (h 1)) (C := RX11) (T := TX11) (N := 9) hx hb hts hin11 hown hK hP 0 rfl rfl 0 (by decide) w10 (fun _ h9 => h9) rfl dX11_told_15 ?_
      refine lv_iload_n hx hb dX11_told_18 rfl (lv_at hl 1 rfl) ?_
      refine lv_iload_n hx hb dX11_told_19 rfl (lv_at hl 2 rfl) ?_
      refine e_callVi (As := [.int p1, .int p2]) (rest := []) clE_stable hs ⟨hx, hb, hml, hown, hts⟩ (cC_X0_turned l D h cy _ _ _ _ hw) (cwV 2 hts gX11_told_X0_turned rfl rfl rfl (by decide +kernel) ⟨Nat.le_of_ble_eq_true rfl, Nat.le_of_ble_eq_true rfl⟩) (va_recv hK hP (ci := 0) (q0 := 1) rfl rfl) hK hP hD hS hA rfl hl.1 rfl (Nat.le_of_ble_eq_true rfl) dX11_told_20 ⟨Nat.zero_le _, Nat.zero_le _⟩ (fun r_7 S_8 H locs hw hP hD hS => ?_)
      refine lv_goto (tgt := 27) hx hb dX11_told_23 (by decide) ?_
      exact W.iret (v := r_7) hx hb hr (fun t ht hW => ⟨⟨r_7, S_8, rfl, hw, by rw [ht]; exact hP, va_K.moved hW.alike hK, hD⟩, hS.F ht⟩) hS.2.2 dX11_told_27
def wC_X5_fromMood (p1 : Int32) (S : CS) (post : Int32 → CS → Prop) : Prop := (∀ S_1 : CS, S_1 = (cx_set_m_toGladness S 1) → post (k_shl 1 p1) S_1)
set_option maxHeartbeats 4000000 in
set_option maxRecDepth 100000 in
theorem cC_X5_fromMood (l : Launch) (D : va_G) (h : Nat → Nat) (cy : Nat → ClassId) (p1 : Int32) (S : CS) (post : Int32 → CS → Prop) (hw : wC_X5_fromMood p1 S post) : e_Mi clE l yX5_fromMood wsX5_fromMood { frames := 0, cells := 0, slots := 0, locals := 0 } D (tyC cy) (wC h cy) [.ref (h 9), .int p1] S post := by
  intro sz
  refine Met.ofW (cc := cX5_fromMood) (maxL := 2) (ret := (some .int)) (by decide) rfl ?_
  intro p e s m args below meth c s₁ B hml hv
  obtain ⟨rfl, hsz, hP, hK, hD0, hs⟩ := hv
  have hx := B.exec
  have hb := B.bytes
  have hr := B.returns
  have hts := atoms_spec (ws := wsX5_fromMood) B.pre
  have hown : s.vm.findClass RX5 = some m.cls := findClass_of_methodNamed B.named
  have hlocks := B.notSynchronized
  subst hsz
  have hD := hD0.self (sz := s.heap.size)
  generalize hAe : va_A (wC h cy S) s.heap.size = A at hD hs ⊢
  have hA : ∀ q : Nat, s.heap.size ≤ q → A q := fun q h => by rw [← hAe]; exact Or.inr h
  have hS : va_S A s.heap s.heap [] := va_S.rf
  have hin5 : ∀ w ∈ wsX50, w ∈ wsX5_fromMood := fun _ h => List.mem_cons_of_mem _ (List.mem_append_right _ h)
  have w9 := hts (.fieldLink RX5 9 "ClownsMourn$MoodWalk" "toGladness" "Z") (List.mem_of_getElem? (i := 1) rfl)
  have hl := lv_entry ([.ref (h 9), .int p1]) (n := 2) (Nat.le_of_ble_eq_true rfl)
  rw [lg_entry_eq]
  generalize (lg_sl ([.ref (h 9), .int p1]) ++ List.replicate (2 - (lg_sl ([.ref (h 9), .int p1])).length) Slot.unset).toArray = ls at hl ⊢
  have hl : lv_has ls 2 [(0, .ref (h 9)), (1, .int p1)] := hl
  unfold wC_X5_fromMood at hw
  clear hD0
  refine lv_aload_n hx hb dX5_fromMood_0 rfl (lv_at hl 0 rfl) ?_
  refine lv_iconst (v := 1) hx hb dX5_fromMood_1 (by decide) ?_
  refine va_put (D := D) (ci := 5) (v := .int 1) (ty := .boolean) (C := RX5) (T := TX5) (N := 2) hx hb hts hin5 tyX5 tyX5_ok nmX5 hown hK hP hD hS 9 rfl rfl 1 (by decide) w9 (fun _ h9 => h9) rfl (tyX5_ok 1 (by decide)) (by decide +kernel) (by decide +kernel) (Nat.le_of_ble_eq_true rfl) dX5_fromMood_2 (fun H locs hP hD hS => ?_)
  obtain ⟨S_1, eS_1⟩ : ∃ z : CS, z = (cx_set_m_toGladness S 1) := ⟨_, rfl⟩
  replace hw := hw S_1 eS_1
  have hP : va_P D vwCl (wC h cy S_1) H := by rw [eS_1, ← wCp_m_toGladness]; exact hP
  have hD : va_D A (wC h cy S_1) := by rw [eS_1, ← wCp_m_toGladness]; exact hD
  refine lv_iconst (v := 1) hx hb dX5_fromMood_5 (by decide) ?_
  refine lv_iload_n hx hb dX5_fromMood_6 rfl (lv_at hl 1 rfl) ?_
  refine k_ishl hx hb dX5_fromMood_7 ?_
  exact W.iret (v := k_shl 1 p1) hx hb hr (fun t ht hW => ⟨⟨k_shl 1 p1, S_1, rfl, hw, by rw [ht]; exact hP, va_K.moved hW.alike hK, hD⟩, hS.F ht⟩) hS.2.2 dX5_fromMood_8
def wC_X0_turnedSet_5 (post : Int32 → CS → Prop) : Nat → Int32 → Int32 → Int32 → Int32 → CS → Prop
  | 0, _, _, _, _, _ => False
  | n + 1, x1, x2, x3, x4, S => ((10 ≤ x4 → post x3 S) ∧ (¬ (10 ≤ x4) → ((((k_shr x2 x4) &&& 1) = 1 → wC_X0_turned x1 x4 S (fun r_3 S_4 => wC_X0_turnedSet_5 post n x1 x2 (x3 ||| (k_shl 1 r_3)) (x4 + 1) S_4)) ∧ (¬ (((k_shr x2 x4) &&& 1) = 1) → wC_X0_turnedSet_5 post n x1 x2 x3 (x4 + 1) S))))
def wC_X0_turnedSet (p1 : Int32) (p2 : Int32) (S : CS) (post : Int32 → CS → Prop) : Prop := ∃ k_ : Nat, wC_X0_turnedSet_5 post k_ p1 p2 0 0 S
set_option maxHeartbeats 4000000 in
set_option maxRecDepth 100000 in
theorem cC_X0_turnedSet (l : Launch) (D : va_G) (h : Nat → Nat) (cy : Nat → ClassId) (p1 : Int32) (p2 : Int32) (S : CS) (post : Int32 → CS → Prop) (hw : wC_X0_turnedSet p1 p2 S post) : e_Mi clE l yX0_turnedSet wsX0_turnedSet { frames := 2, cells := 0, slots := 0, locals := 43 } D (tyC cy) (wC h cy) [.ref (h 1), .int p1, .int p2] S post := by
  intro sz
  refine Met.ofW (cc := cX0_turnedSet) (maxL := 5) (ret := (some .int)) (by decide) rfl ?_
  intro p e s m args below meth c s₁ B hml hv
  obtain ⟨rfl, hsz, hP, hK, hD0, hs⟩ := hv
  have hx := B.exec
  have hb := B.bytes
  have hr := B.returns
  have hts := atoms_spec (ws := wsX0_turnedSet) B.pre
  have hown : s.vm.findClass RX0 = some m.cls := findClass_of_methodNamed B.named
  have hlocks := B.notSynchronized
  subst hsz
  have hD := hD0.self (sz := s.heap.size)
  generalize hAe : va_A (wC h cy S) s.heap.size = A at hD hs ⊢
  have hA : ∀ q : Nat, s.heap.size ≤ q → A q := fun q h => by rw [← hAe]; exact Or.inr h
  have hS : va_S A s.heap s.heap [] := va_S.rf
  have hl := lv_entry ([.ref (h 1), .int p1, .int p2]) (n := 5) (Nat.le_of_ble_eq_true rfl)
  rw [lg_entry_eq]
  generalize (lg_sl ([.ref (h 1), .int p1, .int p2]) ++ List.replicate (5 - (lg_sl ([.ref (h 1), .int p1, .int p2])).length) Slot.unset).toArray = ls at hl ⊢
  have hl : lv_has ls 5 [(0, .ref (h 1)), (1, .int p1), (2, .int p2)] := hl
  unfold wC_X0_turnedSet at hw
  clear hD0
  have L_5 : ∀ (n5 : Nat) (x1 : Int32) (x2 : Int32) (x3 : Int32) (x4 : Int32) (S : CS) (H : Heap) (locs : List Loc) (ls : Array Slot), wC_X0_turnedSet_5 post n5 x1 x2 x3 x4 S → va_P D vwCl (wC h cy S) H → va_D A (wC h cy S) → va_S A s.heap H locs → lv_has ls 5 [(0, .ref (h 1)), (1, .int x1), (2, .int x2), (3, .int x3), (4, .int x4)] → W p l e (headSpec wsX0_turnedSet { frames := 2, cells := 0, slots := 0, locals := 43 }).room s m (([.ref (h 1), .int p1, .int p2] : List Value).toArray) below meth c H locs 0 0 (MQ below (va_Qi post (k_Post D (tyC cy) (wC h cy) A) A) (([.ref (h 1), .int p1, .int p2] : List Value).toArray) s 0 0 A) (F0 m 5 ls []) := by
    intro n5
    induction n5 with
    | zero => intro x1 x2 x3 x4 S H locs ls hw; exact False.elim hw
    | succ n5 ih_5 =>
      intro x1 x2 x3 x4 S H locs ls hw hP hD hS hl
      unfold wC_X0_turnedSet_5 at hw
      refine lv_iload hx hb dX0_turnedSet_5 (lv_at hl 4 rfl) ?_
      refine lv_bipush (v := 10) hx hb dX0_turnedSet_7 (by decide) ?_
      obtain ⟨hc_1t, hc_1f⟩ := hw
      refine lv_icmp_ge (tgt := 40) hx hb dX0_turnedSet_9 (by decide) (fun c_1 => ?_) (fun c_1 => ?_)
      · have hw := hc_1t c_1
        clear hc_1t hc_1f
        refine lv_iload_n hx hb dX0_turnedSet_40 rfl (lv_at hl 3 rfl) ?_
        exact W.iret (v := x3) hx hb hr (fun t ht hW => ⟨⟨x3, S, rfl, hw, by rw [ht]; exact hP, va_K.moved hW.alike hK, hD⟩, hS.F ht⟩) hS.2.2 dX0_turnedSet_41
      · have hw := hc_1f c_1
        clear hc_1t hc_1f
        refine lv_iload_n hx hb dX0_turnedSet_12 rfl (lv_at hl 2 rfl) ?_
        refine lv_iload hx hb dX0_turnedSet_13 (lv_at hl 4 rfl) ?_
        refine k_ishr hx hb dX0_turnedSet_15 ?_
        refine lv_iconst (v := 1) hx hb dX0_turnedSet_16 (by decide) ?_
        refine lv_iand hx hb dX0_turnedSet_17 ?_
        refine lv_iconst (v := 1) hx hb dX0_turnedSet_18 (by decide) ?_
        obtain ⟨hc_2t, hc_2f⟩ := hw
        refine lv_icmp_ne (tgt := 34) hx hb dX0_turnedSet_19 (by decide) (fun c_2 => ?_) (fun c_2 => ?_)
        · have hw := hc_2f c_2
          clear hc_2t hc_2f
          refine lv_iinc (v := x4 + 1) (lv' := [(4, .int (x4 + 1)), (0, .ref (h 1)), (1, .int x1), (2, .int x2), (3, .int x3)]) hx hb dX0_turnedSet_34 hl (k := 4) rfl (k_inc (by decide)) (by decide) rfl (fun ls hl => ?_)
          refine lv_goto (tgt := 5) hx hb dX0_turnedSet_37 (by decide) ?_
          exact ih_5 x1 x2 x3 (x4 + 1) S _ _ _ hw hP hD hS (lv_sub hl [1, 2, 3, 4, 0] rfl)
        · have hw := hc_2t c_2
          clear hc_2t hc_2f
          refine lv_iload_n hx hb dX0_turnedSet_22 rfl (lv_at hl 3 rfl) ?_
          refine lv_iconst (v := 1) hx hb dX0_turnedSet_23 (by decide) ?_
          refine lv_aload_n hx hb dX0_turnedSet_24 rfl (lv_at hl 0 rfl) ?_
          refine lv_iload_n hx hb dX0_turnedSet_25 rfl (lv_at hl 1 rfl) ?_
          refine lv_iload hx hb dX0_turnedSet_26 (lv_at hl 4 rfl) ?_
          refine e_callVi (As := [.int x1, .int x4]) (rest := [.int 1, .int x3]) clE_stable hs ⟨hx, hb, hml, hown, hts⟩ (cC_X0_turned l D h cy _ _ _ _ hw) (cwV 2 hts gX0_turnedSet_X0_turned rfl rfl rfl (by decide +kernel) ⟨Nat.le_of_ble_eq_true rfl, Nat.le_of_ble_eq_true rfl⟩) (va_recv hK hP (ci := 0) (q0 := 1) rfl rfl) hK hP hD hS hA rfl hl.1 rfl (Nat.le_of_ble_eq_true rfl) dX0_turnedSet_28 ⟨Nat.zero_le _, Nat.zero_le _⟩ (fun r_3 S_4 H locs hw hP hD hS => ?_)
          refine k_ishl hx hb dX0_turnedSet_31 ?_
          refine lv_ior hx hb dX0_turnedSet_32 ?_
          refine lv_istore_n (lv' := [(3, .int (x3 ||| (k_shl 1 r_3))), (0, .ref (h 1)), (1, .int x1), (2, .int x2), (4, .int x4)]) hx hb dX0_turnedSet_33 rfl hl (by decide) rfl (fun ls hl => ?_)
          refine lv_iinc (v := x4 + 1) (lv' := [(4, .int (x4 + 1)), (3, .int (x3 ||| (k_shl 1 r_3))), (0, .ref (h 1)), (1, .int x1), (2, .int x2)]) hx hb dX0_turnedSet_34 hl (k := 4) rfl (k_inc (by decide)) (by decide) rfl (fun ls hl => ?_)
          refine lv_goto (tgt := 5) hx hb dX0_turnedSet_37 (by decide) ?_
          exact ih_5 x1 x2 (x3 ||| (k_shl 1 r_3)) (x4 + 1) S_4 _ _ _ hw hP hD hS (lv_sub hl [2, 3, 4, 1, 0] rfl)
  refine lv_iconst (v := 0) hx hb dX0_turnedSet_0 (by decide) ?_
  refine lv_istore_n (lv' := [(3, .int 0), (0, .ref (h 1)), (1, .int p1), (2, .int p2)]) hx hb dX0_turnedSet_1 rfl hl (by decide) rfl (fun ls hl => ?_)
  refine lv_iconst (v := 0) hx hb dX0_turnedSet_2 (by decide) ?_
  refine lv_istore (lv' := [(4, .int 0), (3, .int 0), (0, .ref (h 1)), (1, .int p1), (2, .int p2)]) hx hb dX0_turnedSet_3 hl (by decide) rfl (fun ls hl => ?_)
  obtain ⟨n_5, hw⟩ := hw
  exact L_5 n_5 p1 p2 0 0 S _ _ _ hw hP hD hS (lv_sub hl [2, 3, 4, 1, 0] rfl)
def wC_X5_moved (p1 : Int32) (p2 : Int32) (p3 : Int32) (S : CS) (post : Int32 → CS → Prop) : Prop := wC_X0_turnedSet p2 p1 S (fun r_1 S_2 => post r_1 S_2)
set_option maxHeartbeats 4000000 in
set_option maxRecDepth 100000 in
theorem cC_X5_moved (l : Launch) (D : va_G) (h : Nat → Nat) (cy : Nat → ClassId) (p1 : Int32) (p2 : Int32) (p3 : Int32) (S : CS) (post : Int32 → CS → Prop) (hw : wC_X5_moved p1 p2 p3 S post) : e_Mi clE l yX5_moved wsX5_moved { frames := 3, cells := 0, slots := 0, locals := 67 } D (tyC cy) (wC h cy) [.ref (h 9), .int p1, .int p2, .int p3] S post := by
  intro sz
  refine Met.ofW (cc := cX5_moved) (maxL := 4) (ret := (some .int)) (by decide) rfl ?_
  intro p e s m args below meth c s₁ B hml hv
  obtain ⟨rfl, hsz, hP, hK, hD0, hs⟩ := hv
  have hx := B.exec
  have hb := B.bytes
  have hr := B.returns
  have hts := atoms_spec (ws := wsX5_moved) B.pre
  have hown : s.vm.findClass RX5 = some m.cls := findClass_of_methodNamed B.named
  have hlocks := B.notSynchronized
  subst hsz
  have hD := hD0.self (sz := s.heap.size)
  generalize hAe : va_A (wC h cy S) s.heap.size = A at hD hs ⊢
  have hA : ∀ q : Nat, s.heap.size ≤ q → A q := fun q h => by rw [← hAe]; exact Or.inr h
  have hS : va_S A s.heap s.heap [] := va_S.rf
  have hin5 : ∀ w ∈ wsX50, w ∈ wsX5_moved := fun _ h => List.mem_cons_of_mem _ (List.mem_append_left _ (List.mem_append_right _ h))
  have hin0 : ∀ w ∈ wsX00, w ∈ wsX5_moved := fun _ h => List.mem_cons_of_mem _ (List.mem_append_right _ h)
  have w15 := hts (.fieldLink RX5 15 "ClownsMourn$MoodWalk" "city" "LClownsMourn$City;") (List.mem_of_getElem? (i := 1) rfl)
  have hl := lv_entry ([.ref (h 9), .int p1, .int p2, .int p3]) (n := 4) (Nat.le_of_ble_eq_true rfl)
  rw [lg_entry_eq]
  generalize (lg_sl ([.ref (h 9), .int p1, .int p2, .int p3]) ++ List.replicate (4 - (lg_sl ([.ref (h 9), .int p1, .int p2, .int p3])).length) Slot.unset).toArray = ls at hl ⊢
  have hl : lv_has ls 4 [(0, .ref (h 9)), (1, .int p1), (2, .int p2), (3, .int p3)] := hl
  unfold wC_X5_moved at hw
  clear hD0
  refine lv_aload_n hx hb dX5_moved_0 rfl (lv_at hl 0 rfl) ?_
  refine va_get (D := D) (ci := 5) (v := .ref (h 1)) (C := RX5) (T := TX5) (N := 2) hx hb hts hin5 hown hK hP 9 rfl rfl 0 (by decide) w15 (fun _ h9 => h9) rfl dX5_moved_1 ?_
  refine lv_iload_n hx hb dX5_moved_4 rfl (lv_at hl 2 rfl) ?_
  refine lv_iload_n hx hb dX5_moved_5 rfl (lv_at hl 1 rfl) ?_
  refine e_callVi (As := [.int p2, .int p1]) (rest := []) clE_stable hs ⟨hx, hb, hml, hown, hts⟩ (cC_X0_turnedSet l D h cy _ _ _ _ hw) (cwV 2 hts gX5_moved_X0_turnedSet rfl rfl rfl (by decide +kernel) ⟨Nat.le_of_ble_eq_true rfl, Nat.le_of_ble_eq_true rfl⟩) (va_recv hK hP (ci := 0) (q0 := 1) rfl rfl) hK hP hD hS hA rfl hl.1 rfl (Nat.le_of_ble_eq_true rfl) dX5_moved_6 ⟨Nat.zero_le _, Nat.zero_le _⟩ (fun r_1 S_2 H locs hw hP hD hS => ?_)
  exact W.iret (v := r_1) hx hb hr (fun t ht hW => ⟨⟨r_1, S_2, rfl, hw, by rw [ht]; exact hP, va_K.moved hW.alike hK, hD⟩, hS.F ht⟩) hS.2.2 dX5_moved_9
def wC_X7_add (p1 : Int64) (p2 : Int32) (S : CS) (post : CS → Prop) : Prop := ((p2 < 0 → post S) ∧ (¬ (p2 < 0) → ((((k_at 32 (cx_s_seen S) (p2 / 32)) &&& (k_shl 1 (k_rem p2 32))) = 0 → (((cx_s_count S) < 0 → post S) ∧ (¬ ((cx_s_count S) < 0) → ((1024 ≤ (cx_s_count S) → post S) ∧ (¬ (1024 ≤ (cx_s_count S)) → (∀ S_5 : CS, S_5 = (cx_set_s_seen S (k_put 32 (cx_s_seen S) (p2 / 32) ((k_at 32 (cx_s_seen S) (p2 / 32)) ||| (k_shl 1 (k_rem p2 32))))) → (vp_in (cx_s_count S_5) 1024 ∧ ∀ S_6 : CS, S_6 = (cx_set_s_nextLayer S_5 (vp_updL (cx_s_nextLayer S_5) ((cx_s_count S_5).toNatClampNeg) ((p1 * 1024) + (Int32.toInt64 p2)))) → (∀ S_7 : CS, S_7 = (cx_set_s_count S_6 ((cx_s_count S_6) + 1)) → post S_7)))))))) ∧ (¬ (((k_at 32 (cx_s_seen S) (p2 / 32)) &&& (k_shl 1 (k_rem p2 32))) = 0) → post S))))
set_option maxHeartbeats 4000000 in
set_option maxRecDepth 100000 in
theorem cC_X7_add (l : Launch) (D : va_G) (h : Nat → Nat) (cy : Nat → ClassId) (p1 : Int64) (p2 : Int32) (S : CS) (post : CS → Prop) (hw : wC_X7_add p1 p2 S post) : e_Mv clE l yX7_add wsX7_add { frames := 1, cells := 0, slots := 0, locals := 22 } D (tyC cy) (wC h cy) [.ref (h 8), .long p1, .int p2] S post := by
  intro sz
  refine Met.ofW (cc := cX7_add) (maxL := 6) (ret := none) (by decide) rfl ?_
  intro p e s m args below meth c s₁ B hml hv
  obtain ⟨rfl, hsz, hP, hK, hD0, hs⟩ := hv
  have hx := B.exec
  have hb := B.bytes
  have hr := B.returns
  have hts := atoms_spec (ws := wsX7_add) B.pre
  have hown : s.vm.findClass RX7 = some m.cls := findClass_of_methodNamed B.named
  have hlocks := B.notSynchronized
  subst hsz
  have hD := hD0.self (sz := s.heap.size)
  generalize hAe : va_A (wC h cy S) s.heap.size = A at hD hs ⊢
  have hA : ∀ q : Nat, s.heap.size ≤ q → A q := fun q h => by rw [← hAe]; exact Or.inr h
  have hS : va_S A s.heap s.heap [] := va_S.rf
  have hin7 : ∀ w ∈ wsX70, w ∈ wsX7_add := fun _ h => List.mem_cons_of_mem _ (List.mem_append_right _ h)
  have wc49 := hts (.constantLong RX7 49 (1024)) (List.mem_of_getElem? (i := 4) rfl)
  have w15 := hts (.fieldLink RX7 15 "ClownsMourn$Search" "nextLayer" "[J") (List.mem_of_getElem? (i := 3) rfl)
  have w18 := hts (.fieldLink RX7 18 "ClownsMourn$Search" "seen" "[I") (List.mem_of_getElem? (i := 1) rfl)
  have w22 := hts (.fieldLink RX7 22 "ClownsMourn$Search" "count" "I") (List.mem_of_getElem? (i := 2) rfl)
  have wiX11 := hts (.initialized RX11) (List.mem_of_getElem? (i := 6) rfl)
  have wstat := hts (.static yX11_at) (List.mem_of_getElem? (i := 5) rfl)
  have wstput := hts (.static yX11_put) (List.mem_of_getElem? (i := 8) rfl)
  have hl := lv_entry ([.ref (h 8), .long p1, .int p2]) (n := 6) (Nat.le_of_ble_eq_true rfl)
  rw [lg_entry_eq]
  generalize (lg_sl ([.ref (h 8), .long p1, .int p2]) ++ List.replicate (6 - (lg_sl ([.ref (h 8), .long p1, .int p2])).length) Slot.unset).toArray = ls at hl ⊢
  have hl : lv_has ls 6 [(0, .ref (h 8)), (1, .long p1), (3, .int p2)] := hl
  unfold wC_X7_add at hw
  clear hD0
  refine lv_iload_n hx hb dX7_add_0 rfl (lv_at hl 2 rfl) ?_
  refine lv_bipush (v := 32) hx hb dX7_add_1 (by decide) ?_
  refine lv_idiv hx hb dX7_add_3 (by decide) ?_
  refine lv_istore (lv' := [(4, .int (p2 / 32)), (0, .ref (h 8)), (1, .long p1), (3, .int p2)]) hx hb dX7_add_4 hl (by decide) rfl (fun ls hl => ?_)
  refine lv_iconst (v := 1) hx hb dX7_add_6 (by decide) ?_
  refine lv_iload_n hx hb dX7_add_7 rfl (lv_at hl 3 rfl) ?_
  refine lv_bipush (v := 32) hx hb dX7_add_8 (by decide) ?_
  refine k_irem hx hb dX7_add_10 (by decide) ?_
  refine k_ishl hx hb dX7_add_11 ?_
  refine lv_istore (lv' := [(5, .int (k_shl 1 (k_rem p2 32))), (4, .int (p2 / 32)), (0, .ref (h 8)), (1, .long p1), (3, .int p2)]) hx hb dX7_add_12 hl (by decide) rfl (fun ls hl => ?_)
  refine lv_iload_n hx hb dX7_add_14 rfl (lv_at hl 4 rfl) ?_
  obtain ⟨hc_1t, hc_1f⟩ := hw
  refine lv_if_lt (tgt := 98) hx hb dX7_add_15 (by decide) (fun c_1 => ?_) (fun c_1 => ?_)
  · have hw := hc_1t c_1
    clear hc_1t hc_1f
    exact W.vret hx hb hr (fun t ht hW => ⟨⟨S, rfl, hw, by rw [ht]; exact hP, va_K.moved hW.alike hK, hD⟩, hS.F ht⟩) hS.2.2 dX7_add_98
  · have hw := hc_1f c_1
    clear hc_1t hc_1f
    refine lv_aload_n hx hb dX7_add_18 rfl (lv_at hl 2 rfl) ?_
    refine va_get (D := D) (ci := 7) (v := .ref (h 45)) (C := RX7) (T := TX7) (N := 6) hx hb hts hin7 hown hK hP 8 rfl rfl 2 (by decide) w18 (fun _ h9 => h9) rfl dX7_add_19 ?_
    refine lv_iload hx hb dX7_add_22 (lv_at hl 1 rfl) ?_
    refine e_callNi (As := [.ref (h 45), .int (p2 / 32)]) (rest := []) clE_stable hs ⟨hx, hb, hml, hown, hts⟩ (cA_at l D clE (tyC cy) (wC h cy) S 45 33 _ _ 32 (cx_s_seen S) rfl rfl (by decide) _ (fun r S0 => r = k_at 32 (cx_s_seen S) (p2 / 32) ∧ S = S0) ⟨rfl, rfl⟩) ⟨va_cnB 2 hts gX7_add_X11_at_n70 rfl rfl rfl hs.1.2.2.2.2.2.2.2.2.2.2.2.2.2.2.2.2.2.2.2.2.1 wiX11 (by decide +kernel) ⟨Nat.le_of_ble_eq_true rfl, Nat.le_of_ble_eq_true rfl⟩, wstat, trivial⟩ hK hP hD hS hA rfl hl.1 rfl (Nat.le_of_ble_eq_true rfl) dX7_add_24 ⟨Nat.zero_le _, Nat.zero_le _⟩ (fun r_ S_ H locs hq hP hD hS => ?_)
    obtain ⟨rfl, rfl⟩ := hq
    refine lv_iload hx hb dX7_add_27 (lv_at hl 0 rfl) ?_
    refine lv_iand hx hb dX7_add_29 ?_
    obtain ⟨hc_2t, hc_2f⟩ := hw
    refine lv_if_ne (tgt := 98) hx hb dX7_add_30 (by decide) (fun c_2 => ?_) (fun c_2 => ?_)
    · have hw := hc_2f c_2
      clear hc_2t hc_2f
      exact W.vret hx hb hr (fun t ht hW => ⟨⟨S, rfl, hw, by rw [ht]; exact hP, va_K.moved hW.alike hK, hD⟩, hS.F ht⟩) hS.2.2 dX7_add_98
    · have hw := hc_2t c_2
      clear hc_2t hc_2f
      refine lv_aload_n hx hb dX7_add_33 rfl (lv_at hl 2 rfl) ?_
      refine va_get (D := D) (ci := 7) (v := .int (cx_s_count S)) (C := RX7) (T := TX7) (N := 6) hx hb hts hin7 hown hK hP 8 rfl rfl 3 (by decide) w22 (fun _ h9 => h9) rfl dX7_add_34 ?_
      obtain ⟨hc_3t, hc_3f⟩ := hw
      refine lv_if_lt (tgt := 98) hx hb dX7_add_37 (by decide) (fun c_3 => ?_) (fun c_3 => ?_)
      · have hw := hc_3t c_3
        clear hc_3t hc_3f
        exact W.vret hx hb hr (fun t ht hW => ⟨⟨S, rfl, hw, by rw [ht]; exact hP, va_K.moved hW.alike hK, hD⟩, hS.F ht⟩) hS.2.2 dX7_add_98
      · have hw := hc_3f c_3
        clear hc_3t hc_3f
        refine lv_aload_n hx hb dX7_add_40 rfl (lv_at hl 2 rfl) ?_
        refine va_get (D := D) (ci := 7) (v := .int (cx_s_count S)) (C := RX7) (T := TX7) (N := 6) hx hb hts hin7 hown hK hP 8 rfl rfl 3 (by decide) w22 (fun _ h9 => h9) rfl dX7_add_41 ?_
        refine lv_sipush (v := 1024) hx hb dX7_add_44 (by decide) ?_
        obtain ⟨hc_4t, hc_4f⟩ := hw
        refine lv_icmp_ge (tgt := 98) hx hb dX7_add_47 (by decide) (fun c_4 => ?_) (fun c_4 => ?_)
        · have hw := hc_4t c_4
          clear hc_4t hc_4f
          exact W.vret hx hb hr (fun t ht hW => ⟨⟨S, rfl, hw, by rw [ht]; exact hP, va_K.moved hW.alike hK, hD⟩, hS.F ht⟩) hS.2.2 dX7_add_98
        · have hw := hc_4f c_4
          clear hc_4t hc_4f
          refine lv_aload_n hx hb dX7_add_50 rfl (lv_at hl 2 rfl) ?_
          refine va_get (D := D) (ci := 7) (v := .ref (h 45)) (C := RX7) (T := TX7) (N := 6) hx hb hts hin7 hown hK hP 8 rfl rfl 2 (by decide) w18 (fun _ h9 => h9) rfl dX7_add_51 ?_
          refine lv_iload hx hb dX7_add_54 (lv_at hl 1 rfl) ?_
          refine lv_aload_n hx hb dX7_add_56 rfl (lv_at hl 2 rfl) ?_
          refine va_get (D := D) (ci := 7) (v := .ref (h 45)) (C := RX7) (T := TX7) (N := 6) hx hb hts hin7 hown hK hP 8 rfl rfl 2 (by decide) w18 (fun _ h9 => h9) rfl dX7_add_57 ?_
          refine lv_iload hx hb dX7_add_60 (lv_at hl 1 rfl) ?_
          refine e_callNi (As := [.ref (h 45), .int (p2 / 32)]) (rest := [.int (p2 / 32), .ref (h 45)]) clE_stable hs ⟨hx, hb, hml, hown, hts⟩ (cA_at l D clE (tyC cy) (wC h cy) S 45 33 _ _ 32 (cx_s_seen S) rfl rfl (by decide) _ (fun r S0 => r = k_at 32 (cx_s_seen S) (p2 / 32) ∧ S = S0) ⟨rfl, rfl⟩) ⟨va_cnB 2 hts gX7_add_X11_at_n70 rfl rfl rfl hs.1.2.2.2.2.2.2.2.2.2.2.2.2.2.2.2.2.2.2.2.2.1 wiX11 (by decide +kernel) ⟨Nat.le_of_ble_eq_true rfl, Nat.le_of_ble_eq_true rfl⟩, wstat, trivial⟩ hK hP hD hS hA rfl hl.1 rfl (Nat.le_of_ble_eq_true rfl) dX7_add_62 ⟨Nat.zero_le _, Nat.zero_le _⟩ (fun r_ S_ H locs hq hP hD hS => ?_)
          obtain ⟨rfl, rfl⟩ := hq
          refine lv_iload hx hb dX7_add_65 (lv_at hl 0 rfl) ?_
          refine lv_ior hx hb dX7_add_67 ?_
          refine e_callNv (As := [.ref (h 45), .int (p2 / 32), .int ((k_at 32 (cx_s_seen S) (p2 / 32)) ||| (k_shl 1 (k_rem p2 32)))]) (rest := []) clE_stable hs ⟨hx, hb, hml, hown, hts⟩ (cA_put l D clE (tyC cy) (wC h cy) cx_s_seen cx_set_s_seen S 45 33 _ _ 32 rfl (wCs_s_seen h cy S) rfl (by decide) _ _ (fun S0 => S0 = (cx_set_s_seen S (k_put 32 (cx_s_seen S) (p2 / 32) ((k_at 32 (cx_s_seen S) (p2 / 32)) ||| (k_shl 1 (k_rem p2 32)))))) rfl) ⟨va_cnB 3 hts gX7_add_X11_put_n74 rfl rfl rfl hs.1.2.2.2.2.2.2.2.2.2.2.2.2.2.2.2.2.2.2.2.2.2.1 wiX11 (by decide +kernel) ⟨Nat.le_of_ble_eq_true rfl, Nat.le_of_ble_eq_true rfl⟩, wstput, trivial⟩ hK hP hD hS hA rfl hl.1 rfl (Nat.le_of_ble_eq_true rfl) dX7_add_68 ⟨Nat.zero_le _, Nat.zero_le _⟩ (fun S_5 H locs eS_5 hP hD hS => ?_)
          replace hw := hw S_5 eS_5
          refine lv_aload_n hx hb dX7_add_71 rfl (lv_at hl 2 rfl) ?_
          refine va_get (D := D) (ci := 7) (v := .ref (h 44)) (C := RX7) (T := TX7) (N := 6) hx hb hts hin7 hown hK hP 8 rfl rfl 1 (by decide) w15 (fun _ h9 => h9) rfl dX7_add_72 ?_
          refine lv_aload_n hx hb dX7_add_75 rfl (lv_at hl 2 rfl) ?_
          refine va_get (D := D) (ci := 7) (v := .int (cx_s_count S_5)) (C := RX7) (T := TX7) (N := 6) hx hb hts hin7 hown hK hP 8 rfl rfl 3 (by decide) w22 (fun _ h9 => h9) rfl dX7_add_76 ?_
          refine lv_lload_n hx hb dX7_add_79 rfl (lv_at hl 3 rfl) ?_
          refine lv_ldc2 (v := 1024) hx hb hown wc49 dX7_add_80 ?_
          refine lv_lmul hx hb dX7_add_83 ?_
          refine lv_iload_n hx hb dX7_add_84 rfl (lv_at hl 4 rfl) ?_
          refine lv_i2l (v := Int32.toInt64 p2) hx hb dX7_add_85 rfl ?_
          refine lv_ladd hx hb dX7_add_86 ?_
          obtain ⟨hi_8, hw⟩ := hw
          refine va_last (f := (cx_s_nextLayer S_5)) hx hb hK hP hD hS 44 32 rfl rfl hi_8 dX7_add_87 (fun H locs hP hD hS => ?_)
          obtain ⟨S_6, eS_6⟩ : ∃ z : CS, z = (cx_set_s_nextLayer S_5 (vp_updL (cx_s_nextLayer S_5) ((cx_s_count S_5).toNatClampNeg) ((p1 * 1024) + (Int32.toInt64 p2)))) := ⟨_, rfl⟩
          replace hw := hw S_6 eS_6
          have hP : va_P D vwCl (wC h cy S_6) H := by rw [eS_6, ← wCs_s_nextLayer]; exact hP
          have hD : va_D A (wC h cy S_6) := by rw [eS_6, ← wCs_s_nextLayer]; exact hD
          refine lv_aload_n hx hb dX7_add_88 rfl (lv_at hl 2 rfl) ?_
          refine lv_dup hx hb dX7_add_89 rfl ?_
          refine va_get (D := D) (ci := 7) (v := .int (cx_s_count S_6)) (C := RX7) (T := TX7) (N := 6) hx hb hts hin7 hown hK hP 8 rfl rfl 3 (by decide) w22 (fun _ h9 => h9) rfl dX7_add_90 ?_
          refine lv_iconst (v := 1) hx hb dX7_add_93 (by decide) ?_
          refine lv_iadd hx hb dX7_add_94 ?_
          refine va_put (D := D) (ci := 7) (v := .int ((cx_s_count S_6) + 1)) (ty := .int) (C := RX7) (T := TX7) (N := 6) hx hb hts hin7 tyX7 tyX7_ok nmX7 hown hK hP hD hS 8 rfl rfl 3 (by decide) w22 (fun _ h9 => h9) rfl (tyX7_ok 3 (by decide)) rfl rfl (Nat.le_of_ble_eq_true rfl) dX7_add_95 (fun H locs hP hD hS => ?_)
          obtain ⟨S_7, eS_7⟩ : ∃ z : CS, z = (cx_set_s_count S_6 ((cx_s_count S_6) + 1)) := ⟨_, rfl⟩
          replace hw := hw S_7 eS_7
          have hP : va_P D vwCl (wC h cy S_7) H := by rw [eS_7, ← wCp_s_count]; exact hP
          have hD : va_D A (wC h cy S_7) := by rw [eS_7, ← wCp_s_count]; exact hD
          exact W.vret hx hb hr (fun t ht hW => ⟨⟨S_7, rfl, hw, by rw [ht]; exact hP, va_K.moved hW.alike hK, hD⟩, hS.F ht⟩) hS.2.2 dX7_add_98
def wC_X5_arrived (p1 : Int32) (S : CS) (post : Int32 → CS → Prop) : Prop := (((cx_m_toGladness S) = 0 → wC_J6_bitCount_0f7a4 p1 S (fun r_2 S_3 => ((r_2 = 1 → post 1 S_3) ∧ (¬ (r_2 = 1) → post 0 S_3)))) ∧ (¬ ((cx_m_toGladness S) = 0) → ((p1 = 512 → post 1 S) ∧ (¬ (p1 = 512) → post 0 S))))
set_option maxHeartbeats 4000000 in
set_option maxRecDepth 100000 in
theorem cC_X5_arrived (l : Launch) (D : va_G) (h : Nat → Nat) (cy : Nat → ClassId) (p1 : Int32) (S : CS) (post : Int32 → CS → Prop) (hw : wC_X5_arrived p1 S post) : e_Mi clE l yX5_arrived wsX5_arrived { frames := 1, cells := 0, slots := 0, locals := 20 } D (tyC cy) (wC h cy) [.ref (h 9), .int p1] S post := by
  intro sz
  refine Met.ofW (cc := cX5_arrived) (maxL := 2) (ret := (some .boolean)) (by decide) rfl ?_
  intro p e s m args below meth c s₁ B hml hv
  obtain ⟨rfl, hsz, hP, hK, hD0, hs⟩ := hv
  have hx := B.exec
  have hb := B.bytes
  have hr := B.returns
  have hts := atoms_spec (ws := wsX5_arrived) B.pre
  have hown : s.vm.findClass RX5 = some m.cls := findClass_of_methodNamed B.named
  have hlocks := B.notSynchronized
  subst hsz
  have hD := hD0.self (sz := s.heap.size)
  generalize hAe : va_A (wC h cy S) s.heap.size = A at hD hs ⊢
  have hA : ∀ q : Nat, s.heap.size ≤ q → A q := fun q h => by rw [← hAe]; exact Or.inr h
  have hS : va_S A s.heap s.heap [] := va_S.rf
  have hin5 : ∀ w ∈ wsX50, w ∈ wsX5_arrived := fun _ h => List.mem_cons_of_mem _ (List.mem_append_right _ h)
  have w9 := hts (.fieldLink RX5 9 "ClownsMourn$MoodWalk" "toGladness" "Z") (List.mem_of_getElem? (i := 1) rfl)
  have hl := lv_entry ([.ref (h 9), .int p1]) (n := 2) (Nat.le_of_ble_eq_true rfl)
  rw [lg_entry_eq]
  generalize (lg_sl ([.ref (h 9), .int p1]) ++ List.replicate (2 - (lg_sl ([.ref (h 9), .int p1])).length) Slot.unset).toArray = ls at hl ⊢
  have hl : lv_has ls 2 [(0, .ref (h 9)), (1, .int p1)] := hl
  unfold wC_X5_arrived at hw
  clear hD0
  refine lv_aload_n hx hb dX5_arrived_0 rfl (lv_at hl 0 rfl) ?_
  refine va_get (D := D) (ci := 5) (v := .int (cx_m_toGladness S)) (C := RX5) (T := TX5) (N := 2) hx hb hts hin5 hown hK hP 9 rfl rfl 1 (by decide) w9 (fun _ h9 => h9) rfl dX5_arrived_1 ?_
  obtain ⟨hc_1t, hc_1f⟩ := hw
  refine lv_if_eq (tgt := 22) hx hb dX5_arrived_4 (by decide) (fun c_1 => ?_) (fun c_1 => ?_)
  · have hw := hc_1t c_1
    clear hc_1t hc_1f
    refine lv_iload_n hx hb dX5_arrived_22 rfl (lv_at hl 1 rfl) ?_
    refine e_callSi (As := [.int p1]) (rest := []) clE_stable hs ⟨hx, hb, hml, hown, hts⟩ (cC_J6_bitCount_0f7a4 l D h cy _ _ _ hw) (va_cwS 1 hts gX5_arrived_J6_bitCount_0f7a4 rfl rfl rfl (by decide +kernel) ⟨Nat.le_of_ble_eq_true rfl, Nat.le_of_ble_eq_true rfl⟩) hK hP hD hS hA rfl hl.1 rfl (Nat.le_of_ble_eq_true rfl) dX5_arrived_23 ⟨Nat.zero_le _, Nat.zero_le _⟩ (fun r_2 S_3 H locs hw hP hD hS => ?_)
    refine lv_iconst (v := 1) hx hb dX5_arrived_26 (by decide) ?_
    obtain ⟨hc_4t, hc_4f⟩ := hw
    refine lv_icmp_ne (tgt := 34) hx hb dX5_arrived_27 (by decide) (fun c_4 => ?_) (fun c_4 => ?_)
    · have hw := hc_4f c_4
      clear hc_4t hc_4f
      refine lv_iconst (v := 0) hx hb dX5_arrived_34 (by decide) ?_
      exact W.zret (v := 0) hx hb hr (by decide +kernel) (fun t ht hW => ⟨⟨0, S_3, rfl, hw, by rw [ht]; exact hP, va_K.moved hW.alike hK, hD⟩, hS.F ht⟩) hS.2.2 dX5_arrived_35
    · have hw := hc_4t c_4
      clear hc_4t hc_4f
      refine lv_iconst (v := 1) hx hb dX5_arrived_30 (by decide) ?_
      refine lv_goto (tgt := 35) hx hb dX5_arrived_31 (by decide) ?_
      exact W.zret (v := 1) hx hb hr (by decide +kernel) (fun t ht hW => ⟨⟨1, S_3, rfl, hw, by rw [ht]; exact hP, va_K.moved hW.alike hK, hD⟩, hS.F ht⟩) hS.2.2 dX5_arrived_35
  · have hw := hc_1f c_1
    clear hc_1t hc_1f
    refine lv_iload_n hx hb dX5_arrived_7 rfl (lv_at hl 1 rfl) ?_
    refine lv_sipush (v := 512) hx hb dX5_arrived_8 (by decide) ?_
    obtain ⟨hc_5t, hc_5f⟩ := hw
    refine lv_icmp_ne (tgt := 18) hx hb dX5_arrived_11 (by decide) (fun c_5 => ?_) (fun c_5 => ?_)
    · have hw := hc_5f c_5
      clear hc_5t hc_5f
      refine lv_iconst (v := 0) hx hb dX5_arrived_18 (by decide) ?_
      refine lv_goto (tgt := 35) hx hb dX5_arrived_19 (by decide) ?_
      exact W.zret (v := 0) hx hb hr (by decide +kernel) (fun t ht hW => ⟨⟨0, S, rfl, hw, by rw [ht]; exact hP, va_K.moved hW.alike hK, hD⟩, hS.F ht⟩) hS.2.2 dX5_arrived_35
    · have hw := hc_5t c_5
      clear hc_5t hc_5f
      refine lv_iconst (v := 1) hx hb dX5_arrived_14 (by decide) ?_
      refine lv_goto (tgt := 35) hx hb dX5_arrived_15 (by decide) ?_
      exact W.zret (v := 1) hx hb hr (by decide +kernel) (fun t ht hW => ⟨⟨1, S, rfl, hw, by rw [ht]; exact hP, va_K.moved hW.alike hK, hD⟩, hS.F ht⟩) hS.2.2 dX5_arrived_35
def wC_X5_changes (S : CS) (post : Int32 → CS → Prop) : Prop := post 0 S
set_option maxHeartbeats 4000000 in
set_option maxRecDepth 100000 in
theorem cC_X5_changes (l : Launch) (D : va_G) (h : Nat → Nat) (cy : Nat → ClassId) (S : CS) (post : Int32 → CS → Prop) (hw : wC_X5_changes S post) : e_Mi clE l yX5_changes wsX5_changes { frames := 0, cells := 0, slots := 0, locals := 0 } D (tyC cy) (wC h cy) [.ref (h 9)] S post := by
  intro sz
  refine Met.ofW (cc := cX5_changes) (maxL := 1) (ret := (some .boolean)) (by decide) rfl ?_
  intro p e s m args below meth c s₁ B hml hv
  obtain ⟨rfl, hsz, hP, hK, hD0, hs⟩ := hv
  have hx := B.exec
  have hb := B.bytes
  have hr := B.returns
  have hts := atoms_spec (ws := wsX5_changes) B.pre
  have hown : s.vm.findClass RX5 = some m.cls := findClass_of_methodNamed B.named
  have hlocks := B.notSynchronized
  subst hsz
  have hD := hD0.self (sz := s.heap.size)
  generalize hAe : va_A (wC h cy S) s.heap.size = A at hD hs ⊢
  have hA : ∀ q : Nat, s.heap.size ≤ q → A q := fun q h => by rw [← hAe]; exact Or.inr h
  have hS : va_S A s.heap s.heap [] := va_S.rf
  have hl := lv_entry ([.ref (h 9)]) (n := 1) (Nat.le_of_ble_eq_true rfl)
  rw [lg_entry_eq]
  generalize (lg_sl ([.ref (h 9)]) ++ List.replicate (1 - (lg_sl ([.ref (h 9)])).length) Slot.unset).toArray = ls at hl ⊢
  have hl : lv_has ls 1 [(0, .ref (h 9))] := hl
  unfold wC_X5_changes at hw
  clear hD0
  refine lv_iconst (v := 0) hx hb dX5_changes_0 (by decide) ?_
  exact W.zret (v := 0) hx hb hr (by decide +kernel) (fun t ht hW => ⟨⟨0, S, rfl, hw, by rw [ht]; exact hP, va_K.moved hW.alike hK, hD⟩, hS.F ht⟩) hS.2.2 dX5_changes_1
def wC_X7_find_mood_200 (post : CS → Prop) (K36 : Int32 → Int32 → Int32 → CS → Prop) (x3 : Int32) (x5 : Int32) (S : CS) : Prop := wC_X11_held (cx_s_count S) 0 1024 S (fun r_1 S_2 => (¬ r_1 < 0 ∧ r_1.toNatClampNeg ≤ 1024 ∧ r_1.toNatClampNeg ≤ 1024 ∧ ∀ S_3 : CS, S_3 = (cx_set_s_layer S_2 (va_cpy (cx_s_nextLayer S_2) (cx_s_layer S_2) 0 0 r_1.toNatClampNeg)) → K36 x3 (cx_s_count S) (x5 + 1) S_3))
def wC_X7_find_mood_78 (post : CS → Prop) (K36 : Int32 → Int32 → Int32 → CS → Prop) : Nat → Int32 → Int32 → Int32 → Int32 → CS → Prop
  | 0, _, _, _, _, _ => False
  | n + 1, x3, x4, x5, x6, S => (((x4 * 5) ≤ x6 → wC_X7_find_mood_200 post K36 x3 x5 S) ∧ (¬ ((x4 * 5) ≤ x6) → ((1024 ≤ (x6 / 5) → wC_X7_find_mood_200 post K36 x3 x5 S) ∧ (¬ (1024 ≤ (x6 / 5)) → (((cx_s_length S) = (-1) → (vp_in (x6 / 5) 1024 ∧ wC_X5_moved (Int64.toInt32 (k_remL ((cx_s_layer S) (x6 / 5).toNatClampNeg) 1024)) (k_rem x6 5) x5 S (fun r_4 S_5 => wC_X7_add (((((cx_s_layer S) (x6 / 5).toNatClampNeg) / 1024) * 5) + (Int32.toInt64 (k_rem x6 5))) r_4 S_5 (fun S_7 => wC_X5_arrived r_4 S_7 (fun r_8 S_9 => ((r_8 = 0 → wC_X7_find_mood_78 post K36 n x3 x4 x5 (x6 + 1) S_9) ∧ (¬ (r_8 = 0) → (∀ S_11 : CS, S_11 = (cx_set_s_length S_9 (x5 + 1)) → (∀ S_12 : CS, S_12 = (cx_set_s_path S_11 (((((cx_s_layer S) (x6 / 5).toNatClampNeg) / 1024) * 5) + (Int32.toInt64 (k_rem x6 5)))) → wC_X7_find_mood_78 post K36 n x3 x4 x5 (x6 + 1) S_12))))))))) ∧ (¬ ((cx_s_length S) = (-1)) → wC_X7_find_mood_200 post K36 x3 x5 S))))))
def wC_X7_find_mood_36 (post : CS → Prop) : Nat → Int32 → Int32 → Int32 → CS → Prop
  | 0, _, _, _, _ => False
  | n + 1, x3, x4, x5, S => ((x3 ≤ x5 → post S) ∧ (¬ (x3 ≤ x5) → (((cx_s_length S) = (-1) → (∀ S_3 : CS, S_3 = (cx_set_s_count S 0) → ((x5 = 0 → (∀ S_5 : CS, S_5 = (cx_set_s_seen S_3 (k_fill 32 (cx_s_seen S_3) 0)) → ∃ k_ : Nat, wC_X7_find_mood_78 post (wC_X7_find_mood_36 post n) k_ x3 x4 x5 0 S_5)) ∧ (¬ (x5 = 0) → wC_X5_changes S_3 (fun r_6 S_7 => ((r_6 = 0 → ∃ k_ : Nat, wC_X7_find_mood_78 post (wC_X7_find_mood_36 post n) k_ x3 x4 x5 0 S_7) ∧ (¬ (r_6 = 0) → (∀ S_9 : CS, S_9 = (cx_set_s_seen S_7 (k_fill 32 (cx_s_seen S_7) 0)) → ∃ k_ : Nat, wC_X7_find_mood_78 post (wC_X7_find_mood_36 post n) k_ x3 x4 x5 0 S_9)))))))) ∧ (¬ ((cx_s_length S) = (-1)) → post S))))
def wC_X7_find_mood_14 (post : CS → Prop) (x2 : Int32) (x3 : Int32) (t1 : Int32) (S : CS) : Prop := (∀ S_1 : CS, S_1 = (cx_set_s_length S t1) → (∀ S_2 : CS, S_2 = (cx_set_s_path S_1 0) → (∀ S_3 : CS, S_3 = (cx_set_s_layer S_2 (vp_updL (cx_s_layer S_2) (Int32.toNatClampNeg 0) (Int32.toInt64 x2))) → ∃ k_ : Nat, wC_X7_find_mood_36 post k_ x3 1 0 S_3)))
def wC_X7_find_mood (p2 : Int32) (p3 : Int32) (S : CS) (post : CS → Prop) : Prop := wC_X5_arrived p2 S (fun r_1 S_2 => ((r_1 = 0 → wC_X7_find_mood_14 post p2 p3 (-1) S_2) ∧ (¬ (r_1 = 0) → wC_X7_find_mood_14 post p2 p3 0 S_2)))
set_option maxHeartbeats 4000000 in
set_option maxRecDepth 100000 in
theorem cC_X7_find_mood (l : Launch) (D : va_G) (h : Nat → Nat) (cy : Nat → ClassId) (p2 : Int32) (p3 : Int32) (S : CS) (post : CS → Prop) (hw : wC_X7_find_mood p2 p3 S post) : e_Mv clE l yX7_find wsX7_find { frames := 5, cells := 0, slots := 0, locals := 123 } D (tyC cy) (wC h cy) [.ref (h 8), .ref (h 9), .int p2, .int p3] S post := by
  intro sz
  refine Met.ofW (cc := cX7_find) (maxL := 11) (ret := none) (by decide) rfl ?_
  intro p e s m args below meth c s₁ B hml hv
  obtain ⟨rfl, hsz, hP, hK, hD0, hs⟩ := hv
  have hx := B.exec
  have hb := B.bytes
  have hr := B.returns
  have hts := atoms_spec (ws := wsX7_find) B.pre
  have hown : s.vm.findClass RX7 = some m.cls := findClass_of_methodNamed B.named
  have hlocks := B.notSynchronized
  subst hsz
  have hD := hD0.self (sz := s.heap.size)
  generalize hAe : va_A (wC h cy S) s.heap.size = A at hD hs ⊢
  have hA : ∀ q : Nat, s.heap.size ≤ q → A q := fun q h => by rw [← hAe]; exact Or.inr h
  have hS : va_S A s.heap s.heap [] := va_S.rf
  have hin7 : ∀ w ∈ wsX70, w ∈ wsX7_find := fun _ h => List.mem_cons_of_mem _ (List.mem_append_left _ (List.mem_append_left _ (List.mem_append_left _ (List.mem_append_left _ (List.mem_append_left _ (List.mem_append_right _ h))))))
  have hin1 : ∀ w ∈ wsX10, w ∈ wsX7_find := fun _ h => List.mem_cons_of_mem _ (List.mem_append_left _ (List.mem_append_left _ (List.mem_append_left _ (List.mem_append_left _ (List.mem_append_right _ h)))))
  have hin5 : ∀ w ∈ wsX50, w ∈ wsX7_find := fun _ h => List.mem_cons_of_mem _ (List.mem_append_left _ (List.mem_append_left _ (List.mem_append_left _ (List.mem_append_right _ h))))
  have hin0 : ∀ w ∈ wsX00, w ∈ wsX7_find := fun _ h => List.mem_cons_of_mem _ (List.mem_append_left _ (List.mem_append_left _ (List.mem_append_right _ h)))
  have hin3 : ∀ w ∈ wsX30, w ∈ wsX7_find := fun _ h => List.mem_cons_of_mem _ (List.mem_append_left _ (List.mem_append_right _ h))
  have hin9 : ∀ w ∈ wsX90, w ∈ wsX7_find := fun _ h => List.mem_cons_of_mem _ (List.mem_append_right _ h)
  have wc49 := hts (.constantLong RX7 49 (1024)) (List.mem_of_getElem? (i := 6) rfl)
  have wc55 := hts (.constantLong RX7 55 (5)) (List.mem_of_getElem? (i := 7) rfl)
  have w11 := hts (.fieldLink RX7 11 "ClownsMourn$Search" "layer" "[J") (List.mem_of_getElem? (i := 3) rfl)
  have w15 := hts (.fieldLink RX7 15 "ClownsMourn$Search" "nextLayer" "[J") (List.mem_of_getElem? (i := 8) rfl)
  have w18 := hts (.fieldLink RX7 18 "ClownsMourn$Search" "seen" "[I") (List.mem_of_getElem? (i := 5) rfl)
  have w22 := hts (.fieldLink RX7 22 "ClownsMourn$Search" "count" "I") (List.mem_of_getElem? (i := 4) rfl)
  have w26 := hts (.fieldLink RX7 26 "ClownsMourn$Search" "length" "I") (List.mem_of_getElem? (i := 1) rfl)
  have w29 := hts (.fieldLink RX7 29 "ClownsMourn$Search" "path" "J") (List.mem_of_getElem? (i := 2) rfl)
  have wiX11 := hts (.initialized RX11) (List.mem_of_getElem? (i := 69) rfl)
  have wstheld := hts (.static yX11_held) (List.mem_of_getElem? (i := 141) rfl)
  have wac := hts (.methodLink RX7 64 arraycopyName) (List.mem_of_getElem? (i := 9) rfl)
  have wacn := hts (.native arraycopyName) (List.mem_of_getElem? (i := 10) rfl)
  have wacs := hts (.static arraycopyName) (List.mem_of_getElem? (i := 11) rfl)
  have wacS := hts (.initialized "java/lang/System") (List.mem_of_getElem? (i := 12) rfl)
  have hl := lv_entry ([.ref (h 8), .ref (h 9), .int p2, .int p3]) (n := 11) (Nat.le_of_ble_eq_true rfl)
  rw [lg_entry_eq]
  generalize (lg_sl ([.ref (h 8), .ref (h 9), .int p2, .int p3]) ++ List.replicate (11 - (lg_sl ([.ref (h 8), .ref (h 9), .int p2, .int p3])).length) Slot.unset).toArray = ls at hl ⊢
  have hl : lv_has ls 11 [(0, .ref (h 8)), (1, .ref (h 9)), (2, .int p2), (3, .int p3)] := hl
  unfold wC_X7_find_mood at hw
  clear hD0
  have L_36 : ∀ (n36 : Nat) (x3 : Int32) (x4 : Int32) (x5 : Int32) (S : CS) (H : Heap) (locs : List Loc) (ls : Array Slot), wC_X7_find_mood_36 post n36 x3 x4 x5 S → va_P D vwCl (wC h cy S) H → va_D A (wC h cy S) → va_S A s.heap H locs → lv_has ls 11 [(0, .ref (h 8)), (1, .ref (h 9)), (3, .int x3), (4, .int x4), (5, .int x5)] → W p l e (headSpec wsX7_find { frames := 5, cells := 0, slots := 0, locals := 123 }).room s m (([.ref (h 8), .ref (h 9), .int p2, .int p3] : List Value).toArray) below meth c H locs 0 0 (MQ below (va_Qv post (k_Post D (tyC cy) (wC h cy) A) A) (([.ref (h 8), .ref (h 9), .int p2, .int p3] : List Value).toArray) s 0 0 A) (F0 m 36 ls []) := by
    intro n36
    induction n36 with
    | zero => intro x3 x4 x5 S H locs ls hw; exact False.elim hw
    | succ n36 ih_36 =>
      have J_200 : ∀ (x3 : Int32) (x5 : Int32) (S : CS) (H : Heap) (locs : List Loc) (ls : Array Slot), wC_X7_find_mood_200 post (wC_X7_find_mood_36 post n36) x3 x5 S → va_P D vwCl (wC h cy S) H → va_D A (wC h cy S) → va_S A s.heap H locs → lv_has ls 11 [(0, .ref (h 8)), (1, .ref (h 9)), (3, .int x3), (5, .int x5)] → W p l e (headSpec wsX7_find { frames := 5, cells := 0, slots := 0, locals := 123 }).room s m (([.ref (h 8), .ref (h 9), .int p2, .int p3] : List Value).toArray) below meth c H locs 0 0 (MQ below (va_Qv post (k_Post D (tyC cy) (wC h cy) A) A) (([.ref (h 8), .ref (h 9), .int p2, .int p3] : List Value).toArray) s 0 0 A) (F0 m 200 ls []) := by
        intro x3 x5 S H locs ls hw hP hD hS hl
        unfold wC_X7_find_mood_200 at hw
        refine lv_aload_n hx hb dX7_find_200 rfl (lv_at hl 0 rfl) ?_
        refine va_get (D := D) (ci := 7) (v := .int (cx_s_count S)) (C := RX7) (T := TX7) (N := 6) hx hb hts hin7 hown hK hP 8 rfl rfl 3 (by decide) w22 (fun _ h9 => h9) rfl dX7_find_201 ?_
        refine lv_istore (lv' := [(4, .int (cx_s_count S)), (0, .ref (h 8)), (1, .ref (h 9)), (3, .int x3), (5, .int x5)]) hx hb dX7_find_204 hl (by decide) rfl (fun ls hl => ?_)
        refine lv_aload_n hx hb dX7_find_206 rfl (lv_at hl 1 rfl) ?_
        refine va_get (D := D) (ci := 7) (v := .ref (h 44)) (C := RX7) (T := TX7) (N := 6) hx hb hts hin7 hown hK hP 8 rfl rfl 1 (by decide) w15 (fun _ h9 => h9) rfl dX7_find_207 ?_
        refine lv_iconst (v := 0) hx hb dX7_find_210 (by decide) ?_
        refine lv_aload_n hx hb dX7_find_211 rfl (lv_at hl 1 rfl) ?_
        refine va_get (D := D) (ci := 7) (v := .ref (h 43)) (C := RX7) (T := TX7) (N := 6) hx hb hts hin7 hown hK hP 8 rfl rfl 0 (by decide) w11 (fun _ h9 => h9) rfl dX7_find_212 ?_
        refine lv_iconst (v := 0) hx hb dX7_find_215 (by decide) ?_
        refine lv_aload_n hx hb dX7_find_216 rfl (lv_at hl 1 rfl) ?_
        refine va_get (D := D) (ci := 7) (v := .int (cx_s_count S)) (C := RX7) (T := TX7) (N := 6) hx hb hts hin7 hown hK hP 8 rfl rfl 3 (by decide) w22 (fun _ h9 => h9) rfl dX7_find_217 ?_
        refine lv_iconst (v := 0) hx hb dX7_find_220 (by decide) ?_
        refine lv_sipush (v := 1024) hx hb dX7_find_221 (by decide) ?_
        refine e_callNi (As := [.int (cx_s_count S), .int 0, .int 1024]) (rest := [.int 0, .ref (h 43), .int 0, .ref (h 44)]) clE_stable hs ⟨hx, hb, hml, hown, hts⟩ (cC_X11_held l D h cy _ _ _ _ _ hw) ⟨va_cnB 3 hts gX7_find_X11_held_n61 rfl rfl rfl hs.1.2.2.2.2.2.2.2.2.2.2.2.2.2.2.2.2.2.2.2.2.2.2.1 wiX11 (by decide +kernel) ⟨Nat.le_of_ble_eq_true rfl, Nat.le_of_ble_eq_true rfl⟩, wstheld, trivial⟩ hK hP hD hS hA rfl hl.1 rfl (Nat.le_of_ble_eq_true rfl) dX7_find_224 ⟨Nat.zero_le _, Nat.zero_le _⟩ (fun r_1 S_2 H locs hw hP hD hS => ?_)
        obtain ⟨hc_4a, hc_4b, hc_4c, hw⟩ := hw
        refine k_copyl0 (own := RX7) (index := 64) (f := (cx_s_nextLayer S_2)) (g := (cx_s_layer S_2)) hx hb (hml.trans hl.1.symm) hown wac wacn wacs wacS hK hP hD hS 44 43 32 31 rfl rfl rfl rfl hc_4a hc_4b hc_4c (Nat.le_of_ble_eq_true rfl) (by decide) dX7_find_227 (fun H locs hP hD hS => ?_)
        obtain ⟨S_3, eS_3⟩ : ∃ z : CS, z = (cx_set_s_layer S_2 (va_cpy (cx_s_nextLayer S_2) (cx_s_layer S_2) 0 0 r_1.toNatClampNeg)) := ⟨_, rfl⟩
        replace hw := hw S_3 eS_3
        have hP : va_P D vwCl (wC h cy S_3) H := by rw [eS_3, ← wCs_s_layer]; exact hP
        have hD : va_D A (wC h cy S_3) := by rw [eS_3, ← wCs_s_layer]; exact hD
        refine lv_iinc (v := x5 + 1) (lv' := [(5, .int (x5 + 1)), (4, .int (cx_s_count S)), (0, .ref (h 8)), (1, .ref (h 9)), (3, .int x3)]) hx hb dX7_find_230 hl (k := 4) rfl (k_inc (by decide)) (by decide) rfl (fun ls hl => ?_)
        refine lv_goto (tgt := 36) hx hb dX7_find_233 (by decide) ?_
        exact ih_36 x3 (cx_s_count S) (x5 + 1) S_3 _ _ _ hw hP hD hS (lv_sub hl [2, 3, 4, 1, 0] rfl)
      have L_78 : ∀ (n78 : Nat) (x3 : Int32) (x4 : Int32) (x5 : Int32) (x6 : Int32) (S : CS) (H : Heap) (locs : List Loc) (ls : Array Slot), wC_X7_find_mood_78 post (wC_X7_find_mood_36 post n36) n78 x3 x4 x5 x6 S → va_P D vwCl (wC h cy S) H → va_D A (wC h cy S) → va_S A s.heap H locs → lv_has ls 11 [(0, .ref (h 8)), (1, .ref (h 9)), (3, .int x3), (4, .int x4), (5, .int x5), (6, .int x6)] → W p l e (headSpec wsX7_find { frames := 5, cells := 0, slots := 0, locals := 123 }).room s m (([.ref (h 8), .ref (h 9), .int p2, .int p3] : List Value).toArray) below meth c H locs 0 0 (MQ below (va_Qv post (k_Post D (tyC cy) (wC h cy) A) A) (([.ref (h 8), .ref (h 9), .int p2, .int p3] : List Value).toArray) s 0 0 A) (F0 m 78 ls []) := by
        intro n78
        induction n78 with
        | zero => intro x3 x4 x5 x6 S H locs ls hw; exact False.elim hw
        | succ n78 ih_78 =>
          intro x3 x4 x5 x6 S H locs ls hw hP hD hS hl
          unfold wC_X7_find_mood_78 at hw
          refine lv_iload hx hb dX7_find_78 (lv_at hl 5 rfl) ?_
          refine lv_iload hx hb dX7_find_80 (lv_at hl 3 rfl) ?_
          refine lv_iconst (v := 5) hx hb dX7_find_82 (by decide) ?_
          refine lv_imul hx hb dX7_find_83 ?_
          obtain ⟨hc_5t, hc_5f⟩ := hw
          refine lv_icmp_ge (tgt := 200) hx hb dX7_find_84 (by decide) (fun c_5 => ?_) (fun c_5 => ?_)
          · have hw := hc_5t c_5
            clear hc_5t hc_5f
            exact J_200 x3 x5 S _ _ _ hw hP hD hS (lv_sub hl [0, 1, 2, 4] rfl)
          · have hw := hc_5f c_5
            clear hc_5t hc_5f
            refine lv_iload hx hb dX7_find_87 (lv_at hl 5 rfl) ?_
            refine lv_iconst (v := 5) hx hb dX7_find_89 (by decide) ?_
            refine lv_idiv hx hb dX7_find_90 (by decide) ?_
            refine lv_sipush (v := 1024) hx hb dX7_find_91 (by decide) ?_
            obtain ⟨hc_6t, hc_6f⟩ := hw
            refine lv_icmp_ge (tgt := 200) hx hb dX7_find_94 (by decide) (fun c_6 => ?_) (fun c_6 => ?_)
            · have hw := hc_6t c_6
              clear hc_6t hc_6f
              exact J_200 x3 x5 S _ _ _ hw hP hD hS (lv_sub hl [0, 1, 2, 4] rfl)
            · have hw := hc_6f c_6
              clear hc_6t hc_6f
              refine lv_aload_n hx hb dX7_find_97 rfl (lv_at hl 0 rfl) ?_
              refine va_get (D := D) (ci := 7) (v := .int (cx_s_length S)) (C := RX7) (T := TX7) (N := 6) hx hb hts hin7 hown hK hP 8 rfl rfl 4 (by decide) w26 (fun _ h9 => h9) rfl dX7_find_98 ?_
              refine lv_iconst (v := (-1)) hx hb dX7_find_101 (by decide) ?_
              obtain ⟨hc_7t, hc_7f⟩ := hw
              refine lv_icmp_ne (tgt := 200) hx hb dX7_find_102 (by decide) (fun c_7 => ?_) (fun c_7 => ?_)
              · have hw := hc_7f c_7
                clear hc_7t hc_7f
                exact J_200 x3 x5 S _ _ _ hw hP hD hS (lv_sub hl [0, 1, 2, 4] rfl)
              · have hw := hc_7t c_7
                clear hc_7t hc_7f
                refine lv_aload_n hx hb dX7_find_105 rfl (lv_at hl 0 rfl) ?_
                refine va_get (D := D) (ci := 7) (v := .ref (h 43)) (C := RX7) (T := TX7) (N := 6) hx hb hts hin7 hown hK hP 8 rfl rfl 0 (by decide) w11 (fun _ h9 => h9) rfl dX7_find_106 ?_
                refine lv_iload hx hb dX7_find_109 (lv_at hl 5 rfl) ?_
                refine lv_iconst (v := 5) hx hb dX7_find_111 (by decide) ?_
                refine lv_idiv hx hb dX7_find_112 (by decide) ?_
                obtain ⟨hi_17, hw⟩ := hw
                refine va_lald (f := (cx_s_layer S)) hx hb hK hP 43 31 rfl rfl hi_17 dX7_find_113 ?_
                refine lv_lstore (lv' := [(7, .long ((cx_s_layer S) (x6 / 5).toNatClampNeg)), (0, .ref (h 8)), (1, .ref (h 9)), (3, .int x3), (4, .int x4), (5, .int x5), (6, .int x6)]) hx hb dX7_find_114 hl (by decide) rfl (fun ls hl => ?_)
                refine lv_iload hx hb dX7_find_116 (lv_at hl 6 rfl) ?_
                refine lv_iconst (v := 5) hx hb dX7_find_118 (by decide) ?_
                refine k_irem hx hb dX7_find_119 (by decide) ?_
                refine lv_istore (lv' := [(9, .int (k_rem x6 5)), (7, .long ((cx_s_layer S) (x6 / 5).toNatClampNeg)), (0, .ref (h 8)), (1, .ref (h 9)), (3, .int x3), (4, .int x4), (5, .int x5), (6, .int x6)]) hx hb dX7_find_120 hl (by decide) rfl (fun ls hl => ?_)
                refine lv_aload_n hx hb dX7_find_122 rfl (lv_at hl 3 rfl) ?_
                refine lv_lload hx hb dX7_find_123 (lv_at hl 1 rfl) ?_
                refine lv_ldc2 (v := 1024) hx hb hown wc49 dX7_find_125 ?_
                refine k_lrem hx hb dX7_find_128 (by decide) ?_
                refine lv_l2i (v := Int64.toInt32 (k_remL ((cx_s_layer S) (x6 / 5).toNatClampNeg) 1024)) hx hb dX7_find_129 rfl ?_
                refine lv_iload hx hb dX7_find_130 (lv_at hl 0 rfl) ?_
                refine lv_iload hx hb dX7_find_132 (lv_at hl 6 rfl) ?_
                refine e_callUi (As := [.int (Int64.toInt32 (k_remL ((cx_s_layer S) (x6 / 5).toNatClampNeg) 1024)), .int (k_rem x6 5), .int x5]) (rest := []) clE_stable hs ⟨hx, hb, hml, hown, hts⟩ (cC_X5_moved l D h cy _ _ _ _ _ hw) (va_cwA 3 hts gX7_find_X5_moved_u51X5 rfl rfl rfl hs.1.2.2.2.2.2.2.2.2.2.2.2.2.2.2.2.2.2.2.2.2.2.2.2.2.2.2.2.2.2.2.2.1 (by decide +kernel) ⟨Nat.le_of_ble_eq_true rfl, Nat.le_of_ble_eq_true rfl⟩) (va_recv hK hP (ci := 5) (q0 := 9) rfl rfl) hK hP hD hS hA rfl hl.1 rfl (Nat.le_of_ble_eq_true rfl) dX7_find_134 ⟨Nat.zero_le _, Nat.zero_le _⟩ (fun r_8 S_9 H locs hw hP hD hS => ?_)
                refine lv_istore (lv' := [(10, .int r_8), (9, .int (k_rem x6 5)), (7, .long ((cx_s_layer S) (x6 / 5).toNatClampNeg)), (0, .ref (h 8)), (1, .ref (h 9)), (3, .int x3), (4, .int x4), (5, .int x5), (6, .int x6)]) hx hb dX7_find_137 hl (by decide) rfl (fun ls hl => ?_)
                refine lv_aload_n hx hb dX7_find_139 rfl (lv_at hl 3 rfl) ?_
                refine lv_lload hx hb dX7_find_140 (lv_at hl 2 rfl) ?_
                refine lv_ldc2 (v := 1024) hx hb hown wc49 dX7_find_142 ?_
                refine lv_ldiv hx hb dX7_find_145 (by decide) ?_
                refine lv_ldc2 (v := 5) hx hb hown wc55 dX7_find_146 ?_
                refine lv_lmul hx hb dX7_find_149 ?_
                refine lv_iload hx hb dX7_find_150 (lv_at hl 1 rfl) ?_
                refine lv_i2l (v := Int32.toInt64 (k_rem x6 5)) hx hb dX7_find_152 rfl ?_
                refine lv_ladd hx hb dX7_find_153 ?_
                refine lv_iload hx hb dX7_find_154 (lv_at hl 0 rfl) ?_
                refine e_callVv (As := [.long (((((cx_s_layer S) (x6 / 5).toNatClampNeg) / 1024) * 5) + (Int32.toInt64 (k_rem x6 5))), .int r_8]) (rest := []) clE_stable hs ⟨hx, hb, hml, hown, hts⟩ (cC_X7_add l D h cy _ _ _ _ hw) (cwV 2 hts gX7_find_X7_add rfl rfl rfl (by decide +kernel) ⟨Nat.le_of_ble_eq_true rfl, Nat.le_of_ble_eq_true rfl⟩) (va_recv hK hP (ci := 7) (q0 := 8) rfl rfl) hK hP hD hS hA rfl hl.1 rfl (Nat.le_of_ble_eq_true rfl) dX7_find_156 ⟨Nat.zero_le _, Nat.zero_le _⟩ (fun S_11 H locs hw hP hD hS => ?_)
                refine lv_aload_n hx hb dX7_find_159 rfl (lv_at hl 4 rfl) ?_
                refine lv_iload hx hb dX7_find_160 (lv_at hl 0 rfl) ?_
                refine e_callUi (As := [.int r_8]) (rest := []) clE_stable hs ⟨hx, hb, hml, hown, hts⟩ (cC_X5_arrived l D h cy _ _ _ hw) (va_cwA 1 hts gX7_find_X5_arrived_u33X5 rfl rfl rfl hs.1.2.2.2.2.2.2.2.2.2.2.2.2.2.2.2.2.2.2.2.2.2.2.2.2.2.2.2.2.2.1 (by decide +kernel) ⟨Nat.le_of_ble_eq_true rfl, Nat.le_of_ble_eq_true rfl⟩) (va_recv hK hP (ci := 5) (q0 := 9) rfl rfl) hK hP hD hS hA rfl hl.1 rfl (Nat.le_of_ble_eq_true rfl) dX7_find_162 ⟨Nat.zero_le _, Nat.zero_le _⟩ (fun r_12 S_13 H locs hw hP hD hS => ?_)
                obtain ⟨hc_14t, hc_14f⟩ := hw
                refine lv_if_eq (tgt := 194) hx hb dX7_find_165 (by decide) (fun c_14 => ?_) (fun c_14 => ?_)
                · have hw := hc_14t c_14
                  clear hc_14t hc_14f
                  refine lv_iinc (v := x6 + 1) (lv' := [(6, .int (x6 + 1)), (10, .int r_8), (9, .int (k_rem x6 5)), (7, .long ((cx_s_layer S) (x6 / 5).toNatClampNeg)), (0, .ref (h 8)), (1, .ref (h 9)), (3, .int x3), (4, .int x4), (5, .int x5)]) hx hb dX7_find_194 hl (k := 8) rfl (k_inc (by decide)) (by decide) rfl (fun ls hl => ?_)
                  refine lv_goto (tgt := 78) hx hb dX7_find_197 (by decide) ?_
                  exact ih_78 x3 x4 x5 (x6 + 1) S_13 _ _ _ hw hP hD hS (lv_sub hl [4, 5, 6, 7, 8, 0] rfl)
                · have hw := hc_14f c_14
                  clear hc_14t hc_14f
                  refine lv_aload_n hx hb dX7_find_168 rfl (lv_at hl 3 rfl) ?_
                  refine lv_iload hx hb dX7_find_169 (lv_at hl 7 rfl) ?_
                  refine lv_iconst (v := 1) hx hb dX7_find_171 (by decide) ?_
                  refine lv_iadd hx hb dX7_find_172 ?_
                  refine va_put (D := D) (ci := 7) (v := .int (x5 + 1)) (ty := .int) (C := RX7) (T := TX7) (N := 6) hx hb hts hin7 tyX7 tyX7_ok nmX7 hown hK hP hD hS 8 rfl rfl 4 (by decide) w26 (fun _ h9 => h9) rfl (tyX7_ok 4 (by decide)) rfl rfl (Nat.le_of_ble_eq_true rfl) dX7_find_173 (fun H locs hP hD hS => ?_)
                  obtain ⟨S_15, eS_15⟩ : ∃ z : CS, z = (cx_set_s_length S_13 (x5 + 1)) := ⟨_, rfl⟩
                  replace hw := hw S_15 eS_15
                  have hP : va_P D vwCl (wC h cy S_15) H := by rw [eS_15, ← wCp_s_length]; exact hP
                  have hD : va_D A (wC h cy S_15) := by rw [eS_15, ← wCp_s_length]; exact hD
                  refine lv_aload_n hx hb dX7_find_176 rfl (lv_at hl 3 rfl) ?_
                  refine lv_lload hx hb dX7_find_177 (lv_at hl 2 rfl) ?_
                  refine lv_ldc2 (v := 1024) hx hb hown wc49 dX7_find_179 ?_
                  refine lv_ldiv hx hb dX7_find_182 (by decide) ?_
                  refine lv_ldc2 (v := 5) hx hb hown wc55 dX7_find_183 ?_
                  refine lv_lmul hx hb dX7_find_186 ?_
                  refine lv_iload hx hb dX7_find_187 (lv_at hl 1 rfl) ?_
                  refine lv_i2l (v := Int32.toInt64 (k_rem x6 5)) hx hb dX7_find_189 rfl ?_
                  refine lv_ladd hx hb dX7_find_190 ?_
                  refine va_put (D := D) (ci := 7) (v := .long (((((cx_s_layer S) (x6 / 5).toNatClampNeg) / 1024) * 5) + (Int32.toInt64 (k_rem x6 5)))) (ty := .long) (C := RX7) (T := TX7) (N := 6) hx hb hts hin7 tyX7 tyX7_ok nmX7 hown hK hP hD hS 8 rfl rfl 5 (by decide) w29 (fun _ h9 => h9) rfl (tyX7_ok 5 (by decide)) rfl rfl (Nat.le_of_ble_eq_true rfl) dX7_find_191 (fun H locs hP hD hS => ?_)
                  obtain ⟨S_16, eS_16⟩ : ∃ z : CS, z = (cx_set_s_path S_15 (((((cx_s_layer S) (x6 / 5).toNatClampNeg) / 1024) * 5) + (Int32.toInt64 (k_rem x6 5)))) := ⟨_, rfl⟩
                  replace hw := hw S_16 eS_16
                  have hP : va_P D vwCl (wC h cy S_16) H := by rw [eS_16, ← wCp_s_path]; exact hP
                  have hD : va_D A (wC h cy S_16) := by rw [eS_16, ← wCp_s_path]; exact hD
                  refine lv_iinc (v := x6 + 1) (lv' := [(6, .int (x6 + 1)), (10, .int r_8), (9, .int (k_rem x6 5)), (7, .long ((cx_s_layer S) (x6 / 5).toNatClampNeg)), (0, .ref (h 8)), (1, .ref (h 9)), (3, .int x3), (4, .int x4), (5, .int x5)]) hx hb dX7_find_194 hl (k := 8) rfl (k_inc (by decide)) (by decide) rfl (fun ls hl => ?_)
                  refine lv_goto (tgt := 78) hx hb dX7_find_197 (by decide) ?_
                  exact ih_78 x3 x4 x5 (x6 + 1) S_16 _ _ _ hw hP hD hS (lv_sub hl [4, 5, 6, 7, 8, 0] rfl)
      intro x3 x4 x5 S H locs ls hw hP hD hS hl
      unfold wC_X7_find_mood_36 at hw
      refine lv_iload hx hb dX7_find_36 (lv_at hl 4 rfl) ?_
      refine lv_iload_n hx hb dX7_find_38 rfl (lv_at hl 2 rfl) ?_
      obtain ⟨hc_18t, hc_18f⟩ := hw
      refine lv_icmp_ge (tgt := 236) hx hb dX7_find_39 (by decide) (fun c_18 => ?_) (fun c_18 => ?_)
      · have hw := hc_18t c_18
        clear hc_18t hc_18f
        exact W.vret hx hb hr (fun t ht hW => ⟨⟨S, rfl, hw, by rw [ht]; exact hP, va_K.moved hW.alike hK, hD⟩, hS.F ht⟩) hS.2.2 dX7_find_236
      · have hw := hc_18f c_18
        clear hc_18t hc_18f
        refine lv_aload_n hx hb dX7_find_42 rfl (lv_at hl 0 rfl) ?_
        refine va_get (D := D) (ci := 7) (v := .int (cx_s_length S)) (C := RX7) (T := TX7) (N := 6) hx hb hts hin7 hown hK hP 8 rfl rfl 4 (by decide) w26 (fun _ h9 => h9) rfl dX7_find_43 ?_
        refine lv_iconst (v := (-1)) hx hb dX7_find_46 (by decide) ?_
        obtain ⟨hc_19t, hc_19f⟩ := hw
        refine lv_icmp_ne (tgt := 236) hx hb dX7_find_47 (by decide) (fun c_19 => ?_) (fun c_19 => ?_)
        · have hw := hc_19f c_19
          clear hc_19t hc_19f
          exact W.vret hx hb hr (fun t ht hW => ⟨⟨S, rfl, hw, by rw [ht]; exact hP, va_K.moved hW.alike hK, hD⟩, hS.F ht⟩) hS.2.2 dX7_find_236
        · have hw := hc_19t c_19
          clear hc_19t hc_19f
          refine lv_aload_n hx hb dX7_find_50 rfl (lv_at hl 0 rfl) ?_
          refine lv_iconst (v := 0) hx hb dX7_find_51 (by decide) ?_
          refine va_put (D := D) (ci := 7) (v := .int 0) (ty := .int) (C := RX7) (T := TX7) (N := 6) hx hb hts hin7 tyX7 tyX7_ok nmX7 hown hK hP hD hS 8 rfl rfl 3 (by decide) w22 (fun _ h9 => h9) rfl (tyX7_ok 3 (by decide)) rfl rfl (Nat.le_of_ble_eq_true rfl) dX7_find_52 (fun H locs hP hD hS => ?_)
          obtain ⟨S_20, eS_20⟩ : ∃ z : CS, z = (cx_set_s_count S 0) := ⟨_, rfl⟩
          replace hw := hw S_20 eS_20
          have hP : va_P D vwCl (wC h cy S_20) H := by rw [eS_20, ← wCp_s_count]; exact hP
          have hD : va_D A (wC h cy S_20) := by rw [eS_20, ← wCp_s_count]; exact hD
          refine lv_iload hx hb dX7_find_55 (lv_at hl 4 rfl) ?_
          obtain ⟨hc_21t, hc_21f⟩ := hw
          refine lv_if_eq (tgt := 67) hx hb dX7_find_57 (by decide) (fun c_21 => ?_) (fun c_21 => ?_)
          · have hw := hc_21t c_21
            clear hc_21t hc_21f
            refine lv_aload_n hx hb dX7_find_67 rfl (lv_at hl 0 rfl) ?_
            refine va_get (D := D) (ci := 7) (v := .ref (h 45)) (C := RX7) (T := TX7) (N := 6) hx hb hts hin7 hown hK hP 8 rfl rfl 2 (by decide) w18 (fun _ h9 => h9) rfl dX7_find_68 ?_
            refine lv_iconst (v := 0) hx hb dX7_find_71 (by decide) ?_
            refine e_callSv (As := [.ref (h 45), .int 0]) (rest := []) clE_stable hs ⟨hx, hb, hml, hown, hts⟩ (cA_fill l D clE (tyC cy) (wC h cy) cx_s_seen cx_set_s_seen S_20 45 33 _ _ 32 rfl (wCs_s_seen h cy S_20) rfl (by decide) _ (fun S0 => S0 = (cx_set_s_seen S_20 (k_fill 32 (cx_s_seen S_20) 0))) rfl) (va_cwS 2 hts gX7_find_J7_fill_53178 rfl rfl rfl (by decide +kernel) ⟨Nat.le_of_ble_eq_true rfl, Nat.le_of_ble_eq_true rfl⟩) hK hP hD hS hA rfl hl.1 rfl (Nat.le_of_ble_eq_true rfl) dX7_find_72 ⟨Nat.zero_le _, Nat.zero_le _⟩ (fun S_22 H locs eS_22 hP hD hS => ?_)
            replace hw := hw S_22 eS_22
            refine lv_iconst (v := 0) hx hb dX7_find_75 (by decide) ?_
            refine lv_istore (lv' := [(6, .int 0), (0, .ref (h 8)), (1, .ref (h 9)), (3, .int x3), (4, .int x4), (5, .int x5)]) hx hb dX7_find_76 hl (by decide) rfl (fun ls hl => ?_)
            obtain ⟨n_78, hw⟩ := hw
            exact L_78 n_78 x3 x4 x5 0 S_22 _ _ _ hw hP hD hS (lv_sub hl [1, 2, 3, 4, 5, 0] rfl)
          · have hw := hc_21f c_21
            clear hc_21t hc_21f
            refine lv_aload_n hx hb dX7_find_60 rfl (lv_at hl 1 rfl) ?_
            refine e_callUi (As := []) (rest := []) clE_stable hs ⟨hx, hb, hml, hown, hts⟩ (cC_X5_changes l D h cy _ _ hw) (va_cwA 0 hts gX7_find_X5_changes_u39X5 rfl rfl rfl hs.1.2.2.2.2.2.2.2.2.2.2.2.2.2.2.2.2.2.2.2.2.2.2.2.2.2.2.2.2.2.2.1 (by decide +kernel) ⟨Nat.le_of_ble_eq_true rfl, Nat.le_of_ble_eq_true rfl⟩) (va_recv hK hP (ci := 5) (q0 := 9) rfl rfl) hK hP hD hS hA rfl hl.1 rfl (Nat.le_of_ble_eq_true rfl) dX7_find_61 ⟨Nat.zero_le _, Nat.zero_le _⟩ (fun r_23 S_24 H locs hw hP hD hS => ?_)
            obtain ⟨hc_25t, hc_25f⟩ := hw
            refine lv_if_eq (tgt := 75) hx hb dX7_find_64 (by decide) (fun c_25 => ?_) (fun c_25 => ?_)
            · have hw := hc_25t c_25
              clear hc_25t hc_25f
              refine lv_iconst (v := 0) hx hb dX7_find_75 (by decide) ?_
              refine lv_istore (lv' := [(6, .int 0), (0, .ref (h 8)), (1, .ref (h 9)), (3, .int x3), (4, .int x4), (5, .int x5)]) hx hb dX7_find_76 hl (by decide) rfl (fun ls hl => ?_)
              obtain ⟨n_78, hw⟩ := hw
              exact L_78 n_78 x3 x4 x5 0 S_24 _ _ _ hw hP hD hS (lv_sub hl [1, 2, 3, 4, 5, 0] rfl)
            · have hw := hc_25f c_25
              clear hc_25t hc_25f
              refine lv_aload_n hx hb dX7_find_67 rfl (lv_at hl 0 rfl) ?_
              refine va_get (D := D) (ci := 7) (v := .ref (h 45)) (C := RX7) (T := TX7) (N := 6) hx hb hts hin7 hown hK hP 8 rfl rfl 2 (by decide) w18 (fun _ h9 => h9) rfl dX7_find_68 ?_
              refine lv_iconst (v := 0) hx hb dX7_find_71 (by decide) ?_
              refine e_callSv (As := [.ref (h 45), .int 0]) (rest := []) clE_stable hs ⟨hx, hb, hml, hown, hts⟩ (cA_fill l D clE (tyC cy) (wC h cy) cx_s_seen cx_set_s_seen S_24 45 33 _ _ 32 rfl (wCs_s_seen h cy S_24) rfl (by decide) _ (fun S0 => S0 = (cx_set_s_seen S_24 (k_fill 32 (cx_s_seen S_24) 0))) rfl) (va_cwS 2 hts gX7_find_J7_fill_53178 rfl rfl rfl (by decide +kernel) ⟨Nat.le_of_ble_eq_true rfl, Nat.le_of_ble_eq_true rfl⟩) hK hP hD hS hA rfl hl.1 rfl (Nat.le_of_ble_eq_true rfl) dX7_find_72 ⟨Nat.zero_le _, Nat.zero_le _⟩ (fun S_26 H locs eS_26 hP hD hS => ?_)
              replace hw := hw S_26 eS_26
              refine lv_iconst (v := 0) hx hb dX7_find_75 (by decide) ?_
              refine lv_istore (lv' := [(6, .int 0), (0, .ref (h 8)), (1, .ref (h 9)), (3, .int x3), (4, .int x4), (5, .int x5)]) hx hb dX7_find_76 hl (by decide) rfl (fun ls hl => ?_)
              obtain ⟨n_78, hw⟩ := hw
              exact L_78 n_78 x3 x4 x5 0 S_26 _ _ _ hw hP hD hS (lv_sub hl [1, 2, 3, 4, 5, 0] rfl)
  have J_14 : ∀ (x2 : Int32) (x3 : Int32) (t1 : Int32) (S : CS) (H : Heap) (locs : List Loc) (ls : Array Slot), wC_X7_find_mood_14 post x2 x3 t1 S → va_P D vwCl (wC h cy S) H → va_D A (wC h cy S) → va_S A s.heap H locs → lv_has ls 11 [(0, .ref (h 8)), (1, .ref (h 9)), (2, .int x2), (3, .int x3)] → W p l e (headSpec wsX7_find { frames := 5, cells := 0, slots := 0, locals := 123 }).room s m (([.ref (h 8), .ref (h 9), .int p2, .int p3] : List Value).toArray) below meth c H locs 0 0 (MQ below (va_Qv post (k_Post D (tyC cy) (wC h cy) A) A) (([.ref (h 8), .ref (h 9), .int p2, .int p3] : List Value).toArray) s 0 0 A) (F0 m 14 ls [.int t1, .ref (h 8)]) := by
    intro x2 x3 t1 S H locs ls hw hP hD hS hl
    unfold wC_X7_find_mood_14 at hw
    refine va_put (D := D) (ci := 7) (v := .int t1) (ty := .int) (C := RX7) (T := TX7) (N := 6) hx hb hts hin7 tyX7 tyX7_ok nmX7 hown hK hP hD hS 8 rfl rfl 4 (by decide) w26 (fun _ h9 => h9) rfl (tyX7_ok 4 (by decide)) rfl rfl (Nat.le_of_ble_eq_true rfl) dX7_find_14 (fun H locs hP hD hS => ?_)
    obtain ⟨S_27, eS_27⟩ : ∃ z : CS, z = (cx_set_s_length S t1) := ⟨_, rfl⟩
    replace hw := hw S_27 eS_27
    have hP : va_P D vwCl (wC h cy S_27) H := by rw [eS_27, ← wCp_s_length]; exact hP
    have hD : va_D A (wC h cy S_27) := by rw [eS_27, ← wCp_s_length]; exact hD
    refine lv_aload_n hx hb dX7_find_17 rfl (lv_at hl 0 rfl) ?_
    refine lv_lconst (v := 0) hx hb dX7_find_18 (by decide) ?_
    refine va_put (D := D) (ci := 7) (v := .long 0) (ty := .long) (C := RX7) (T := TX7) (N := 6) hx hb hts hin7 tyX7 tyX7_ok nmX7 hown hK hP hD hS 8 rfl rfl 5 (by decide) w29 (fun _ h9 => h9) rfl (tyX7_ok 5 (by decide)) rfl rfl (Nat.le_of_ble_eq_true rfl) dX7_find_19 (fun H locs hP hD hS => ?_)
    obtain ⟨S_28, eS_28⟩ : ∃ z : CS, z = (cx_set_s_path S_27 0) := ⟨_, rfl⟩
    replace hw := hw S_28 eS_28
    have hP : va_P D vwCl (wC h cy S_28) H := by rw [eS_28, ← wCp_s_path]; exact hP
    have hD : va_D A (wC h cy S_28) := by rw [eS_28, ← wCp_s_path]; exact hD
    refine lv_aload_n hx hb dX7_find_22 rfl (lv_at hl 0 rfl) ?_
    refine va_get (D := D) (ci := 7) (v := .ref (h 43)) (C := RX7) (T := TX7) (N := 6) hx hb hts hin7 hown hK hP 8 rfl rfl 0 (by decide) w11 (fun _ h9 => h9) rfl dX7_find_23 ?_
    refine lv_iconst (v := 0) hx hb dX7_find_26 (by decide) ?_
    refine lv_iload_n hx hb dX7_find_27 rfl (lv_at hl 2 rfl) ?_
    refine lv_i2l (v := Int32.toInt64 x2) hx hb dX7_find_28 rfl ?_
    refine va_last (f := (cx_s_layer S_28)) hx hb hK hP hD hS 43 31 rfl rfl (vp_in_nI (n := 0) (by decide) (by decide)) dX7_find_29 (fun H locs hP hD hS => ?_)
    obtain ⟨S_29, eS_29⟩ : ∃ z : CS, z = (cx_set_s_layer S_28 (vp_updL (cx_s_layer S_28) (Int32.toNatClampNeg 0) (Int32.toInt64 x2))) := ⟨_, rfl⟩
    replace hw := hw S_29 eS_29
    have hP : va_P D vwCl (wC h cy S_29) H := by rw [eS_29, ← wCs_s_layer]; exact hP
    have hD : va_D A (wC h cy S_29) := by rw [eS_29, ← wCs_s_layer]; exact hD
    refine lv_iconst (v := 1) hx hb dX7_find_30 (by decide) ?_
    refine lv_istore (lv' := [(4, .int 1), (0, .ref (h 8)), (1, .ref (h 9)), (2, .int x2), (3, .int x3)]) hx hb dX7_find_31 hl (by decide) rfl (fun ls hl => ?_)
    refine lv_iconst (v := 0) hx hb dX7_find_33 (by decide) ?_
    refine lv_istore (lv' := [(5, .int 0), (4, .int 1), (0, .ref (h 8)), (1, .ref (h 9)), (2, .int x2), (3, .int x3)]) hx hb dX7_find_34 hl (by decide) rfl (fun ls hl => ?_)
    obtain ⟨n_36, hw⟩ := hw
    exact L_36 n_36 x3 1 0 S_29 _ _ _ hw hP hD hS (lv_sub hl [2, 3, 5, 1, 0] rfl)
  refine lv_aload_n hx hb dX7_find_0 rfl (lv_at hl 0 rfl) ?_
  refine lv_aload_n hx hb dX7_find_1 rfl (lv_at hl 1 rfl) ?_
  refine lv_iload_n hx hb dX7_find_2 rfl (lv_at hl 2 rfl) ?_
  refine e_callUi (As := [.int p2]) (rest := [.ref (h 8)]) clE_stable hs ⟨hx, hb, hml, hown, hts⟩ (cC_X5_arrived l D h cy _ _ _ hw) (va_cwA 1 hts gX7_find_X5_arrived_u33X5 rfl rfl rfl hs.1.2.2.2.2.2.2.2.2.2.2.2.2.2.2.2.2.2.2.2.2.2.2.2.2.2.2.2.2.2.1 (by decide +kernel) ⟨Nat.le_of_ble_eq_true rfl, Nat.le_of_ble_eq_true rfl⟩) (va_recv hK hP (ci := 5) (q0 := 9) rfl rfl) hK hP hD hS hA rfl hl.1 rfl (Nat.le_of_ble_eq_true rfl) dX7_find_3 ⟨Nat.zero_le _, Nat.zero_le _⟩ (fun r_30 S_31 H locs hw hP hD hS => ?_)
  obtain ⟨hc_32t, hc_32f⟩ := hw
  refine lv_if_eq (tgt := 13) hx hb dX7_find_6 (by decide) (fun c_32 => ?_) (fun c_32 => ?_)
  · have hw := hc_32t c_32
    clear hc_32t hc_32f
    refine lv_iconst (v := (-1)) hx hb dX7_find_13 (by decide) ?_
    exact J_14 p2 p3 (-1) S_31 _ _ _ hw hP hD hS (lv_sub hl [0, 1, 2, 3] rfl)
  · have hw := hc_32f c_32
    clear hc_32t hc_32f
    refine lv_iconst (v := 0) hx hb dX7_find_9 (by decide) ?_
    refine lv_goto (tgt := 14) hx hb dX7_find_10 (by decide) ?_
    exact J_14 p2 p3 0 S_31 _ _ _ hw hP hD hS (lv_sub hl [0, 1, 2, 3] rfl)
def wC_X7_answer_47 (post : Int32 → CS → Prop) : Nat → Int32 → Int64 → Int32 → CS → Prop
  | 0, _, _, _, _ => False
  | n + 1, x1, x2, x4, S => ((x4 ≤ x1 → post (Int64.toInt32 (k_remL x2 5)) S) ∧ (¬ (x4 ≤ x1) → wC_X7_answer_47 post n x1 (x2 / 5) (x4 + (-1)) S))
def wC_X7_answer (p1 : Int32) (S : CS) (post : Int32 → CS → Prop) : Prop := (((cx_s_length S) = (-1) → post (-2) S) ∧ (¬ ((cx_s_length S) = (-1)) → ((p1 < (-1) → post (-2) S) ∧ (¬ (p1 < (-1)) → ((p1 < (cx_s_length S) → ((p1 = (-1) → post (cx_s_length S) S) ∧ (¬ (p1 = (-1)) → ∃ k_ : Nat, wC_X7_answer_47 post k_ p1 (cx_s_path S) ((cx_s_length S) - 1) S))) ∧ (¬ (p1 < (cx_s_length S)) → post (-2) S))))))
set_option maxHeartbeats 4000000 in
set_option maxRecDepth 100000 in
theorem cC_X7_answer (l : Launch) (D : va_G) (h : Nat → Nat) (cy : Nat → ClassId) (p1 : Int32) (S : CS) (post : Int32 → CS → Prop) (hw : wC_X7_answer p1 S post) : e_Mi clE l yX7_answer wsX7_answer { frames := 0, cells := 0, slots := 0, locals := 0 } D (tyC cy) (wC h cy) [.ref (h 8), .int p1] S post := by
  intro sz
  refine Met.ofW (cc := cX7_answer) (maxL := 5) (ret := (some .int)) (by decide) rfl ?_
  intro p e s m args below meth c s₁ B hml hv
  obtain ⟨rfl, hsz, hP, hK, hD0, hs⟩ := hv
  have hx := B.exec
  have hb := B.bytes
  have hr := B.returns
  have hts := atoms_spec (ws := wsX7_answer) B.pre
  have hown : s.vm.findClass RX7 = some m.cls := findClass_of_methodNamed B.named
  have hlocks := B.notSynchronized
  subst hsz
  have hD := hD0.self (sz := s.heap.size)
  generalize hAe : va_A (wC h cy S) s.heap.size = A at hD hs ⊢
  have hA : ∀ q : Nat, s.heap.size ≤ q → A q := fun q h => by rw [← hAe]; exact Or.inr h
  have hS : va_S A s.heap s.heap [] := va_S.rf
  have hin7 : ∀ w ∈ wsX70, w ∈ wsX7_answer := fun _ h => List.mem_cons_of_mem _ (List.mem_append_right _ h)
  have wc55 := hts (.constantLong RX7 55 (5)) (List.mem_of_getElem? (i := 3) rfl)
  have w26 := hts (.fieldLink RX7 26 "ClownsMourn$Search" "length" "I") (List.mem_of_getElem? (i := 1) rfl)
  have w29 := hts (.fieldLink RX7 29 "ClownsMourn$Search" "path" "J") (List.mem_of_getElem? (i := 2) rfl)
  have hl := lv_entry ([.ref (h 8), .int p1]) (n := 5) (Nat.le_of_ble_eq_true rfl)
  rw [lg_entry_eq]
  generalize (lg_sl ([.ref (h 8), .int p1]) ++ List.replicate (5 - (lg_sl ([.ref (h 8), .int p1])).length) Slot.unset).toArray = ls at hl ⊢
  have hl : lv_has ls 5 [(0, .ref (h 8)), (1, .int p1)] := hl
  unfold wC_X7_answer at hw
  clear hD0
  have L_47 : ∀ (n47 : Nat) (x1 : Int32) (x2 : Int64) (x4 : Int32) (S : CS) (H : Heap) (locs : List Loc) (ls : Array Slot), wC_X7_answer_47 post n47 x1 x2 x4 S → va_P D vwCl (wC h cy S) H → va_D A (wC h cy S) → va_S A s.heap H locs → lv_has ls 5 [(1, .int x1), (2, .long x2), (4, .int x4)] → W p l e (headSpec wsX7_answer { frames := 0, cells := 0, slots := 0, locals := 0 }).room s m (([.ref (h 8), .int p1] : List Value).toArray) below meth c H locs 0 0 (MQ below (va_Qi post (k_Post D (tyC cy) (wC h cy) A) A) (([.ref (h 8), .int p1] : List Value).toArray) s 0 0 A) (F0 m 47 ls []) := by
    intro n47
    induction n47 with
    | zero => intro x1 x2 x4 S H locs ls hw; exact False.elim hw
    | succ n47 ih_47 =>
      intro x1 x2 x4 S H locs ls hw hP hD hS hl
      unfold wC_X7_answer_47 at hw
      refine lv_iload hx hb dX7_answer_47 (lv_at hl 2 rfl) ?_
      refine lv_iload_n hx hb dX7_answer_49 rfl (lv_at hl 0 rfl) ?_
      obtain ⟨hc_1t, hc_1f⟩ := hw
      refine lv_icmp_le (tgt := 65) hx hb dX7_answer_50 (by decide) (fun c_1 => ?_) (fun c_1 => ?_)
      · have hw := hc_1t c_1
        clear hc_1t hc_1f
        refine lv_lload_n hx hb dX7_answer_65 rfl (lv_at hl 1 rfl) ?_
        refine lv_ldc2 (v := 5) hx hb hown wc55 dX7_answer_66 ?_
        refine k_lrem hx hb dX7_answer_69 (by decide) ?_
        refine lv_l2i (v := Int64.toInt32 (k_remL x2 5)) hx hb dX7_answer_70 rfl ?_
        exact W.iret (v := Int64.toInt32 (k_remL x2 5)) hx hb hr (fun t ht hW => ⟨⟨Int64.toInt32 (k_remL x2 5), S, rfl, hw, by rw [ht]; exact hP, va_K.moved hW.alike hK, hD⟩, hS.F ht⟩) hS.2.2 dX7_answer_71
      · have hw := hc_1f c_1
        clear hc_1t hc_1f
        refine lv_lload_n hx hb dX7_answer_53 rfl (lv_at hl 1 rfl) ?_
        refine lv_ldc2 (v := 5) hx hb hown wc55 dX7_answer_54 ?_
        refine lv_ldiv hx hb dX7_answer_57 (by decide) ?_
        refine lv_lstore_n (lv' := [(2, .long (x2 / 5)), (1, .int x1), (4, .int x4)]) hx hb dX7_answer_58 rfl hl (by decide) rfl (fun ls hl => ?_)
        refine lv_iinc (v := x4 + (-1)) (lv' := [(4, .int (x4 + (-1))), (2, .long (x2 / 5)), (1, .int x1)]) hx hb dX7_answer_59 hl (k := 2) rfl (k_inc (by decide)) (by decide) rfl (fun ls hl => ?_)
        refine lv_goto (tgt := 47) hx hb dX7_answer_62 (by decide) ?_
        exact ih_47 x1 (x2 / 5) (x4 + (-1)) S _ _ _ hw hP hD hS (lv_sub hl [2, 1, 0] rfl)
  refine lv_aload_n hx hb dX7_answer_0 rfl (lv_at hl 0 rfl) ?_
  refine va_get (D := D) (ci := 7) (v := .int (cx_s_length S)) (C := RX7) (T := TX7) (N := 6) hx hb hts hin7 hown hK hP 8 rfl rfl 4 (by decide) w26 (fun _ h9 => h9) rfl dX7_answer_1 ?_
  refine lv_iconst (v := (-1)) hx hb dX7_answer_4 (by decide) ?_
  obtain ⟨hc_2t, hc_2f⟩ := hw
  refine lv_icmp_eq (tgt := 21) hx hb dX7_answer_5 (by decide) (fun c_2 => ?_) (fun c_2 => ?_)
  · have hw := hc_2t c_2
    clear hc_2t hc_2f
    refine lv_bipush (v := (-2)) hx hb dX7_answer_21 (by decide) ?_
    exact W.iret (v := (-2)) hx hb hr (fun t ht hW => ⟨⟨(-2), S, rfl, hw, by rw [ht]; exact hP, va_K.moved hW.alike hK, hD⟩, hS.F ht⟩) hS.2.2 dX7_answer_23
  · have hw := hc_2f c_2
    clear hc_2t hc_2f
    refine lv_iload_n hx hb dX7_answer_8 rfl (lv_at hl 1 rfl) ?_
    refine lv_iconst (v := (-1)) hx hb dX7_answer_9 (by decide) ?_
    obtain ⟨hc_3t, hc_3f⟩ := hw
    refine lv_icmp_lt (tgt := 21) hx hb dX7_answer_10 (by decide) (fun c_3 => ?_) (fun c_3 => ?_)
    · have hw := hc_3t c_3
      clear hc_3t hc_3f
      refine lv_bipush (v := (-2)) hx hb dX7_answer_21 (by decide) ?_
      exact W.iret (v := (-2)) hx hb hr (fun t ht hW => ⟨⟨(-2), S, rfl, hw, by rw [ht]; exact hP, va_K.moved hW.alike hK, hD⟩, hS.F ht⟩) hS.2.2 dX7_answer_23
    · have hw := hc_3f c_3
      clear hc_3t hc_3f
      refine lv_iload_n hx hb dX7_answer_13 rfl (lv_at hl 1 rfl) ?_
      refine lv_aload_n hx hb dX7_answer_14 rfl (lv_at hl 0 rfl) ?_
      refine va_get (D := D) (ci := 7) (v := .int (cx_s_length S)) (C := RX7) (T := TX7) (N := 6) hx hb hts hin7 hown hK hP 8 rfl rfl 4 (by decide) w26 (fun _ h9 => h9) rfl dX7_answer_15 ?_
      obtain ⟨hc_4t, hc_4f⟩ := hw
      refine lv_icmp_lt (tgt := 24) hx hb dX7_answer_18 (by decide) (fun c_4 => ?_) (fun c_4 => ?_)
      · have hw := hc_4t c_4
        clear hc_4t hc_4f
        refine lv_iload_n hx hb dX7_answer_24 rfl (lv_at hl 1 rfl) ?_
        refine lv_iconst (v := (-1)) hx hb dX7_answer_25 (by decide) ?_
        obtain ⟨hc_5t, hc_5f⟩ := hw
        refine lv_icmp_ne (tgt := 34) hx hb dX7_answer_26 (by decide) (fun c_5 => ?_) (fun c_5 => ?_)
        · have hw := hc_5f c_5
          clear hc_5t hc_5f
          refine lv_aload_n hx hb dX7_answer_34 rfl (lv_at hl 0 rfl) ?_
          refine va_get (D := D) (ci := 7) (v := .long (cx_s_path S)) (C := RX7) (T := TX7) (N := 6) hx hb hts hin7 hown hK hP 8 rfl rfl 5 (by decide) w29 (fun _ h9 => h9) rfl dX7_answer_35 ?_
          refine lv_lstore_n (lv' := [(2, .long (cx_s_path S)), (0, .ref (h 8)), (1, .int p1)]) hx hb dX7_answer_38 rfl hl (by decide) rfl (fun ls hl => ?_)
          refine lv_aload_n hx hb dX7_answer_39 rfl (lv_at hl 1 rfl) ?_
          refine va_get (D := D) (ci := 7) (v := .int (cx_s_length S)) (C := RX7) (T := TX7) (N := 6) hx hb hts hin7 hown hK hP 8 rfl rfl 4 (by decide) w26 (fun _ h9 => h9) rfl dX7_answer_40 ?_
          refine lv_iconst (v := 1) hx hb dX7_answer_43 (by decide) ?_
          refine lv_isub hx hb dX7_answer_44 ?_
          refine lv_istore (lv' := [(4, .int ((cx_s_length S) - 1)), (2, .long (cx_s_path S)), (0, .ref (h 8)), (1, .int p1)]) hx hb dX7_answer_45 hl (by decide) rfl (fun ls hl => ?_)
          obtain ⟨n_47, hw⟩ := hw
          exact L_47 n_47 p1 (cx_s_path S) ((cx_s_length S) - 1) S _ _ _ hw hP hD hS (lv_sub hl [3, 1, 0] rfl)
        · have hw := hc_5t c_5
          clear hc_5t hc_5f
          refine lv_aload_n hx hb dX7_answer_29 rfl (lv_at hl 0 rfl) ?_
          refine va_get (D := D) (ci := 7) (v := .int (cx_s_length S)) (C := RX7) (T := TX7) (N := 6) hx hb hts hin7 hown hK hP 8 rfl rfl 4 (by decide) w26 (fun _ h9 => h9) rfl dX7_answer_30 ?_
          exact W.iret (v := (cx_s_length S)) hx hb hr (fun t ht hW => ⟨⟨(cx_s_length S), S, rfl, hw, by rw [ht]; exact hP, va_K.moved hW.alike hK, hD⟩, hS.F ht⟩) hS.2.2 dX7_answer_33
      · have hw := hc_4f c_4
        clear hc_4t hc_4f
        refine lv_bipush (v := (-2)) hx hb dX7_answer_21 (by decide) ?_
        exact W.iret (v := (-2)) hx hb hr (fun t ht hW => ⟨⟨(-2), S, rfl, hw, by rw [ht]; exact hP, va_K.moved hW.alike hK, hD⟩, hS.F ht⟩) hS.2.2 dX7_answer_23
def wC_X11_order (p1 : Int32) (p2 : Int32) (S : CS) (post : Int32 → CS → Prop) : Prop := wC_X0_hasHouse p1 S (fun r_1 S_2 => ((r_1 = 0 → post (-2) S_2) ∧ (¬ (r_1 = 0) → wC_X0_see 6 p1 S_2 (fun r_4 S_5 => wC_X5_fromMood r_4 S_5 (fun r_6 S_7 => wC_X7_find_mood r_6 9 S_7 (fun S_9 => wC_X7_answer p2 S_9 (fun r_10 S_11 => post r_10 S_11)))))))
set_option maxHeartbeats 4000000 in
set_option maxRecDepth 100000 in
theorem cC_X11_order (l : Launch) (D : va_G) (h : Nat → Nat) (cy : Nat → ClassId) (p1 : Int32) (p2 : Int32) (S : CS) (post : Int32 → CS → Prop) (hw : wC_X11_order p1 p2 S post) : e_Mi clE l yX11_order wsX11_order { frames := 6, cells := 0, slots := 0, locals := 153 } D (tyC cy) (wC h cy) [.ref (h 0), .int p1, .int p2] S post := by
  intro sz
  refine Met.ofW (cc := cX11_order) (maxL := 3) (ret := (some .int)) (by decide) rfl ?_
  intro p e s m args below meth c s₁ B hml hv
  obtain ⟨rfl, hsz, hP, hK, hD0, hs⟩ := hv
  have hx := B.exec
  have hb := B.bytes
  have hr := B.returns
  have hts := atoms_spec (ws := wsX11_order) B.pre
  have hown : s.vm.findClass RX11 = some m.cls := findClass_of_methodNamed B.named
  have hlocks := B.notSynchronized
  subst hsz
  have hD := hD0.self (sz := s.heap.size)
  generalize hAe : va_A (wC h cy S) s.heap.size = A at hD hs ⊢
  have hA : ∀ q : Nat, s.heap.size ≤ q → A q := fun q h => by rw [← hAe]; exact Or.inr h
  have hS : va_S A s.heap s.heap [] := va_S.rf
  have hin11 : ∀ w ∈ wsX110, w ∈ wsX11_order := fun _ h => List.mem_cons_of_mem _ (List.mem_append_left _ (List.mem_append_left _ (List.mem_append_left _ (List.mem_append_left _ (List.mem_append_left _ (List.mem_append_left _ (List.mem_append_right _ h)))))))
  have hin0 : ∀ w ∈ wsX00, w ∈ wsX11_order := fun _ h => List.mem_cons_of_mem _ (List.mem_append_left _ (List.mem_append_left _ (List.mem_append_left _ (List.mem_append_left _ (List.mem_append_left _ (List.mem_append_right _ h))))))
  have hin5 : ∀ w ∈ wsX50, w ∈ wsX11_order := fun _ h => List.mem_cons_of_mem _ (List.mem_append_left _ (List.mem_append_left _ (List.mem_append_left _ (List.mem_append_left _ (List.mem_append_right _ h)))))
  have hin7 : ∀ w ∈ wsX70, w ∈ wsX11_order := fun _ h => List.mem_cons_of_mem _ (List.mem_append_left _ (List.mem_append_left _ (List.mem_append_left _ (List.mem_append_right _ h))))
  have hin1 : ∀ w ∈ wsX10, w ∈ wsX11_order := fun _ h => List.mem_cons_of_mem _ (List.mem_append_left _ (List.mem_append_left _ (List.mem_append_right _ h)))
  have hin3 : ∀ w ∈ wsX30, w ∈ wsX11_order := fun _ h => List.mem_cons_of_mem _ (List.mem_append_left _ (List.mem_append_right _ h))
  have hin9 : ∀ w ∈ wsX90, w ∈ wsX11_order := fun _ h => List.mem_cons_of_mem _ (List.mem_append_right _ h)
  have w10 := hts (.fieldLink RX11 10 "ClownsMourn" "city" "LClownsMourn$City;") (List.mem_of_getElem? (i := 1) rfl)
  have w47 := hts (.fieldLink RX11 47 "ClownsMourn" "search" "LClownsMourn$Search;") (List.mem_of_getElem? (i := 2) rfl)
  have w54 := hts (.fieldLink RX11 54 "ClownsMourn" "moodWalk" "LClownsMourn$MoodWalk;") (List.mem_of_getElem? (i := 3) rfl)
  have hl := lv_entry ([.ref (h 0), .int p1, .int p2]) (n := 3) (Nat.le_of_ble_eq_true rfl)
  rw [lg_entry_eq]
  generalize (lg_sl ([.ref (h 0), .int p1, .int p2]) ++ List.replicate (3 - (lg_sl ([.ref (h 0), .int p1, .int p2])).length) Slot.unset).toArray = ls at hl ⊢
  have hl : lv_has ls 3 [(0, .ref (h 0)), (1, .int p1), (2, .int p2)] := hl
  unfold wC_X11_order at hw
  clear hD0
  refine lv_aload_n hx hb dX11_order_0 rfl (lv_at hl 0 rfl) ?_
  refine va_get (D := D) (ci := 10) (v := .ref (h 1)) (C := RX11) (T := TX11) (N := 9) hx hb hts hin11 hown hK hP 0 rfl rfl 0 (by decide) w10 (fun _ h9 => h9) rfl dX11_order_1 ?_
  refine lv_iload_n hx hb dX11_order_4 rfl (lv_at hl 1 rfl) ?_
  refine e_callVi (As := [.int p1]) (rest := []) clE_stable hs ⟨hx, hb, hml, hown, hts⟩ (cC_X0_hasHouse l D h cy _ _ _ hw) (cwV 1 hts gX11_order_X0_hasHouse rfl rfl rfl (by decide +kernel) ⟨Nat.le_of_ble_eq_true rfl, Nat.le_of_ble_eq_true rfl⟩) (va_recv hK hP (ci := 0) (q0 := 1) rfl rfl) hK hP hD hS hA rfl hl.1 rfl (Nat.le_of_ble_eq_true rfl) dX11_order_5 ⟨Nat.zero_le _, Nat.zero_le _⟩ (fun r_1 S_2 H locs hw hP hD hS => ?_)
  obtain ⟨hc_3t, hc_3f⟩ := hw
  refine lv_if_ne (tgt := 14) hx hb dX11_order_8 (by decide) (fun c_3 => ?_) (fun c_3 => ?_)
  · have hw := hc_3f c_3
    clear hc_3t hc_3f
    refine lv_aload_n hx hb dX11_order_14 rfl (lv_at hl 0 rfl) ?_
    refine va_get (D := D) (ci := 10) (v := .ref (h 8)) (C := RX11) (T := TX11) (N := 9) hx hb hts hin11 hown hK hP 0 rfl rfl 5 (by decide) w47 (fun _ h9 => h9) rfl dX11_order_15 ?_
    refine lv_aload_n hx hb dX11_order_18 rfl (lv_at hl 0 rfl) ?_
    refine va_get (D := D) (ci := 10) (v := .ref (h 9)) (C := RX11) (T := TX11) (N := 9) hx hb hts hin11 hown hK hP 0 rfl rfl 6 (by decide) w54 (fun _ h9 => h9) rfl dX11_order_19 ?_
    refine lv_aload_n hx hb dX11_order_22 rfl (lv_at hl 0 rfl) ?_
    refine va_get (D := D) (ci := 10) (v := .ref (h 9)) (C := RX11) (T := TX11) (N := 9) hx hb hts hin11 hown hK hP 0 rfl rfl 6 (by decide) w54 (fun _ h9 => h9) rfl dX11_order_23 ?_
    refine lv_aload_n hx hb dX11_order_26 rfl (lv_at hl 0 rfl) ?_
    refine va_get (D := D) (ci := 10) (v := .ref (h 1)) (C := RX11) (T := TX11) (N := 9) hx hb hts hin11 hown hK hP 0 rfl rfl 0 (by decide) w10 (fun _ h9 => h9) rfl dX11_order_27 ?_
    refine lv_bipush (v := 6) hx hb dX11_order_30 (by decide) ?_
    refine lv_iload_n hx hb dX11_order_32 rfl (lv_at hl 1 rfl) ?_
    refine e_callVi (As := [.int 6, .int p1]) (rest := [.ref (h 9), .ref (h 9), .ref (h 8)]) clE_stable hs ⟨hx, hb, hml, hown, hts⟩ (cC_X0_see l D h cy _ _ _ _ hw) (cwV 2 hts gX11_order_X0_see rfl rfl rfl (by decide +kernel) ⟨Nat.le_of_ble_eq_true rfl, Nat.le_of_ble_eq_true rfl⟩) (va_recv hK hP (ci := 0) (q0 := 1) rfl rfl) hK hP hD hS hA rfl hl.1 rfl (Nat.le_of_ble_eq_true rfl) dX11_order_33 ⟨Nat.zero_le _, Nat.zero_le _⟩ (fun r_4 S_5 H locs hw hP hD hS => ?_)
    refine e_callVi (As := [.int r_4]) (rest := [.ref (h 9), .ref (h 8)]) clE_stable hs ⟨hx, hb, hml, hown, hts⟩ (cC_X5_fromMood l D h cy _ _ _ hw) (cwV 1 hts gX11_order_X5_fromMood rfl rfl rfl (by decide +kernel) ⟨Nat.le_of_ble_eq_true rfl, Nat.le_of_ble_eq_true rfl⟩) (va_recv hK hP (ci := 5) (q0 := 9) rfl rfl) hK hP hD hS hA rfl hl.1 rfl (Nat.le_of_ble_eq_true rfl) dX11_order_36 ⟨Nat.zero_le _, Nat.zero_le _⟩ (fun r_6 S_7 H locs hw hP hD hS => ?_)
    refine lv_bipush (v := 9) hx hb dX11_order_39 (by decide) ?_
    refine e_callVv (As := [.ref (h 9), .int r_6, .int 9]) (rest := []) clE_stable hs ⟨hx, hb, hml, hown, hts⟩ (cC_X7_find_mood l D h cy _ _ _ _ hw) (cwV 3 hts gX11_order_X7_find rfl rfl rfl (by decide +kernel) ⟨Nat.le_of_ble_eq_true rfl, Nat.le_of_ble_eq_true rfl⟩) (va_recv hK hP (ci := 7) (q0 := 8) rfl rfl) hK hP hD hS hA rfl hl.1 rfl (Nat.le_of_ble_eq_true rfl) dX11_order_41 ⟨Nat.zero_le _, Nat.zero_le _⟩ (fun S_9 H locs hw hP hD hS => ?_)
    refine lv_aload_n hx hb dX11_order_44 rfl (lv_at hl 0 rfl) ?_
    refine va_get (D := D) (ci := 10) (v := .ref (h 8)) (C := RX11) (T := TX11) (N := 9) hx hb hts hin11 hown hK hP 0 rfl rfl 5 (by decide) w47 (fun _ h9 => h9) rfl dX11_order_45 ?_
    refine lv_iload_n hx hb dX11_order_48 rfl (lv_at hl 2 rfl) ?_
    refine e_callVi (As := [.int p2]) (rest := []) clE_stable hs ⟨hx, hb, hml, hown, hts⟩ (cC_X7_answer l D h cy _ _ _ hw) (cwV 1 hts gX11_order_X7_answer rfl rfl rfl (by decide +kernel) ⟨Nat.le_of_ble_eq_true rfl, Nat.le_of_ble_eq_true rfl⟩) (va_recv hK hP (ci := 7) (q0 := 8) rfl rfl) hK hP hD hS hA rfl hl.1 rfl (Nat.le_of_ble_eq_true rfl) dX11_order_49 ⟨Nat.zero_le _, Nat.zero_le _⟩ (fun r_10 S_11 H locs hw hP hD hS => ?_)
    exact W.iret (v := r_10) hx hb hr (fun t ht hW => ⟨⟨r_10, S_11, rfl, hw, by rw [ht]; exact hP, va_K.moved hW.alike hK, hD⟩, hS.F ht⟩) hS.2.2 dX11_order_52
  · have hw := hc_3t c_3
    clear hc_3t hc_3f
    refine lv_bipush (v := (-2)) hx hb dX11_order_11 (by decide) ?_
    exact W.iret (v := (-2)) hx hb hr (fun t ht hW => ⟨⟨(-2), S_2, rfl, hw, by rw [ht]; exact hP, va_K.moved hW.alike hK, hD⟩, hS.F ht⟩) hS.2.2 dX11_order_13
def wC_X5_fromEveryMood (S : CS) (post : Int32 → CS → Prop) : Prop := (∀ S_1 : CS, S_1 = (cx_set_m_toGladness S 0) → post 1023 S_1)
set_option maxHeartbeats 4000000 in
set_option maxRecDepth 100000 in
theorem cC_X5_fromEveryMood (l : Launch) (D : va_G) (h : Nat → Nat) (cy : Nat → ClassId) (S : CS) (post : Int32 → CS → Prop) (hw : wC_X5_fromEveryMood S post) : e_Mi clE l yX5_fromEveryMood wsX5_fromEveryMood { frames := 0, cells := 0, slots := 0, locals := 0 } D (tyC cy) (wC h cy) [.ref (h 9)] S post := by
  intro sz
  refine Met.ofW (cc := cX5_fromEveryMood) (maxL := 1) (ret := (some .int)) (by decide) rfl ?_
  intro p e s m args below meth c s₁ B hml hv
  obtain ⟨rfl, hsz, hP, hK, hD0, hs⟩ := hv
  have hx := B.exec
  have hb := B.bytes
  have hr := B.returns
  have hts := atoms_spec (ws := wsX5_fromEveryMood) B.pre
  have hown : s.vm.findClass RX5 = some m.cls := findClass_of_methodNamed B.named
  have hlocks := B.notSynchronized
  subst hsz
  have hD := hD0.self (sz := s.heap.size)
  generalize hAe : va_A (wC h cy S) s.heap.size = A at hD hs ⊢
  have hA : ∀ q : Nat, s.heap.size ≤ q → A q := fun q h => by rw [← hAe]; exact Or.inr h
  have hS : va_S A s.heap s.heap [] := va_S.rf
  have hin5 : ∀ w ∈ wsX50, w ∈ wsX5_fromEveryMood := fun _ h => List.mem_cons_of_mem _ (List.mem_append_right _ h)
  have w9 := hts (.fieldLink RX5 9 "ClownsMourn$MoodWalk" "toGladness" "Z") (List.mem_of_getElem? (i := 1) rfl)
  have hl := lv_entry ([.ref (h 9)]) (n := 1) (Nat.le_of_ble_eq_true rfl)
  rw [lg_entry_eq]
  generalize (lg_sl ([.ref (h 9)]) ++ List.replicate (1 - (lg_sl ([.ref (h 9)])).length) Slot.unset).toArray = ls at hl ⊢
  have hl : lv_has ls 1 [(0, .ref (h 9))] := hl
  unfold wC_X5_fromEveryMood at hw
  clear hD0
  refine lv_aload_n hx hb dX5_fromEveryMood_0 rfl (lv_at hl 0 rfl) ?_
  refine lv_iconst (v := 0) hx hb dX5_fromEveryMood_1 (by decide) ?_
  refine va_put (D := D) (ci := 5) (v := .int 0) (ty := .boolean) (C := RX5) (T := TX5) (N := 2) hx hb hts hin5 tyX5 tyX5_ok nmX5 hown hK hP hD hS 9 rfl rfl 1 (by decide) w9 (fun _ h9 => h9) rfl (tyX5_ok 1 (by decide)) (by decide +kernel) (by decide +kernel) (Nat.le_of_ble_eq_true rfl) dX5_fromEveryMood_2 (fun H locs hP hD hS => ?_)
  obtain ⟨S_1, eS_1⟩ : ∃ z : CS, z = (cx_set_m_toGladness S 0) := ⟨_, rfl⟩
  replace hw := hw S_1 eS_1
  have hP : va_P D vwCl (wC h cy S_1) H := by rw [eS_1, ← wCp_m_toGladness]; exact hP
  have hD : va_D A (wC h cy S_1) := by rw [eS_1, ← wCp_m_toGladness]; exact hD
  refine lv_sipush (v := 1023) hx hb dX5_fromEveryMood_5 (by decide) ?_
  exact W.iret (v := 1023) hx hb hr (fun t ht hW => ⟨⟨1023, S_1, rfl, hw, by rw [ht]; exact hP, va_K.moved hW.alike hK, hD⟩, hS.F ht⟩) hS.2.2 dX5_fromEveryMood_8
def wC_X11_all (p1 : Int32) (S : CS) (post : Int32 → CS → Prop) : Prop := wC_X5_fromEveryMood S (fun r_1 S_2 => wC_X7_find_mood r_1 20 S_2 (fun S_4 => wC_X7_answer p1 S_4 (fun r_5 S_6 => post r_5 S_6)))
set_option maxHeartbeats 4000000 in
set_option maxRecDepth 100000 in
theorem cC_X11_all (l : Launch) (D : va_G) (h : Nat → Nat) (cy : Nat → ClassId) (p1 : Int32) (S : CS) (post : Int32 → CS → Prop) (hw : wC_X11_all p1 S post) : e_Mi clE l yX11_all wsX11_all { frames := 6, cells := 0, slots := 0, locals := 153 } D (tyC cy) (wC h cy) [.ref (h 0), .int p1] S post := by
  intro sz
  refine Met.ofW (cc := cX11_all) (maxL := 2) (ret := (some .int)) (by decide) rfl ?_
  intro p e s m args below meth c s₁ B hml hv
  obtain ⟨rfl, hsz, hP, hK, hD0, hs⟩ := hv
  have hx := B.exec
  have hb := B.bytes
  have hr := B.returns
  have hts := atoms_spec (ws := wsX11_all) B.pre
  have hown : s.vm.findClass RX11 = some m.cls := findClass_of_methodNamed B.named
  have hlocks := B.notSynchronized
  subst hsz
  have hD := hD0.self (sz := s.heap.size)
  generalize hAe : va_A (wC h cy S) s.heap.size = A at hD hs ⊢
  have hA : ∀ q : Nat, s.heap.size ≤ q → A q := fun q h => by rw [← hAe]; exact Or.inr h
  have hS : va_S A s.heap s.heap [] := va_S.rf
  have hin11 : ∀ w ∈ wsX110, w ∈ wsX11_all := fun _ h => List.mem_cons_of_mem _ (List.mem_append_left _ (List.mem_append_left _ (List.mem_append_left _ (List.mem_append_left _ (List.mem_append_left _ (List.mem_append_left _ (List.mem_append_right _ h)))))))
  have hin5 : ∀ w ∈ wsX50, w ∈ wsX11_all := fun _ h => List.mem_cons_of_mem _ (List.mem_append_left _ (List.mem_append_left _ (List.mem_append_left _ (List.mem_append_left _ (List.mem_append_left _ (List.mem_append_right _ h))))))
  have hin7 : ∀ w ∈ wsX70, w ∈ wsX11_all := fun _ h => List.mem_cons_of_mem _ (List.mem_append_left _ (List.mem_append_left _ (List.mem_append_left _ (List.mem_append_left _ (List.mem_append_right _ h)))))
  have hin1 : ∀ w ∈ wsX10, w ∈ wsX11_all := fun _ h => List.mem_cons_of_mem _ (List.mem_append_left _ (List.mem_append_left _ (List.mem_append_left _ (List.mem_append_right _ h))))
  have hin0 : ∀ w ∈ wsX00, w ∈ wsX11_all := fun _ h => List.mem_cons_of_mem _ (List.mem_append_left _ (List.mem_append_left _ (List.mem_append_right _ h)))
  have hin3 : ∀ w ∈ wsX30, w ∈ wsX11_all := fun _ h => List.mem_cons_of_mem _ (List.mem_append_left _ (List.mem_append_right _ h))
  have hin9 : ∀ w ∈ wsX90, w ∈ wsX11_all := fun _ h => List.mem_cons_of_mem _ (List.mem_append_right _ h)
  have w47 := hts (.fieldLink RX11 47 "ClownsMourn" "search" "LClownsMourn$Search;") (List.mem_of_getElem? (i := 1) rfl)
  have w54 := hts (.fieldLink RX11 54 "ClownsMourn" "moodWalk" "LClownsMourn$MoodWalk;") (List.mem_of_getElem? (i := 2) rfl)
  have hl := lv_entry ([.ref (h 0), .int p1]) (n := 2) (Nat.le_of_ble_eq_true rfl)
  rw [lg_entry_eq]
  generalize (lg_sl ([.ref (h 0), .int p1]) ++ List.replicate (2 - (lg_sl ([.ref (h 0), .int p1])).length) Slot.unset).toArray = ls at hl ⊢
  have hl : lv_has ls 2 [(0, .ref (h 0)), (1, .int p1)] := hl
  unfold wC_X11_all at hw
  clear hD0
  refine lv_aload_n hx hb dX11_all_0 rfl (lv_at hl 0 rfl) ?_
  refine va_get (D := D) (ci := 10) (v := .ref (h 8)) (C := RX11) (T := TX11) (N := 9) hx hb hts hin11 hown hK hP 0 rfl rfl 5 (by decide) w47 (fun _ h9 => h9) rfl dX11_all_1 ?_
  refine lv_aload_n hx hb dX11_all_4 rfl (lv_at hl 0 rfl) ?_
  refine va_get (D := D) (ci := 10) (v := .ref (h 9)) (C := RX11) (T := TX11) (N := 9) hx hb hts hin11 hown hK hP 0 rfl rfl 6 (by decide) w54 (fun _ h9 => h9) rfl dX11_all_5 ?_
  refine lv_aload_n hx hb dX11_all_8 rfl (lv_at hl 0 rfl) ?_
  refine va_get (D := D) (ci := 10) (v := .ref (h 9)) (C := RX11) (T := TX11) (N := 9) hx hb hts hin11 hown hK hP 0 rfl rfl 6 (by decide) w54 (fun _ h9 => h9) rfl dX11_all_9 ?_
  refine e_callVi (As := []) (rest := [.ref (h 9), .ref (h 8)]) clE_stable hs ⟨hx, hb, hml, hown, hts⟩ (cC_X5_fromEveryMood l D h cy _ _ hw) (cwV 0 hts gX11_all_X5_fromEveryMood rfl rfl rfl (by decide +kernel) ⟨Nat.le_of_ble_eq_true rfl, Nat.le_of_ble_eq_true rfl⟩) (va_recv hK hP (ci := 5) (q0 := 9) rfl rfl) hK hP hD hS hA rfl hl.1 rfl (Nat.le_of_ble_eq_true rfl) dX11_all_12 ⟨Nat.zero_le _, Nat.zero_le _⟩ (fun r_1 S_2 H locs hw hP hD hS => ?_)
  refine lv_bipush (v := 20) hx hb dX11_all_15 (by decide) ?_
  refine e_callVv (As := [.ref (h 9), .int r_1, .int 20]) (rest := []) clE_stable hs ⟨hx, hb, hml, hown, hts⟩ (cC_X7_find_mood l D h cy _ _ _ _ hw) (cwV 3 hts gX11_all_X7_find rfl rfl rfl (by decide +kernel) ⟨Nat.le_of_ble_eq_true rfl, Nat.le_of_ble_eq_true rfl⟩) (va_recv hK hP (ci := 7) (q0 := 8) rfl rfl) hK hP hD hS hA rfl hl.1 rfl (Nat.le_of_ble_eq_true rfl) dX11_all_17 ⟨Nat.zero_le _, Nat.zero_le _⟩ (fun S_4 H locs hw hP hD hS => ?_)
  refine lv_aload_n hx hb dX11_all_20 rfl (lv_at hl 0 rfl) ?_
  refine va_get (D := D) (ci := 10) (v := .ref (h 8)) (C := RX11) (T := TX11) (N := 9) hx hb hts hin11 hown hK hP 0 rfl rfl 5 (by decide) w47 (fun _ h9 => h9) rfl dX11_all_21 ?_
  refine lv_iload_n hx hb dX11_all_24 rfl (lv_at hl 1 rfl) ?_
  refine e_callVi (As := [.int p1]) (rest := []) clE_stable hs ⟨hx, hb, hml, hown, hts⟩ (cC_X7_answer l D h cy _ _ _ hw) (cwV 1 hts gX11_all_X7_answer rfl rfl rfl (by decide +kernel) ⟨Nat.le_of_ble_eq_true rfl, Nat.le_of_ble_eq_true rfl⟩) (va_recv hK hP (ci := 7) (q0 := 8) rfl rfl) hK hP hD hS hA rfl hl.1 rfl (Nat.le_of_ble_eq_true rfl) dX11_all_25 ⟨Nat.zero_le _, Nat.zero_le _⟩ (fun r_5 S_6 H locs hw hP hD hS => ?_)
  exact W.iret (v := r_5) hx hb hr (fun t ht hW => ⟨⟨r_5, S_6, rfl, hw, by rw [ht]; exact hP, va_K.moved hW.alike hK, hD⟩, hS.F ht⟩) hS.2.2 dX11_all_28
def wC_X1_begin (p1 : Int32) (p2 : Int32) (S : CS) (post : Int32 → CS → Prop) : Prop := (∀ S_1 : CS, S_1 = (cx_set_f_clown S p1) → wC_X0_see 29 p1 S_1 (fun r_2 S_3 => (∀ S_4 : CS, S_4 = (cx_set_f_house S_3 r_2) → wC_X0_see 24 p1 S_4 (fun r_5 S_6 => (∀ S_7 : CS, S_7 = (cx_set_f_tired S_6 r_5) → (∀ S_8 : CS, S_8 = (cx_set_f_enough S_7 p2) → wC_X0_see 6 (cx_f_house S_8) S_8 (fun r_9 S_10 => wC_X0_see 0 (cx_f_house S_10) S_10 (fun r_11 S_12 => post ((r_9 * 100) + r_11) S_12))))))))
set_option maxHeartbeats 4000000 in
set_option maxRecDepth 100000 in
theorem cC_X1_begin (l : Launch) (D : va_G) (h : Nat → Nat) (cy : Nat → ClassId) (p1 : Int32) (p2 : Int32) (S : CS) (post : Int32 → CS → Prop) (hw : wC_X1_begin p1 p2 S post) : e_Mi clE l yX1_begin wsX1_begin { frames := 2, cells := 0, slots := 0, locals := 43 } D (tyC cy) (wC h cy) [.ref (h 10), .int p1, .int p2] S post := by
  intro sz
  refine Met.ofW (cc := cX1_begin) (maxL := 3) (ret := (some .int)) (by decide) rfl ?_
  intro p e s m args below meth c s₁ B hml hv
  obtain ⟨rfl, hsz, hP, hK, hD0, hs⟩ := hv
  have hx := B.exec
  have hb := B.bytes
  have hr := B.returns
  have hts := atoms_spec (ws := wsX1_begin) B.pre
  have hown : s.vm.findClass RX1 = some m.cls := findClass_of_methodNamed B.named
  have hlocks := B.notSynchronized
  subst hsz
  have hD := hD0.self (sz := s.heap.size)
  generalize hAe : va_A (wC h cy S) s.heap.size = A at hD hs ⊢
  have hA : ∀ q : Nat, s.heap.size ≤ q → A q := fun q h => by rw [← hAe]; exact Or.inr h
  have hS : va_S A s.heap s.heap [] := va_S.rf
  have hin1 : ∀ w ∈ wsX10, w ∈ wsX1_begin := fun _ h => List.mem_cons_of_mem _ (List.mem_append_left _ (List.mem_append_right _ h))
  have hin0 : ∀ w ∈ wsX00, w ∈ wsX1_begin := fun _ h => List.mem_cons_of_mem _ (List.mem_append_right _ h)
  have w13 := hts (.fieldLink RX1 13 "ClownsMourn$ComfortWalk" "clown" "I") (List.mem_of_getElem? (i := 1) rfl)
  have w16 := hts (.fieldLink RX1 16 "ClownsMourn$ComfortWalk" "house" "I") (List.mem_of_getElem? (i := 3) rfl)
  have w19 := hts (.fieldLink RX1 19 "ClownsMourn$ComfortWalk" "enough" "I") (List.mem_of_getElem? (i := 5) rfl)
  have w22 := hts (.fieldLink RX1 22 "ClownsMourn$ComfortWalk" "city" "LClownsMourn$City;") (List.mem_of_getElem? (i := 2) rfl)
  have w7 := hts (.fieldLink RX1 7 "ClownsMourn$ComfortWalk" "tired" "I") (List.mem_of_getElem? (i := 4) rfl)
  have hl := lv_entry ([.ref (h 10), .int p1, .int p2]) (n := 3) (Nat.le_of_ble_eq_true rfl)
  rw [lg_entry_eq]
  generalize (lg_sl ([.ref (h 10), .int p1, .int p2]) ++ List.replicate (3 - (lg_sl ([.ref (h 10), .int p1, .int p2])).length) Slot.unset).toArray = ls at hl ⊢
  have hl : lv_has ls 3 [(0, .ref (h 10)), (1, .int p1), (2, .int p2)] := hl
  unfold wC_X1_begin at hw
  clear hD0
  refine lv_aload_n hx hb dX1_begin_0 rfl (lv_at hl 0 rfl) ?_
  refine lv_iload_n hx hb dX1_begin_1 rfl (lv_at hl 1 rfl) ?_
  refine va_put (D := D) (ci := 1) (v := .int p1) (ty := .int) (C := RX1) (T := TX1) (N := 6) hx hb hts hin1 tyX1 tyX1_ok nmX1 hown hK hP hD hS 10 rfl rfl 3 (by decide) w13 (fun _ h9 => h9) rfl (tyX1_ok 3 (by decide)) rfl rfl (Nat.le_of_ble_eq_true rfl) dX1_begin_2 (fun H locs hP hD hS => ?_)
  obtain ⟨S_1, eS_1⟩ : ∃ z : CS, z = (cx_set_f_clown S p1) := ⟨_, rfl⟩
  replace hw := hw S_1 eS_1
  have hP : va_P D vwCl (wC h cy S_1) H := by rw [eS_1, ← wCp_f_clown]; exact hP
  have hD : va_D A (wC h cy S_1) := by rw [eS_1, ← wCp_f_clown]; exact hD
  refine lv_aload_n hx hb dX1_begin_5 rfl (lv_at hl 0 rfl) ?_
  refine lv_aload_n hx hb dX1_begin_6 rfl (lv_at hl 0 rfl) ?_
  refine va_get (D := D) (ci := 1) (v := .ref (h 1)) (C := RX1) (T := TX1) (N := 6) hx hb hts hin1 hown hK hP 10 rfl rfl 1 (by decide) w22 (fun _ h9 => h9) rfl dX1_begin_7 ?_
  refine lv_bipush (v := 29) hx hb dX1_begin_10 (by decide) ?_
  refine lv_iload_n hx hb dX1_begin_12 rfl (lv_at hl 1 rfl) ?_
  refine e_callVi (As := [.int 29, .int p1]) (rest := [.ref (h 10)]) clE_stable hs ⟨hx, hb, hml, hown, hts⟩ (cC_X0_see l D h cy _ _ _ _ hw) (cwV 2 hts gX1_begin_X0_see rfl rfl rfl (by decide +kernel) ⟨Nat.le_of_ble_eq_true rfl, Nat.le_of_ble_eq_true rfl⟩) (va_recv hK hP (ci := 0) (q0 := 1) rfl rfl) hK hP hD hS hA rfl hl.1 rfl (Nat.le_of_ble_eq_true rfl) dX1_begin_13 ⟨Nat.zero_le _, Nat.zero_le _⟩ (fun r_2 S_3 H locs hw hP hD hS => ?_)
  refine va_put (D := D) (ci := 1) (v := .int r_2) (ty := .int) (C := RX1) (T := TX1) (N := 6) hx hb hts hin1 tyX1 tyX1_ok nmX1 hown hK hP hD hS 10 rfl rfl 4 (by decide) w16 (fun _ h9 => h9) rfl (tyX1_ok 4 (by decide)) rfl rfl (Nat.le_of_ble_eq_true rfl) dX1_begin_16 (fun H locs hP hD hS => ?_)
  obtain ⟨S_4, eS_4⟩ : ∃ z : CS, z = (cx_set_f_house S_3 r_2) := ⟨_, rfl⟩
  replace hw := hw S_4 eS_4
  have hP : va_P D vwCl (wC h cy S_4) H := by rw [eS_4, ← wCp_f_house]; exact hP
  have hD : va_D A (wC h cy S_4) := by rw [eS_4, ← wCp_f_house]; exact hD
  refine lv_aload_n hx hb dX1_begin_19 rfl (lv_at hl 0 rfl) ?_
  refine lv_aload_n hx hb dX1_begin_20 rfl (lv_at hl 0 rfl) ?_
  refine va_get (D := D) (ci := 1) (v := .ref (h 1)) (C := RX1) (T := TX1) (N := 6) hx hb hts hin1 hown hK hP 10 rfl rfl 1 (by decide) w22 (fun _ h9 => h9) rfl dX1_begin_21 ?_
  refine lv_bipush (v := 24) hx hb dX1_begin_24 (by decide) ?_
  refine lv_iload_n hx hb dX1_begin_26 rfl (lv_at hl 1 rfl) ?_
  refine e_callVi (As := [.int 24, .int p1]) (rest := [.ref (h 10)]) clE_stable hs ⟨hx, hb, hml, hown, hts⟩ (cC_X0_see l D h cy _ _ _ _ hw) (cwV 2 hts gX1_begin_X0_see rfl rfl rfl (by decide +kernel) ⟨Nat.le_of_ble_eq_true rfl, Nat.le_of_ble_eq_true rfl⟩) (va_recv hK hP (ci := 0) (q0 := 1) rfl rfl) hK hP hD hS hA rfl hl.1 rfl (Nat.le_of_ble_eq_true rfl) dX1_begin_27 ⟨Nat.zero_le _, Nat.zero_le _⟩ (fun r_5 S_6 H locs hw hP hD hS => ?_)
  refine va_put (D := D) (ci := 1) (v := .int r_5) (ty := .int) (C := RX1) (T := TX1) (N := 6) hx hb hts hin1 tyX1 tyX1_ok nmX1 hown hK hP hD hS 10 rfl rfl 0 (by decide) w7 (fun _ h9 => h9) rfl (tyX1_ok 0 (by decide)) rfl rfl (Nat.le_of_ble_eq_true rfl) dX1_begin_30 (fun H locs hP hD hS => ?_)
  obtain ⟨S_7, eS_7⟩ : ∃ z : CS, z = (cx_set_f_tired S_6 r_5) := ⟨_, rfl⟩
  replace hw := hw S_7 eS_7
  have hP : va_P D vwCl (wC h cy S_7) H := by rw [eS_7, ← wCp_f_tired]; exact hP
  have hD : va_D A (wC h cy S_7) := by rw [eS_7, ← wCp_f_tired]; exact hD
  refine lv_aload_n hx hb dX1_begin_33 rfl (lv_at hl 0 rfl) ?_
  refine lv_iload_n hx hb dX1_begin_34 rfl (lv_at hl 2 rfl) ?_
  refine va_put (D := D) (ci := 1) (v := .int p2) (ty := .int) (C := RX1) (T := TX1) (N := 6) hx hb hts hin1 tyX1 tyX1_ok nmX1 hown hK hP hD hS 10 rfl rfl 5 (by decide) w19 (fun _ h9 => h9) rfl (tyX1_ok 5 (by decide)) rfl rfl (Nat.le_of_ble_eq_true rfl) dX1_begin_35 (fun H locs hP hD hS => ?_)
  obtain ⟨S_8, eS_8⟩ : ∃ z : CS, z = (cx_set_f_enough S_7 p2) := ⟨_, rfl⟩
  replace hw := hw S_8 eS_8
  have hP : va_P D vwCl (wC h cy S_8) H := by rw [eS_8, ← wCp_f_enough]; exact hP
  have hD : va_D A (wC h cy S_8) := by rw [eS_8, ← wCp_f_enough]; exact hD
  refine lv_aload_n hx hb dX1_begin_38 rfl (lv_at hl 0 rfl) ?_
  refine va_get (D := D) (ci := 1) (v := .ref (h 1)) (C := RX1) (T := TX1) (N := 6) hx hb hts hin1 hown hK hP 10 rfl rfl 1 (by decide) w22 (fun _ h9 => h9) rfl dX1_begin_39 ?_
  refine lv_bipush (v := 6) hx hb dX1_begin_42 (by decide) ?_
  refine lv_aload_n hx hb dX1_begin_44 rfl (lv_at hl 0 rfl) ?_
  refine va_get (D := D) (ci := 1) (v := .int (cx_f_house S_8)) (C := RX1) (T := TX1) (N := 6) hx hb hts hin1 hown hK hP 10 rfl rfl 4 (by decide) w16 (fun _ h9 => h9) rfl dX1_begin_45 ?_
  refine e_callVi (As := [.int 6, .int (cx_f_house S_8)]) (rest := []) clE_stable hs ⟨hx, hb, hml, hown, hts⟩ (cC_X0_see l D h cy _ _ _ _ hw) (cwV 2 hts gX1_begin_X0_see rfl rfl rfl (by decide +kernel) ⟨Nat.le_of_ble_eq_true rfl, Nat.le_of_ble_eq_true rfl⟩) (va_recv hK hP (ci := 0) (q0 := 1) rfl rfl) hK hP hD hS hA rfl hl.1 rfl (Nat.le_of_ble_eq_true rfl) dX1_begin_48 ⟨Nat.zero_le _, Nat.zero_le _⟩ (fun r_9 S_10 H locs hw hP hD hS => ?_)
  refine lv_bipush (v := 100) hx hb dX1_begin_51 (by decide) ?_
  refine lv_imul hx hb dX1_begin_53 ?_
  refine lv_aload_n hx hb dX1_begin_54 rfl (lv_at hl 0 rfl) ?_
  refine va_get (D := D) (ci := 1) (v := .ref (h 1)) (C := RX1) (T := TX1) (N := 6) hx hb hts hin1 hown hK hP 10 rfl rfl 1 (by decide) w22 (fun _ h9 => h9) rfl dX1_begin_55 ?_
  refine lv_iconst (v := 0) hx hb dX1_begin_58 (by decide) ?_
  refine lv_aload_n hx hb dX1_begin_59 rfl (lv_at hl 0 rfl) ?_
  refine va_get (D := D) (ci := 1) (v := .int (cx_f_house S_10)) (C := RX1) (T := TX1) (N := 6) hx hb hts hin1 hown hK hP 10 rfl rfl 4 (by decide) w16 (fun _ h9 => h9) rfl dX1_begin_60 ?_
  refine e_callVi (As := [.int 0, .int (cx_f_house S_10)]) (rest := [.int (r_9 * 100)]) clE_stable hs ⟨hx, hb, hml, hown, hts⟩ (cC_X0_see l D h cy _ _ _ _ hw) (cwV 2 hts gX1_begin_X0_see rfl rfl rfl (by decide +kernel) ⟨Nat.le_of_ble_eq_true rfl, Nat.le_of_ble_eq_true rfl⟩) (va_recv hK hP (ci := 0) (q0 := 1) rfl rfl) hK hP hD hS hA rfl hl.1 rfl (Nat.le_of_ble_eq_true rfl) dX1_begin_63 ⟨Nat.zero_le _, Nat.zero_le _⟩ (fun r_11 S_12 H locs hw hP hD hS => ?_)
  refine lv_iadd hx hb dX1_begin_66 ?_
  exact W.iret (v := (r_9 * 100) + r_11) hx hb hr (fun t ht hW => ⟨⟨(r_9 * 100) + r_11, S_12, rfl, hw, by rw [ht]; exact hP, va_K.moved hW.alike hK, hD⟩, hS.F ht⟩) hS.2.2 dX1_begin_67
def wC_X1_become (p1 : Int32) (p2 : Int32) (S : CS) (post : CS → Prop) : Prop := wC_X0_set 6 (cx_f_house S) (p1 / 100) S (fun S_2 => wC_X0_set 0 (cx_f_house S_2) (k_rem p1 100) S_2 (fun S_4 => wC_X0_set 24 (cx_f_clown S_4) p2 S_4 (fun S_6 => post S_6)))
set_option maxHeartbeats 4000000 in
set_option maxRecDepth 100000 in
theorem cC_X1_become (l : Launch) (D : va_G) (h : Nat → Nat) (cy : Nat → ClassId) (p1 : Int32) (p2 : Int32) (S : CS) (post : CS → Prop) (hw : wC_X1_become p1 p2 S post) : e_Mv clE l yX1_become wsX1_become { frames := 2, cells := 0, slots := 0, locals := 45 } D (tyC cy) (wC h cy) [.ref (h 10), .int p1, .int p2] S post := by
  intro sz
  refine Met.ofW (cc := cX1_become) (maxL := 3) (ret := none) (by decide) rfl ?_
  intro p e s m args below meth c s₁ B hml hv
  obtain ⟨rfl, hsz, hP, hK, hD0, hs⟩ := hv
  have hx := B.exec
  have hb := B.bytes
  have hr := B.returns
  have hts := atoms_spec (ws := wsX1_become) B.pre
  have hown : s.vm.findClass RX1 = some m.cls := findClass_of_methodNamed B.named
  have hlocks := B.notSynchronized
  subst hsz
  have hD := hD0.self (sz := s.heap.size)
  generalize hAe : va_A (wC h cy S) s.heap.size = A at hD hs ⊢
  have hA : ∀ q : Nat, s.heap.size ≤ q → A q := fun q h => by rw [← hAe]; exact Or.inr h
  have hS : va_S A s.heap s.heap [] := va_S.rf
  have hin1 : ∀ w ∈ wsX10, w ∈ wsX1_become := fun _ h => List.mem_cons_of_mem _ (List.mem_append_left _ (List.mem_append_right _ h))
  have hin0 : ∀ w ∈ wsX00, w ∈ wsX1_become := fun _ h => List.mem_cons_of_mem _ (List.mem_append_right _ h)
  have w13 := hts (.fieldLink RX1 13 "ClownsMourn$ComfortWalk" "clown" "I") (List.mem_of_getElem? (i := 3) rfl)
  have w16 := hts (.fieldLink RX1 16 "ClownsMourn$ComfortWalk" "house" "I") (List.mem_of_getElem? (i := 2) rfl)
  have w22 := hts (.fieldLink RX1 22 "ClownsMourn$ComfortWalk" "city" "LClownsMourn$City;") (List.mem_of_getElem? (i := 1) rfl)
  have hl := lv_entry ([.ref (h 10), .int p1, .int p2]) (n := 3) (Nat.le_of_ble_eq_true rfl)
  rw [lg_entry_eq]
  generalize (lg_sl ([.ref (h 10), .int p1, .int p2]) ++ List.replicate (3 - (lg_sl ([.ref (h 10), .int p1, .int p2])).length) Slot.unset).toArray = ls at hl ⊢
  have hl : lv_has ls 3 [(0, .ref (h 10)), (1, .int p1), (2, .int p2)] := hl
  unfold wC_X1_become at hw
  clear hD0
  refine lv_aload_n hx hb dX1_become_0 rfl (lv_at hl 0 rfl) ?_
  refine va_get (D := D) (ci := 1) (v := .ref (h 1)) (C := RX1) (T := TX1) (N := 6) hx hb hts hin1 hown hK hP 10 rfl rfl 1 (by decide) w22 (fun _ h9 => h9) rfl dX1_become_1 ?_
  refine lv_bipush (v := 6) hx hb dX1_become_4 (by decide) ?_
  refine lv_aload_n hx hb dX1_become_6 rfl (lv_at hl 0 rfl) ?_
  refine va_get (D := D) (ci := 1) (v := .int (cx_f_house S)) (C := RX1) (T := TX1) (N := 6) hx hb hts hin1 hown hK hP 10 rfl rfl 4 (by decide) w16 (fun _ h9 => h9) rfl dX1_become_7 ?_
  refine lv_iload_n hx hb dX1_become_10 rfl (lv_at hl 1 rfl) ?_
  refine lv_bipush (v := 100) hx hb dX1_become_11 (by decide) ?_
  refine lv_idiv hx hb dX1_become_13 (by decide) ?_
  refine e_callVv (As := [.int 6, .int (cx_f_house S), .int (p1 / 100)]) (rest := []) clE_stable hs ⟨hx, hb, hml, hown, hts⟩ (cC_X0_set l D h cy _ _ _ _ _ hw) (cwV 3 hts gX1_become_X0_set rfl rfl rfl (by decide +kernel) ⟨Nat.le_of_ble_eq_true rfl, Nat.le_of_ble_eq_true rfl⟩) (va_recv hK hP (ci := 0) (q0 := 1) rfl rfl) hK hP hD hS hA rfl hl.1 rfl (Nat.le_of_ble_eq_true rfl) dX1_become_14 ⟨Nat.zero_le _, Nat.zero_le _⟩ (fun S_2 H locs hw hP hD hS => ?_)
  refine lv_aload_n hx hb dX1_become_17 rfl (lv_at hl 0 rfl) ?_
  refine va_get (D := D) (ci := 1) (v := .ref (h 1)) (C := RX1) (T := TX1) (N := 6) hx hb hts hin1 hown hK hP 10 rfl rfl 1 (by decide) w22 (fun _ h9 => h9) rfl dX1_become_18 ?_
  refine lv_iconst (v := 0) hx hb dX1_become_21 (by decide) ?_
  refine lv_aload_n hx hb dX1_become_22 rfl (lv_at hl 0 rfl) ?_
  refine va_get (D := D) (ci := 1) (v := .int (cx_f_house S_2)) (C := RX1) (T := TX1) (N := 6) hx hb hts hin1 hown hK hP 10 rfl rfl 4 (by decide) w16 (fun _ h9 => h9) rfl dX1_become_23 ?_
  refine lv_iload_n hx hb dX1_become_26 rfl (lv_at hl 1 rfl) ?_
  refine lv_bipush (v := 100) hx hb dX1_become_27 (by decide) ?_
  refine k_irem hx hb dX1_become_29 (by decide) ?_
  refine e_callVv (As := [.int 0, .int (cx_f_house S_2), .int (k_rem p1 100)]) (rest := []) clE_stable hs ⟨hx, hb, hml, hown, hts⟩ (cC_X0_set l D h cy _ _ _ _ _ hw) (cwV 3 hts gX1_become_X0_set rfl rfl rfl (by decide +kernel) ⟨Nat.le_of_ble_eq_true rfl, Nat.le_of_ble_eq_true rfl⟩) (va_recv hK hP (ci := 0) (q0 := 1) rfl rfl) hK hP hD hS hA rfl hl.1 rfl (Nat.le_of_ble_eq_true rfl) dX1_become_30 ⟨Nat.zero_le _, Nat.zero_le _⟩ (fun S_4 H locs hw hP hD hS => ?_)
  refine lv_aload_n hx hb dX1_become_33 rfl (lv_at hl 0 rfl) ?_
  refine va_get (D := D) (ci := 1) (v := .ref (h 1)) (C := RX1) (T := TX1) (N := 6) hx hb hts hin1 hown hK hP 10 rfl rfl 1 (by decide) w22 (fun _ h9 => h9) rfl dX1_become_34 ?_
  refine lv_bipush (v := 24) hx hb dX1_become_37 (by decide) ?_
  refine lv_aload_n hx hb dX1_become_39 rfl (lv_at hl 0 rfl) ?_
  refine va_get (D := D) (ci := 1) (v := .int (cx_f_clown S_4)) (C := RX1) (T := TX1) (N := 6) hx hb hts hin1 hown hK hP 10 rfl rfl 3 (by decide) w13 (fun _ h9 => h9) rfl dX1_become_40 ?_
  refine lv_iload_n hx hb dX1_become_43 rfl (lv_at hl 2 rfl) ?_
  refine e_callVv (As := [.int 24, .int (cx_f_clown S_4), .int p2]) (rest := []) clE_stable hs ⟨hx, hb, hml, hown, hts⟩ (cC_X0_set l D h cy _ _ _ _ _ hw) (cwV 3 hts gX1_become_X0_set rfl rfl rfl (by decide +kernel) ⟨Nat.le_of_ble_eq_true rfl, Nat.le_of_ble_eq_true rfl⟩) (va_recv hK hP (ci := 0) (q0 := 1) rfl rfl) hK hP hD hS hA rfl hl.1 rfl (Nat.le_of_ble_eq_true rfl) dX1_become_44 ⟨Nat.zero_le _, Nat.zero_le _⟩ (fun S_6 H locs hw hP hD hS => ?_)
  exact W.vret hx hb hr (fun t ht hW => ⟨⟨S_6, rfl, hw, by rw [ht]; exact hP, va_K.moved hW.alike hK, hD⟩, hS.F ht⟩) hS.2.2 dX1_become_47
def wC_X1_moved (p1 : Int32) (p2 : Int32) (p3 : Int32) (S : CS) (post : Int32 → CS → Prop) : Prop := wC_X1_become p1 ((cx_f_tired S) + p3) S (fun S_2 => wC_X3_easing (cx_f_clown S_2) p2 S_2 (fun r_3 S_4 => wC_X0_turned p2 (p1 / 100) S_4 (fun r_5 S_6 => post ((r_5 * 100) + (if ((k_rem p1 100) - r_3) < 0 then 0 else ((k_rem p1 100) - r_3))) S_6)))
set_option maxHeartbeats 4000000 in
set_option maxRecDepth 100000 in
theorem cC_X1_moved (l : Launch) (D : va_G) (h : Nat → Nat) (cy : Nat → ClassId) (p1 : Int32) (p2 : Int32) (p3 : Int32) (S : CS) (post : Int32 → CS → Prop) (hw : wC_X1_moved p1 p2 p3 S post) : e_Mi clE l yX1_moved wsX1_moved { frames := 4, cells := 0, slots := 0, locals := 99 } D (tyC cy) (wC h cy) [.ref (h 10), .int p1, .int p2, .int p3] S post := by
  intro sz
  refine Met.ofW (cc := cX1_moved) (maxL := 5) (ret := (some .int)) (by decide) rfl ?_
  intro p e s m args below meth c s₁ B hml hv
  obtain ⟨rfl, hsz, hP, hK, hD0, hs⟩ := hv
  have hx := B.exec
  have hb := B.bytes
  have hr := B.returns
  have hts := atoms_spec (ws := wsX1_moved) B.pre
  have hown : s.vm.findClass RX1 = some m.cls := findClass_of_methodNamed B.named
  have hlocks := B.notSynchronized
  subst hsz
  have hD := hD0.self (sz := s.heap.size)
  generalize hAe : va_A (wC h cy S) s.heap.size = A at hD hs ⊢
  have hA : ∀ q : Nat, s.heap.size ≤ q → A q := fun q h => by rw [← hAe]; exact Or.inr h
  have hS : va_S A s.heap s.heap [] := va_S.rf
  have hin1 : ∀ w ∈ wsX10, w ∈ wsX1_moved := fun _ h => List.mem_cons_of_mem _ (List.mem_append_left _ (List.mem_append_left _ (List.mem_append_left _ (List.mem_append_right _ h))))
  have hin0 : ∀ w ∈ wsX00, w ∈ wsX1_moved := fun _ h => List.mem_cons_of_mem _ (List.mem_append_left _ (List.mem_append_left _ (List.mem_append_right _ h)))
  have hin3 : ∀ w ∈ wsX30, w ∈ wsX1_moved := fun _ h => List.mem_cons_of_mem _ (List.mem_append_left _ (List.mem_append_right _ h))
  have hin9 : ∀ w ∈ wsX90, w ∈ wsX1_moved := fun _ h => List.mem_cons_of_mem _ (List.mem_append_right _ h)
  have w13 := hts (.fieldLink RX1 13 "ClownsMourn$ComfortWalk" "clown" "I") (List.mem_of_getElem? (i := 3) rfl)
  have w22 := hts (.fieldLink RX1 22 "ClownsMourn$ComfortWalk" "city" "LClownsMourn$City;") (List.mem_of_getElem? (i := 8) rfl)
  have w26 := hts (.fieldLink RX1 26 "ClownsMourn$ComfortWalk" "laws" "LClownsMourn$Laws;") (List.mem_of_getElem? (i := 2) rfl)
  have w7 := hts (.fieldLink RX1 7 "ClownsMourn$ComfortWalk" "tired" "I") (List.mem_of_getElem? (i := 1) rfl)
  have wm45 := hts (.methodLink RX1 45 Lib.Math.max.name) (List.mem_of_getElem? (i := 4) rfl)
  have wsmax := hts (.static Lib.Math.max.name) (List.mem_of_getElem? (i := 5) rfl)
  have wcdmax := hts (.code Lib.Math.max.name Lib.Math.max.code 2 (some .int)) (List.mem_of_getElem? (i := 7) rfl)
  have wiM := hts (.initialized "java/lang/Math") (List.mem_of_getElem? (i := 6) rfl)
  have hl := lv_entry ([.ref (h 10), .int p1, .int p2, .int p3]) (n := 5) (Nat.le_of_ble_eq_true rfl)
  rw [lg_entry_eq]
  generalize (lg_sl ([.ref (h 10), .int p1, .int p2, .int p3]) ++ List.replicate (5 - (lg_sl ([.ref (h 10), .int p1, .int p2, .int p3])).length) Slot.unset).toArray = ls at hl ⊢
  have hl : lv_has ls 5 [(0, .ref (h 10)), (1, .int p1), (2, .int p2), (3, .int p3)] := hl
  unfold wC_X1_moved at hw
  clear hD0
  refine lv_aload_n hx hb dX1_moved_0 rfl (lv_at hl 0 rfl) ?_
  refine lv_iload_n hx hb dX1_moved_1 rfl (lv_at hl 1 rfl) ?_
  refine lv_aload_n hx hb dX1_moved_2 rfl (lv_at hl 0 rfl) ?_
  refine va_get (D := D) (ci := 1) (v := .int (cx_f_tired S)) (C := RX1) (T := TX1) (N := 6) hx hb hts hin1 hown hK hP 10 rfl rfl 0 (by decide) w7 (fun _ h9 => h9) rfl dX1_moved_3 ?_
  refine lv_iload_n hx hb dX1_moved_6 rfl (lv_at hl 3 rfl) ?_
  refine lv_iadd hx hb dX1_moved_7 ?_
  refine e_callVv (As := [.int p1, .int ((cx_f_tired S) + p3)]) (rest := []) clE_stable hs ⟨hx, hb, hml, hown, hts⟩ (cC_X1_become l D h cy _ _ _ _ hw) (cwV 2 hts gX1_moved_X1_become rfl rfl rfl (by decide +kernel) ⟨Nat.le_of_ble_eq_true rfl, Nat.le_of_ble_eq_true rfl⟩) (va_recv hK hP (ci := 1) (q0 := 10) rfl rfl) hK hP hD hS hA rfl hl.1 rfl (Nat.le_of_ble_eq_true rfl) dX1_moved_8 ⟨Nat.zero_le _, Nat.zero_le _⟩ (fun S_2 H locs hw hP hD hS => ?_)
  refine lv_iload_n hx hb dX1_moved_11 rfl (lv_at hl 1 rfl) ?_
  refine lv_bipush (v := 100) hx hb dX1_moved_12 (by decide) ?_
  refine k_irem hx hb dX1_moved_14 (by decide) ?_
  refine lv_aload_n hx hb dX1_moved_15 rfl (lv_at hl 0 rfl) ?_
  refine va_get (D := D) (ci := 1) (v := .ref (h 6)) (C := RX1) (T := TX1) (N := 6) hx hb hts hin1 hown hK hP 10 rfl rfl 2 (by decide) w26 (fun _ h9 => h9) rfl dX1_moved_16 ?_
  refine lv_aload_n hx hb dX1_moved_19 rfl (lv_at hl 0 rfl) ?_
  refine va_get (D := D) (ci := 1) (v := .int (cx_f_clown S_2)) (C := RX1) (T := TX1) (N := 6) hx hb hts hin1 hown hK hP 10 rfl rfl 3 (by decide) w13 (fun _ h9 => h9) rfl dX1_moved_20 ?_
  refine lv_iload_n hx hb dX1_moved_23 rfl (lv_at hl 2 rfl) ?_
  refine e_callVi (As := [.int (cx_f_clown S_2), .int p2]) (rest := [.int (k_rem p1 100)]) clE_stable hs ⟨hx, hb, hml, hown, hts⟩ (cC_X3_easing l D h cy _ _ _ _ hw) (cwV 2 hts gX1_moved_X3_easing rfl rfl rfl (by decide +kernel) ⟨Nat.le_of_ble_eq_true rfl, Nat.le_of_ble_eq_true rfl⟩) (va_recv hK hP (ci := 3) (q0 := 6) rfl rfl) hK hP hD hS hA rfl hl.1 rfl (Nat.le_of_ble_eq_true rfl) dX1_moved_24 ⟨Nat.zero_le _, Nat.zero_le _⟩ (fun r_3 S_4 H locs hw hP hD hS => ?_)
  refine lv_isub hx hb dX1_moved_27 ?_
  refine lv_iconst (v := 0) hx hb dX1_moved_28 (by decide) ?_
  refine va_mmax (own := RX1) (index := 45) hx hb (hml.trans hl.1.symm) hown wm45 wsmax wiM wcdmax (Nat.le_of_ble_eq_true rfl) (Nat.le_of_ble_eq_true rfl) (Nat.zero_le _) (Nat.zero_le _) dX1_moved_29 ?_
  refine lv_istore (lv' := [(4, .int (if ((k_rem p1 100) - r_3) < 0 then 0 else ((k_rem p1 100) - r_3))), (0, .ref (h 10)), (1, .int p1), (2, .int p2), (3, .int p3)]) hx hb dX1_moved_32 hl (by decide) rfl (fun ls hl => ?_)
  refine lv_aload_n hx hb dX1_moved_34 rfl (lv_at hl 1 rfl) ?_
  refine va_get (D := D) (ci := 1) (v := .ref (h 1)) (C := RX1) (T := TX1) (N := 6) hx hb hts hin1 hown hK hP 10 rfl rfl 1 (by decide) w22 (fun _ h9 => h9) rfl dX1_moved_35 ?_
  refine lv_iload_n hx hb dX1_moved_38 rfl (lv_at hl 3 rfl) ?_
  refine lv_iload_n hx hb dX1_moved_39 rfl (lv_at hl 2 rfl) ?_
  refine lv_bipush (v := 100) hx hb dX1_moved_40 (by decide) ?_
  refine lv_idiv hx hb dX1_moved_42 (by decide) ?_
  refine e_callVi (As := [.int p2, .int (p1 / 100)]) (rest := []) clE_stable hs ⟨hx, hb, hml, hown, hts⟩ (cC_X0_turned l D h cy _ _ _ _ hw) (cwV 2 hts gX1_moved_X0_turned rfl rfl rfl (by decide +kernel) ⟨Nat.le_of_ble_eq_true rfl, Nat.le_of_ble_eq_true rfl⟩) (va_recv hK hP (ci := 0) (q0 := 1) rfl rfl) hK hP hD hS hA rfl hl.1 rfl (Nat.le_of_ble_eq_true rfl) dX1_moved_43 ⟨Nat.zero_le _, Nat.zero_le _⟩ (fun r_5 S_6 H locs hw hP hD hS => ?_)
  refine lv_bipush (v := 100) hx hb dX1_moved_46 (by decide) ?_
  refine lv_imul hx hb dX1_moved_48 ?_
  refine lv_iload hx hb dX1_moved_49 (lv_at hl 0 rfl) ?_
  refine lv_iadd hx hb dX1_moved_51 ?_
  exact W.iret (v := (r_5 * 100) + (if ((k_rem p1 100) - r_3) < 0 then 0 else ((k_rem p1 100) - r_3))) hx hb hr (fun t ht hW => ⟨⟨(r_5 * 100) + (if ((k_rem p1 100) - r_3) < 0 then 0 else ((k_rem p1 100) - r_3)), S_6, rfl, hw, by rw [ht]; exact hP, va_K.moved hW.alike hK, hD⟩, hS.F ht⟩) hS.2.2 dX1_moved_52
def wC_X1_arrived (p1 : Int32) (S : CS) (post : Int32 → CS → Prop) : Prop := (((cx_f_enough S) < (k_rem p1 100) → post 0 S) ∧ (¬ ((cx_f_enough S) < (k_rem p1 100)) → post 1 S))
set_option maxHeartbeats 4000000 in
set_option maxRecDepth 100000 in
theorem cC_X1_arrived (l : Launch) (D : va_G) (h : Nat → Nat) (cy : Nat → ClassId) (p1 : Int32) (S : CS) (post : Int32 → CS → Prop) (hw : wC_X1_arrived p1 S post) : e_Mi clE l yX1_arrived wsX1_arrived { frames := 0, cells := 0, slots := 0, locals := 0 } D (tyC cy) (wC h cy) [.ref (h 10), .int p1] S post := by
  intro sz
  refine Met.ofW (cc := cX1_arrived) (maxL := 2) (ret := (some .boolean)) (by decide) rfl ?_
  intro p e s m args below meth c s₁ B hml hv
  obtain ⟨rfl, hsz, hP, hK, hD0, hs⟩ := hv
  have hx := B.exec
  have hb := B.bytes
  have hr := B.returns
  have hts := atoms_spec (ws := wsX1_arrived) B.pre
  have hown : s.vm.findClass RX1 = some m.cls := findClass_of_methodNamed B.named
  have hlocks := B.notSynchronized
  subst hsz
  have hD := hD0.self (sz := s.heap.size)
  generalize hAe : va_A (wC h cy S) s.heap.size = A at hD hs ⊢
  have hA : ∀ q : Nat, s.heap.size ≤ q → A q := fun q h => by rw [← hAe]; exact Or.inr h
  have hS : va_S A s.heap s.heap [] := va_S.rf
  have hin1 : ∀ w ∈ wsX10, w ∈ wsX1_arrived := fun _ h => List.mem_cons_of_mem _ (List.mem_append_right _ h)
  have w19 := hts (.fieldLink RX1 19 "ClownsMourn$ComfortWalk" "enough" "I") (List.mem_of_getElem? (i := 1) rfl)
  have hl := lv_entry ([.ref (h 10), .int p1]) (n := 2) (Nat.le_of_ble_eq_true rfl)
  rw [lg_entry_eq]
  generalize (lg_sl ([.ref (h 10), .int p1]) ++ List.replicate (2 - (lg_sl ([.ref (h 10), .int p1])).length) Slot.unset).toArray = ls at hl ⊢
  have hl : lv_has ls 2 [(0, .ref (h 10)), (1, .int p1)] := hl
  unfold wC_X1_arrived at hw
  clear hD0
  refine lv_iload_n hx hb dX1_arrived_0 rfl (lv_at hl 1 rfl) ?_
  refine lv_bipush (v := 100) hx hb dX1_arrived_1 (by decide) ?_
  refine k_irem hx hb dX1_arrived_3 (by decide) ?_
  refine lv_aload_n hx hb dX1_arrived_4 rfl (lv_at hl 0 rfl) ?_
  refine va_get (D := D) (ci := 1) (v := .int (cx_f_enough S)) (C := RX1) (T := TX1) (N := 6) hx hb hts hin1 hown hK hP 10 rfl rfl 5 (by decide) w19 (fun _ h9 => h9) rfl dX1_arrived_5 ?_
  obtain ⟨hc_1t, hc_1f⟩ := hw
  refine lv_icmp_gt (tgt := 15) hx hb dX1_arrived_8 (by decide) (fun c_1 => ?_) (fun c_1 => ?_)
  · have hw := hc_1t c_1
    clear hc_1t hc_1f
    refine lv_iconst (v := 0) hx hb dX1_arrived_15 (by decide) ?_
    exact W.zret (v := 0) hx hb hr (by decide +kernel) (fun t ht hW => ⟨⟨0, S, rfl, hw, by rw [ht]; exact hP, va_K.moved hW.alike hK, hD⟩, hS.F ht⟩) hS.2.2 dX1_arrived_16
  · have hw := hc_1f c_1
    clear hc_1t hc_1f
    refine lv_iconst (v := 1) hx hb dX1_arrived_11 (by decide) ?_
    refine lv_goto (tgt := 16) hx hb dX1_arrived_12 (by decide) ?_
    exact W.zret (v := 1) hx hb hr (by decide +kernel) (fun t ht hW => ⟨⟨1, S, rfl, hw, by rw [ht]; exact hP, va_K.moved hW.alike hK, hD⟩, hS.F ht⟩) hS.2.2 dX1_arrived_16
def wC_X1_changes (S : CS) (post : Int32 → CS → Prop) : Prop := post 1 S
set_option maxHeartbeats 4000000 in
set_option maxRecDepth 100000 in
theorem cC_X1_changes (l : Launch) (D : va_G) (h : Nat → Nat) (cy : Nat → ClassId) (S : CS) (post : Int32 → CS → Prop) (hw : wC_X1_changes S post) : e_Mi clE l yX1_changes wsX1_changes { frames := 0, cells := 0, slots := 0, locals := 0 } D (tyC cy) (wC h cy) [.ref (h 10)] S post := by
  intro sz
  refine Met.ofW (cc := cX1_changes) (maxL := 1) (ret := (some .boolean)) (by decide) rfl ?_
  intro p e s m args below meth c s₁ B hml hv
  obtain ⟨rfl, hsz, hP, hK, hD0, hs⟩ := hv
  have hx := B.exec
  have hb := B.bytes
  have hr := B.returns
  have hts := atoms_spec (ws := wsX1_changes) B.pre
  have hown : s.vm.findClass RX1 = some m.cls := findClass_of_methodNamed B.named
  have hlocks := B.notSynchronized
  subst hsz
  have hD := hD0.self (sz := s.heap.size)
  generalize hAe : va_A (wC h cy S) s.heap.size = A at hD hs ⊢
  have hA : ∀ q : Nat, s.heap.size ≤ q → A q := fun q h => by rw [← hAe]; exact Or.inr h
  have hS : va_S A s.heap s.heap [] := va_S.rf
  have hl := lv_entry ([.ref (h 10)]) (n := 1) (Nat.le_of_ble_eq_true rfl)
  rw [lg_entry_eq]
  generalize (lg_sl ([.ref (h 10)]) ++ List.replicate (1 - (lg_sl ([.ref (h 10)])).length) Slot.unset).toArray = ls at hl ⊢
  have hl : lv_has ls 1 [(0, .ref (h 10))] := hl
  unfold wC_X1_changes at hw
  clear hD0
  refine lv_iconst (v := 1) hx hb dX1_changes_0 (by decide) ?_
  exact W.zret (v := 1) hx hb hr (by decide +kernel) (fun t ht hW => ⟨⟨1, S, rfl, hw, by rw [ht]; exact hP, va_K.moved hW.alike hK, hD⟩, hS.F ht⟩) hS.2.2 dX1_changes_1
def wC_X7_find_comfort_200 (post : CS → Prop) (K36 : Int32 → Int32 → Int32 → CS → Prop) (x3 : Int32) (x5 : Int32) (S : CS) : Prop := wC_X11_held (cx_s_count S) 0 1024 S (fun r_1 S_2 => (¬ r_1 < 0 ∧ r_1.toNatClampNeg ≤ 1024 ∧ r_1.toNatClampNeg ≤ 1024 ∧ ∀ S_3 : CS, S_3 = (cx_set_s_layer S_2 (va_cpy (cx_s_nextLayer S_2) (cx_s_layer S_2) 0 0 r_1.toNatClampNeg)) → K36 x3 (cx_s_count S) (x5 + 1) S_3))
def wC_X7_find_comfort_78 (post : CS → Prop) (K36 : Int32 → Int32 → Int32 → CS → Prop) : Nat → Int32 → Int32 → Int32 → Int32 → CS → Prop
  | 0, _, _, _, _, _ => False
  | n + 1, x3, x4, x5, x6, S => (((x4 * 5) ≤ x6 → wC_X7_find_comfort_200 post K36 x3 x5 S) ∧ (¬ ((x4 * 5) ≤ x6) → ((1024 ≤ (x6 / 5) → wC_X7_find_comfort_200 post K36 x3 x5 S) ∧ (¬ (1024 ≤ (x6 / 5)) → (((cx_s_length S) = (-1) → (vp_in (x6 / 5) 1024 ∧ wC_X1_moved (Int64.toInt32 (k_remL ((cx_s_layer S) (x6 / 5).toNatClampNeg) 1024)) (k_rem x6 5) x5 S (fun r_4 S_5 => wC_X7_add (((((cx_s_layer S) (x6 / 5).toNatClampNeg) / 1024) * 5) + (Int32.toInt64 (k_rem x6 5))) r_4 S_5 (fun S_7 => wC_X1_arrived r_4 S_7 (fun r_8 S_9 => ((r_8 = 0 → wC_X7_find_comfort_78 post K36 n x3 x4 x5 (x6 + 1) S_9) ∧ (¬ (r_8 = 0) → (∀ S_11 : CS, S_11 = (cx_set_s_length S_9 (x5 + 1)) → (∀ S_12 : CS, S_12 = (cx_set_s_path S_11 (((((cx_s_layer S) (x6 / 5).toNatClampNeg) / 1024) * 5) + (Int32.toInt64 (k_rem x6 5)))) → wC_X7_find_comfort_78 post K36 n x3 x4 x5 (x6 + 1) S_12))))))))) ∧ (¬ ((cx_s_length S) = (-1)) → wC_X7_find_comfort_200 post K36 x3 x5 S))))))
def wC_X7_find_comfort_36 (post : CS → Prop) : Nat → Int32 → Int32 → Int32 → CS → Prop
  | 0, _, _, _, _ => False
  | n + 1, x3, x4, x5, S => ((x3 ≤ x5 → post S) ∧ (¬ (x3 ≤ x5) → (((cx_s_length S) = (-1) → (∀ S_3 : CS, S_3 = (cx_set_s_count S 0) → ((x5 = 0 → (∀ S_5 : CS, S_5 = (cx_set_s_seen S_3 (k_fill 32 (cx_s_seen S_3) 0)) → ∃ k_ : Nat, wC_X7_find_comfort_78 post (wC_X7_find_comfort_36 post n) k_ x3 x4 x5 0 S_5)) ∧ (¬ (x5 = 0) → wC_X1_changes S_3 (fun r_6 S_7 => ((r_6 = 0 → ∃ k_ : Nat, wC_X7_find_comfort_78 post (wC_X7_find_comfort_36 post n) k_ x3 x4 x5 0 S_7) ∧ (¬ (r_6 = 0) → (∀ S_9 : CS, S_9 = (cx_set_s_seen S_7 (k_fill 32 (cx_s_seen S_7) 0)) → ∃ k_ : Nat, wC_X7_find_comfort_78 post (wC_X7_find_comfort_36 post n) k_ x3 x4 x5 0 S_9)))))))) ∧ (¬ ((cx_s_length S) = (-1)) → post S))))
def wC_X7_find_comfort_14 (post : CS → Prop) (x2 : Int32) (x3 : Int32) (t1 : Int32) (S : CS) : Prop := (∀ S_1 : CS, S_1 = (cx_set_s_length S t1) → (∀ S_2 : CS, S_2 = (cx_set_s_path S_1 0) → (∀ S_3 : CS, S_3 = (cx_set_s_layer S_2 (vp_updL (cx_s_layer S_2) (Int32.toNatClampNeg 0) (Int32.toInt64 x2))) → ∃ k_ : Nat, wC_X7_find_comfort_36 post k_ x3 1 0 S_3)))
def wC_X7_find_comfort (p2 : Int32) (p3 : Int32) (S : CS) (post : CS → Prop) : Prop := wC_X1_arrived p2 S (fun r_1 S_2 => ((r_1 = 0 → wC_X7_find_comfort_14 post p2 p3 (-1) S_2) ∧ (¬ (r_1 = 0) → wC_X7_find_comfort_14 post p2 p3 0 S_2)))
set_option maxHeartbeats 4000000 in
set_option maxRecDepth 100000 in
theorem cC_X7_find_comfort (l : Launch) (D : va_G) (h : Nat → Nat) (cy : Nat → ClassId) (p2 : Int32) (p3 : Int32) (S : CS) (post : CS → Prop) (hw : wC_X7_find_comfort p2 p3 S post) : e_Mv clE l yX7_find wsX7_find { frames := 5, cells := 0, slots := 0, locals := 123 } D (tyC cy) (wC h cy) [.ref (h 8), .ref (h 10), .int p2, .int p3] S post := by
  intro sz
  refine Met.ofW (cc := cX7_find) (maxL := 11) (ret := none) (by decide) rfl ?_
  intro p e s m args below meth c s₁ B hml hv
  obtain ⟨rfl, hsz, hP, hK, hD0, hs⟩ := hv
  have hx := B.exec
  have hb := B.bytes
  have hr := B.returns
  have hts := atoms_spec (ws := wsX7_find) B.pre
  have hown : s.vm.findClass RX7 = some m.cls := findClass_of_methodNamed B.named
  have hlocks := B.notSynchronized
  subst hsz
  have hD := hD0.self (sz := s.heap.size)
  generalize hAe : va_A (wC h cy S) s.heap.size = A at hD hs ⊢
  have hA : ∀ q : Nat, s.heap.size ≤ q → A q := fun q h => by rw [← hAe]; exact Or.inr h
  have hS : va_S A s.heap s.heap [] := va_S.rf
  have hin7 : ∀ w ∈ wsX70, w ∈ wsX7_find := fun _ h => List.mem_cons_of_mem _ (List.mem_append_left _ (List.mem_append_left _ (List.mem_append_left _ (List.mem_append_left _ (List.mem_append_left _ (List.mem_append_right _ h))))))
  have hin1 : ∀ w ∈ wsX10, w ∈ wsX7_find := fun _ h => List.mem_cons_of_mem _ (List.mem_append_left _ (List.mem_append_left _ (List.mem_append_left _ (List.mem_append_left _ (List.mem_append_right _ h)))))
  have hin5 : ∀ w ∈ wsX50, w ∈ wsX7_find := fun _ h => List.mem_cons_of_mem _ (List.mem_append_left _ (List.mem_append_left _ (List.mem_append_left _ (List.mem_append_right _ h))))
  have hin0 : ∀ w ∈ wsX00, w ∈ wsX7_find := fun _ h => List.mem_cons_of_mem _ (List.mem_append_left _ (List.mem_append_left _ (List.mem_append_right _ h)))
  have hin3 : ∀ w ∈ wsX30, w ∈ wsX7_find := fun _ h => List.mem_cons_of_mem _ (List.mem_append_left _ (List.mem_append_right _ h))
  have hin9 : ∀ w ∈ wsX90, w ∈ wsX7_find := fun _ h => List.mem_cons_of_mem _ (List.mem_append_right _ h)
  have wc49 := hts (.constantLong RX7 49 (1024)) (List.mem_of_getElem? (i := 6) rfl)
  have wc55 := hts (.constantLong RX7 55 (5)) (List.mem_of_getElem? (i := 7) rfl)
  have w11 := hts (.fieldLink RX7 11 "ClownsMourn$Search" "layer" "[J") (List.mem_of_getElem? (i := 3) rfl)
  have w15 := hts (.fieldLink RX7 15 "ClownsMourn$Search" "nextLayer" "[J") (List.mem_of_getElem? (i := 8) rfl)
  have w18 := hts (.fieldLink RX7 18 "ClownsMourn$Search" "seen" "[I") (List.mem_of_getElem? (i := 5) rfl)
  have w22 := hts (.fieldLink RX7 22 "ClownsMourn$Search" "count" "I") (List.mem_of_getElem? (i := 4) rfl)
  have w26 := hts (.fieldLink RX7 26 "ClownsMourn$Search" "length" "I") (List.mem_of_getElem? (i := 1) rfl)
  have w29 := hts (.fieldLink RX7 29 "ClownsMourn$Search" "path" "J") (List.mem_of_getElem? (i := 2) rfl)
  have wiX11 := hts (.initialized RX11) (List.mem_of_getElem? (i := 69) rfl)
  have wstheld := hts (.static yX11_held) (List.mem_of_getElem? (i := 141) rfl)
  have wac := hts (.methodLink RX7 64 arraycopyName) (List.mem_of_getElem? (i := 9) rfl)
  have wacn := hts (.native arraycopyName) (List.mem_of_getElem? (i := 10) rfl)
  have wacs := hts (.static arraycopyName) (List.mem_of_getElem? (i := 11) rfl)
  have wacS := hts (.initialized "java/lang/System") (List.mem_of_getElem? (i := 12) rfl)
  have hl := lv_entry ([.ref (h 8), .ref (h 10), .int p2, .int p3]) (n := 11) (Nat.le_of_ble_eq_true rfl)
  rw [lg_entry_eq]
  generalize (lg_sl ([.ref (h 8), .ref (h 10), .int p2, .int p3]) ++ List.replicate (11 - (lg_sl ([.ref (h 8), .ref (h 10), .int p2, .int p3])).length) Slot.unset).toArray = ls at hl ⊢
  have hl : lv_has ls 11 [(0, .ref (h 8)), (1, .ref (h 10)), (2, .int p2), (3, .int p3)] := hl
  unfold wC_X7_find_comfort at hw
  clear hD0
  have L_36 : ∀ (n36 : Nat) (x3 : Int32) (x4 : Int32) (x5 : Int32) (S : CS) (H : Heap) (locs : List Loc) (ls : Array Slot), wC_X7_find_comfort_36 post n36 x3 x4 x5 S → va_P D vwCl (wC h cy S) H → va_D A (wC h cy S) → va_S A s.heap H locs → lv_has ls 11 [(0, .ref (h 8)), (1, .ref (h 10)), (3, .int x3), (4, .int x4), (5, .int x5)] → W p l e (headSpec wsX7_find { frames := 5, cells := 0, slots := 0, locals := 123 }).room s m (([.ref (h 8), .ref (h 10), .int p2, .int p3] : List Value).toArray) below meth c H locs 0 0 (MQ below (va_Qv post (k_Post D (tyC cy) (wC h cy) A) A) (([.ref (h 8), .ref (h 10), .int p2, .int p3] : List Value).toArray) s 0 0 A) (F0 m 36 ls []) := by
    intro n36
    induction n36 with
    | zero => intro x3 x4 x5 S H locs ls hw; exact False.elim hw
    | succ n36 ih_36 =>
      have J_200 : ∀ (x3 : Int32) (x5 : Int32) (S : CS) (H : Heap) (locs : List Loc) (ls : Array Slot), wC_X7_find_comfort_200 post (wC_X7_find_comfort_36 post n36) x3 x5 S → va_P D vwCl (wC h cy S) H → va_D A (wC h cy S) → va_S A s.heap H locs → lv_has ls 11 [(0, .ref (h 8)), (1, .ref (h 10)), (3, .int x3), (5, .int x5)] → W p l e (headSpec wsX7_find { frames := 5, cells := 0, slots := 0, locals := 123 }).room s m (([.ref (h 8), .ref (h 10), .int p2, .int p3] : List Value).toArray) below meth c H locs 0 0 (MQ below (va_Qv post (k_Post D (tyC cy) (wC h cy) A) A) (([.ref (h 8), .ref (h 10), .int p2, .int p3] : List Value).toArray) s 0 0 A) (F0 m 200 ls []) := by
        intro x3 x5 S H locs ls hw hP hD hS hl
        unfold wC_X7_find_comfort_200 at hw
        refine lv_aload_n hx hb dX7_find_200 rfl (lv_at hl 0 rfl) ?_
        refine va_get (D := D) (ci := 7) (v := .int (cx_s_count S)) (C := RX7) (T := TX7) (N := 6) hx hb hts hin7 hown hK hP 8 rfl rfl 3 (by decide) w22 (fun _ h9 => h9) rfl dX7_find_201 ?_
        refine lv_istore (lv' := [(4, .int (cx_s_count S)), (0, .ref (h 8)), (1, .ref (h 10)), (3, .int x3), (5, .int x5)]) hx hb dX7_find_204 hl (by decide) rfl (fun ls hl => ?_)
        refine lv_aload_n hx hb dX7_find_206 rfl (lv_at hl 1 rfl) ?_
        refine va_get (D := D) (ci := 7) (v := .ref (h 44)) (C := RX7) (T := TX7) (N := 6) hx hb hts hin7 hown hK hP 8 rfl rfl 1 (by decide) w15 (fun _ h9 => h9) rfl dX7_find_207 ?_
        refine lv_iconst (v := 0) hx hb dX7_find_210 (by decide) ?_
        refine lv_aload_n hx hb dX7_find_211 rfl (lv_at hl 1 rfl) ?_
        refine va_get (D := D) (ci := 7) (v := .ref (h 43)) (C := RX7) (T := TX7) (N := 6) hx hb hts hin7 hown hK hP 8 rfl rfl 0 (by decide) w11 (fun _ h9 => h9) rfl dX7_find_212 ?_
        refine lv_iconst (v := 0) hx hb dX7_find_215 (by decide) ?_
        refine lv_aload_n hx hb dX7_find_216 rfl (lv_at hl 1 rfl) ?_
        refine va_get (D := D) (ci := 7) (v := .int (cx_s_count S)) (C := RX7) (T := TX7) (N := 6) hx hb hts hin7 hown hK hP 8 rfl rfl 3 (by decide) w22 (fun _ h9 => h9) rfl dX7_find_217 ?_
        refine lv_iconst (v := 0) hx hb dX7_find_220 (by decide) ?_
        refine lv_sipush (v := 1024) hx hb dX7_find_221 (by decide) ?_
        refine e_callNi (As := [.int (cx_s_count S), .int 0, .int 1024]) (rest := [.int 0, .ref (h 43), .int 0, .ref (h 44)]) clE_stable hs ⟨hx, hb, hml, hown, hts⟩ (cC_X11_held l D h cy _ _ _ _ _ hw) ⟨va_cnB 3 hts gX7_find_X11_held_n61 rfl rfl rfl hs.1.2.2.2.2.2.2.2.2.2.2.2.2.2.2.2.2.2.2.2.2.2.2.1 wiX11 (by decide +kernel) ⟨Nat.le_of_ble_eq_true rfl, Nat.le_of_ble_eq_true rfl⟩, wstheld, trivial⟩ hK hP hD hS hA rfl hl.1 rfl (Nat.le_of_ble_eq_true rfl) dX7_find_224 ⟨Nat.zero_le _, Nat.zero_le _⟩ (fun r_1 S_2 H locs hw hP hD hS => ?_)
        obtain ⟨hc_4a, hc_4b, hc_4c, hw⟩ := hw
        refine k_copyl0 (own := RX7) (index := 64) (f := (cx_s_nextLayer S_2)) (g := (cx_s_layer S_2)) hx hb (hml.trans hl.1.symm) hown wac wacn wacs wacS hK hP hD hS 44 43 32 31 rfl rfl rfl rfl hc_4a hc_4b hc_4c (Nat.le_of_ble_eq_true rfl) (by decide) dX7_find_227 (fun H locs hP hD hS => ?_)
        obtain ⟨S_3, eS_3⟩ : ∃ z : CS, z = (cx_set_s_layer S_2 (va_cpy (cx_s_nextLayer S_2) (cx_s_layer S_2) 0 0 r_1.toNatClampNeg)) := ⟨_, rfl⟩
        replace hw := hw S_3 eS_3
        have hP : va_P D vwCl (wC h cy S_3) H := by rw [eS_3, ← wCs_s_layer]; exact hP
        have hD : va_D A (wC h cy S_3) := by rw [eS_3, ← wCs_s_layer]; exact hD
        refine lv_iinc (v := x5 + 1) (lv' := [(5, .int (x5 + 1)), (4, .int (cx_s_count S)), (0, .ref (h 8)), (1, .ref (h 10)), (3, .int x3)]) hx hb dX7_find_230 hl (k := 4) rfl (k_inc (by decide)) (by decide) rfl (fun ls hl => ?_)
        refine lv_goto (tgt := 36) hx hb dX7_find_233 (by decide) ?_
        exact ih_36 x3 (cx_s_count S) (x5 + 1) S_3 _ _ _ hw hP hD hS (lv_sub hl [2, 3, 4, 1, 0] rfl)
      have L_78 : ∀ (n78 : Nat) (x3 : Int32) (x4 : Int32) (x5 : Int32) (x6 : Int32) (S : CS) (H : Heap) (locs : List Loc) (ls : Array Slot), wC_X7_find_comfort_78 post (wC_X7_find_comfort_36 post n36) n78 x3 x4 x5 x6 S → va_P D vwCl (wC h cy S) H → va_D A (wC h cy S) → va_S A s.heap H locs → lv_has ls 11 [(0, .ref (h 8)), (1, .ref (h 10)), (3, .int x3), (4, .int x4), (5, .int x5), (6, .int x6)] → W p l e (headSpec wsX7_find { frames := 5, cells := 0, slots := 0, locals := 123 }).room s m (([.ref (h 8), .ref (h 10), .int p2, .int p3] : List Value).toArray) below meth c H locs 0 0 (MQ below (va_Qv post (k_Post D (tyC cy) (wC h cy) A) A) (([.ref (h 8), .ref (h 10), .int p2, .int p3] : List Value).toArray) s 0 0 A) (F0 m 78 ls []) := by
        intro n78
        induction n78 with
        | zero => intro x3 x4 x5 x6 S H locs ls hw; exact False.elim hw
        | succ n78 ih_78 =>
          intro x3 x4 x5 x6 S H locs ls hw hP hD hS hl
          unfold wC_X7_find_comfort_78 at hw
          refine lv_iload hx hb dX7_find_78 (lv_at hl 5 rfl) ?_
          refine lv_iload hx hb dX7_find_80 (lv_at hl 3 rfl) ?_
          refine lv_iconst (v := 5) hx hb dX7_find_82 (by decide) ?_
          refine lv_imul hx hb dX7_find_83 ?_
          obtain ⟨hc_5t, hc_5f⟩ := hw
          refine lv_icmp_ge (tgt := 200) hx hb dX7_find_84 (by decide) (fun c_5 => ?_) (fun c_5 => ?_)
          · have hw := hc_5t c_5
            clear hc_5t hc_5f
            exact J_200 x3 x5 S _ _ _ hw hP hD hS (lv_sub hl [0, 1, 2, 4] rfl)
          · have hw := hc_5f c_5
            clear hc_5t hc_5f
            refine lv_iload hx hb dX7_find_87 (lv_at hl 5 rfl) ?_
            refine lv_iconst (v := 5) hx hb dX7_find_89 (by decide) ?_
            refine lv_idiv hx hb dX7_find_90 (by decide) ?_
            refine lv_sipush (v := 1024) hx hb dX7_find_91 (by decide) ?_
            obtain ⟨hc_6t, hc_6f⟩ := hw
            refine lv_icmp_ge (tgt := 200) hx hb dX7_find_94 (by decide) (fun c_6 => ?_) (fun c_6 => ?_)
            · have hw := hc_6t c_6
              clear hc_6t hc_6f
              exact J_200 x3 x5 S _ _ _ hw hP hD hS (lv_sub hl [0, 1, 2, 4] rfl)
            · have hw := hc_6f c_6
              clear hc_6t hc_6f
              refine lv_aload_n hx hb dX7_find_97 rfl (lv_at hl 0 rfl) ?_
              refine va_get (D := D) (ci := 7) (v := .int (cx_s_length S)) (C := RX7) (T := TX7) (N := 6) hx hb hts hin7 hown hK hP 8 rfl rfl 4 (by decide) w26 (fun _ h9 => h9) rfl dX7_find_98 ?_
              refine lv_iconst (v := (-1)) hx hb dX7_find_101 (by decide) ?_
              obtain ⟨hc_7t, hc_7f⟩ := hw
              refine lv_icmp_ne (tgt := 200) hx hb dX7_find_102 (by decide) (fun c_7 => ?_) (fun c_7 => ?_)
              · have hw := hc_7f c_7
                clear hc_7t hc_7f
                exact J_200 x3 x5 S _ _ _ hw hP hD hS (lv_sub hl [0, 1, 2, 4] rfl)
              · have hw := hc_7t c_7
                clear hc_7t hc_7f
                refine lv_aload_n hx hb dX7_find_105 rfl (lv_at hl 0 rfl) ?_
                refine va_get (D := D) (ci := 7) (v := .ref (h 43)) (C := RX7) (T := TX7) (N := 6) hx hb hts hin7 hown hK hP 8 rfl rfl 0 (by decide) w11 (fun _ h9 => h9) rfl dX7_find_106 ?_
                refine lv_iload hx hb dX7_find_109 (lv_at hl 5 rfl) ?_
                refine lv_iconst (v := 5) hx hb dX7_find_111 (by decide) ?_
                refine lv_idiv hx hb dX7_find_112 (by decide) ?_
                obtain ⟨hi_17, hw⟩ := hw
                refine va_lald (f := (cx_s_layer S)) hx hb hK hP 43 31 rfl rfl hi_17 dX7_find_113 ?_
                refine lv_lstore (lv' := [(7, .long ((cx_s_layer S) (x6 / 5).toNatClampNeg)), (0, .ref (h 8)), (1, .ref (h 10)), (3, .int x3), (4, .int x4), (5, .int x5), (6, .int x6)]) hx hb dX7_find_114 hl (by decide) rfl (fun ls hl => ?_)
                refine lv_iload hx hb dX7_find_116 (lv_at hl 6 rfl) ?_
                refine lv_iconst (v := 5) hx hb dX7_find_118 (by decide) ?_
                refine k_irem hx hb dX7_find_119 (by decide) ?_
                refine lv_istore (lv' := [(9, .int (k_rem x6 5)), (7, .long ((cx_s_layer S) (x6 / 5).toNatClampNeg)), (0, .ref (h 8)), (1, .ref (h 10)), (3, .int x3), (4, .int x4), (5, .int x5), (6, .int x6)]) hx hb dX7_find_120 hl (by decide) rfl (fun ls hl => ?_)
                refine lv_aload_n hx hb dX7_find_122 rfl (lv_at hl 3 rfl) ?_
                refine lv_lload hx hb dX7_find_123 (lv_at hl 1 rfl) ?_
                refine lv_ldc2 (v := 1024) hx hb hown wc49 dX7_find_125 ?_
                refine k_lrem hx hb dX7_find_128 (by decide) ?_
                refine lv_l2i (v := Int64.toInt32 (k_remL ((cx_s_layer S) (x6 / 5).toNatClampNeg) 1024)) hx hb dX7_find_129 rfl ?_
                refine lv_iload hx hb dX7_find_130 (lv_at hl 0 rfl) ?_
                refine lv_iload hx hb dX7_find_132 (lv_at hl 6 rfl) ?_
                refine e_callUi (As := [.int (Int64.toInt32 (k_remL ((cx_s_layer S) (x6 / 5).toNatClampNeg) 1024)), .int (k_rem x6 5), .int x5]) (rest := []) clE_stable hs ⟨hx, hb, hml, hown, hts⟩ (cC_X1_moved l D h cy _ _ _ _ _ hw) (va_cwA 3 hts gX7_find_X1_moved_u51X1 rfl rfl rfl hs.1.2.2.2.2.2.2.2.2.2.2.2.2.2.2.2.2.2.2.2.2.2.2.2.2.2.2.2.2.2.2.2.1 (by decide +kernel) ⟨Nat.le_of_ble_eq_true rfl, Nat.le_of_ble_eq_true rfl⟩) (va_recv hK hP (ci := 1) (q0 := 10) rfl rfl) hK hP hD hS hA rfl hl.1 rfl (Nat.le_of_ble_eq_true rfl) dX7_find_134 ⟨Nat.zero_le _, Nat.zero_le _⟩ (fun r_8 S_9 H locs hw hP hD hS => ?_)
                refine lv_istore (lv' := [(10, .int r_8), (9, .int (k_rem x6 5)), (7, .long ((cx_s_layer S) (x6 / 5).toNatClampNeg)), (0, .ref (h 8)), (1, .ref (h 10)), (3, .int x3), (4, .int x4), (5, .int x5), (6, .int x6)]) hx hb dX7_find_137 hl (by decide) rfl (fun ls hl => ?_)
                refine lv_aload_n hx hb dX7_find_139 rfl (lv_at hl 3 rfl) ?_
                refine lv_lload hx hb dX7_find_140 (lv_at hl 2 rfl) ?_
                refine lv_ldc2 (v := 1024) hx hb hown wc49 dX7_find_142 ?_
                refine lv_ldiv hx hb dX7_find_145 (by decide) ?_
                refine lv_ldc2 (v := 5) hx hb hown wc55 dX7_find_146 ?_
                refine lv_lmul hx hb dX7_find_149 ?_
                refine lv_iload hx hb dX7_find_150 (lv_at hl 1 rfl) ?_
                refine lv_i2l (v := Int32.toInt64 (k_rem x6 5)) hx hb dX7_find_152 rfl ?_
                refine lv_ladd hx hb dX7_find_153 ?_
                refine lv_iload hx hb dX7_find_154 (lv_at hl 0 rfl) ?_
                refine e_callVv (As := [.long (((((cx_s_layer S) (x6 / 5).toNatClampNeg) / 1024) * 5) + (Int32.toInt64 (k_rem x6 5))), .int r_8]) (rest := []) clE_stable hs ⟨hx, hb, hml, hown, hts⟩ (cC_X7_add l D h cy _ _ _ _ hw) (cwV 2 hts gX7_find_X7_add rfl rfl rfl (by decide +kernel) ⟨Nat.le_of_ble_eq_true rfl, Nat.le_of_ble_eq_true rfl⟩) (va_recv hK hP (ci := 7) (q0 := 8) rfl rfl) hK hP hD hS hA rfl hl.1 rfl (Nat.le_of_ble_eq_true rfl) dX7_find_156 ⟨Nat.zero_le _, Nat.zero_le _⟩ (fun S_11 H locs hw hP hD hS => ?_)
                refine lv_aload_n hx hb dX7_find_159 rfl (lv_at hl 4 rfl) ?_
                refine lv_iload hx hb dX7_find_160 (lv_at hl 0 rfl) ?_
                refine e_callUi (As := [.int r_8]) (rest := []) clE_stable hs ⟨hx, hb, hml, hown, hts⟩ (cC_X1_arrived l D h cy _ _ _ hw) (va_cwA 1 hts gX7_find_X1_arrived_u33X1 rfl rfl rfl hs.1.2.2.2.2.2.2.2.2.2.2.2.2.2.2.2.2.2.2.2.2.2.2.2.2.2.2.2.2.2.1 (by decide +kernel) ⟨Nat.le_of_ble_eq_true rfl, Nat.le_of_ble_eq_true rfl⟩) (va_recv hK hP (ci := 1) (q0 := 10) rfl rfl) hK hP hD hS hA rfl hl.1 rfl (Nat.le_of_ble_eq_true rfl) dX7_find_162 ⟨Nat.zero_le _, Nat.zero_le _⟩ (fun r_12 S_13 H locs hw hP hD hS => ?_)
                obtain ⟨hc_14t, hc_14f⟩ := hw
                refine lv_if_eq (tgt := 194) hx hb dX7_find_165 (by decide) (fun c_14 => ?_) (fun c_14 => ?_)
                · have hw := hc_14t c_14
                  clear hc_14t hc_14f
                  refine lv_iinc (v := x6 + 1) (lv' := [(6, .int (x6 + 1)), (10, .int r_8), (9, .int (k_rem x6 5)), (7, .long ((cx_s_layer S) (x6 / 5).toNatClampNeg)), (0, .ref (h 8)), (1, .ref (h 10)), (3, .int x3), (4, .int x4), (5, .int x5)]) hx hb dX7_find_194 hl (k := 8) rfl (k_inc (by decide)) (by decide) rfl (fun ls hl => ?_)
                  refine lv_goto (tgt := 78) hx hb dX7_find_197 (by decide) ?_
                  exact ih_78 x3 x4 x5 (x6 + 1) S_13 _ _ _ hw hP hD hS (lv_sub hl [4, 5, 6, 7, 8, 0] rfl)
                · have hw := hc_14f c_14
                  clear hc_14t hc_14f
                  refine lv_aload_n hx hb dX7_find_168 rfl (lv_at hl 3 rfl) ?_
                  refine lv_iload hx hb dX7_find_169 (lv_at hl 7 rfl) ?_
                  refine lv_iconst (v := 1) hx hb dX7_find_171 (by decide) ?_
                  refine lv_iadd hx hb dX7_find_172 ?_
                  refine va_put (D := D) (ci := 7) (v := .int (x5 + 1)) (ty := .int) (C := RX7) (T := TX7) (N := 6) hx hb hts hin7 tyX7 tyX7_ok nmX7 hown hK hP hD hS 8 rfl rfl 4 (by decide) w26 (fun _ h9 => h9) rfl (tyX7_ok 4 (by decide)) rfl rfl (Nat.le_of_ble_eq_true rfl) dX7_find_173 (fun H locs hP hD hS => ?_)
                  obtain ⟨S_15, eS_15⟩ : ∃ z : CS, z = (cx_set_s_length S_13 (x5 + 1)) := ⟨_, rfl⟩
                  replace hw := hw S_15 eS_15
                  have hP : va_P D vwCl (wC h cy S_15) H := by rw [eS_15, ← wCp_s_length]; exact hP
                  have hD : va_D A (wC h cy S_15) := by rw [eS_15, ← wCp_s_length]; exact hD
                  refine lv_aload_n hx hb dX7_find_176 rfl (lv_at hl 3 rfl) ?_
                  refine lv_lload hx hb dX7_find_177 (lv_at hl 2 rfl) ?_
                  refine lv_ldc2 (v := 1024) hx hb hown wc49 dX7_find_179 ?_
                  refine lv_ldiv hx hb dX7_find_182 (by decide) ?_
                  refine lv_ldc2 (v := 5) hx hb hown wc55 dX7_find_183 ?_
                  refine lv_lmul hx hb dX7_find_186 ?_
                  refine lv_iload hx hb dX7_find_187 (lv_at hl 1 rfl) ?_
                  refine lv_i2l (v := Int32.toInt64 (k_rem x6 5)) hx hb dX7_find_189 rfl ?_
                  refine lv_ladd hx hb dX7_find_190 ?_
                  refine va_put (D := D) (ci := 7) (v := .long (((((cx_s_layer S) (x6 / 5).toNatClampNeg) / 1024) * 5) + (Int32.toInt64 (k_rem x6 5)))) (ty := .long) (C := RX7) (T := TX7) (N := 6) hx hb hts hin7 tyX7 tyX7_ok nmX7 hown hK hP hD hS 8 rfl rfl 5 (by decide) w29 (fun _ h9 => h9) rfl (tyX7_ok 5 (by decide)) rfl rfl (Nat.le_of_ble_eq_true rfl) dX7_find_191 (fun H locs hP hD hS => ?_)
                  obtain ⟨S_16, eS_16⟩ : ∃ z : CS, z = (cx_set_s_path S_15 (((((cx_s_layer S) (x6 / 5).toNatClampNeg) / 1024) * 5) + (Int32.toInt64 (k_rem x6 5)))) := ⟨_, rfl⟩
                  replace hw := hw S_16 eS_16
                  have hP : va_P D vwCl (wC h cy S_16) H := by rw [eS_16, ← wCp_s_path]; exact hP
                  have hD : va_D A (wC h cy S_16) := by rw [eS_16, ← wCp_s_path]; exact hD
                  refine lv_iinc (v := x6 + 1) (lv' := [(6, .int (x6 + 1)), (10, .int r_8), (9, .int (k_rem x6 5)), (7, .long ((cx_s_layer S) (x6 / 5).toNatClampNeg)), (0, .ref (h 8)), (1, .ref (h 10)), (3, .int x3), (4, .int x4), (5, .int x5)]) hx hb dX7_find_194 hl (k := 8) rfl (k_inc (by decide)) (by decide) rfl (fun ls hl => ?_)
                  refine lv_goto (tgt := 78) hx hb dX7_find_197 (by decide) ?_
                  exact ih_78 x3 x4 x5 (x6 + 1) S_16 _ _ _ hw hP hD hS (lv_sub hl [4, 5, 6, 7, 8, 0] rfl)
      intro x3 x4 x5 S H locs ls hw hP hD hS hl
      unfold wC_X7_find_comfort_36 at hw
      refine lv_iload hx hb dX7_find_36 (lv_at hl 4 rfl) ?_
      refine lv_iload_n hx hb dX7_find_38 rfl (lv_at hl 2 rfl) ?_
      obtain ⟨hc_18t, hc_18f⟩ := hw
      refine lv_icmp_ge (tgt := 236) hx hb dX7_find_39 (by decide) (fun c_18 => ?_) (fun c_18 => ?_)
      · have hw := hc_18t c_18
        clear hc_18t hc_18f
        exact W.vret hx hb hr (fun t ht hW => ⟨⟨S, rfl, hw, by rw [ht]; exact hP, va_K.moved hW.alike hK, hD⟩, hS.F ht⟩) hS.2.2 dX7_find_236
      · have hw := hc_18f c_18
        clear hc_18t hc_18f
        refine lv_aload_n hx hb dX7_find_42 rfl (lv_at hl 0 rfl) ?_
        refine va_get (D := D) (ci := 7) (v := .int (cx_s_length S)) (C := RX7) (T := TX7) (N := 6) hx hb hts hin7 hown hK hP 8 rfl rfl 4 (by decide) w26 (fun _ h9 => h9) rfl dX7_find_43 ?_
        refine lv_iconst (v := (-1)) hx hb dX7_find_46 (by decide) ?_
        obtain ⟨hc_19t, hc_19f⟩ := hw
        refine lv_icmp_ne (tgt := 236) hx hb dX7_find_47 (by decide) (fun c_19 => ?_) (fun c_19 => ?_)
        · have hw := hc_19f c_19
          clear hc_19t hc_19f
          exact W.vret hx hb hr (fun t ht hW => ⟨⟨S, rfl, hw, by rw [ht]; exact hP, va_K.moved hW.alike hK, hD⟩, hS.F ht⟩) hS.2.2 dX7_find_236
        · have hw := hc_19t c_19
          clear hc_19t hc_19f
          refine lv_aload_n hx hb dX7_find_50 rfl (lv_at hl 0 rfl) ?_
          refine lv_iconst (v := 0) hx hb dX7_find_51 (by decide) ?_
          refine va_put (D := D) (ci := 7) (v := .int 0) (ty := .int) (C := RX7) (T := TX7) (N := 6) hx hb hts hin7 tyX7 tyX7_ok nmX7 hown hK hP hD hS 8 rfl rfl 3 (by decide) w22 (fun _ h9 => h9) rfl (tyX7_ok 3 (by decide)) rfl rfl (Nat.le_of_ble_eq_true rfl) dX7_find_52 (fun H locs hP hD hS => ?_)
          obtain ⟨S_20, eS_20⟩ : ∃ z : CS, z = (cx_set_s_count S 0) := ⟨_, rfl⟩
          replace hw := hw S_20 eS_20
          have hP : va_P D vwCl (wC h cy S_20) H := by rw [eS_20, ← wCp_s_count]; exact hP
          have hD : va_D A (wC h cy S_20) := by rw [eS_20, ← wCp_s_count]; exact hD
          refine lv_iload hx hb dX7_find_55 (lv_at hl 4 rfl) ?_
          obtain ⟨hc_21t, hc_21f⟩ := hw
          refine lv_if_eq (tgt := 67) hx hb dX7_find_57 (by decide) (fun c_21 => ?_) (fun c_21 => ?_)
          · have hw := hc_21t c_21
            clear hc_21t hc_21f
            refine lv_aload_n hx hb dX7_find_67 rfl (lv_at hl 0 rfl) ?_
            refine va_get (D := D) (ci := 7) (v := .ref (h 45)) (C := RX7) (T := TX7) (N := 6) hx hb hts hin7 hown hK hP 8 rfl rfl 2 (by decide) w18 (fun _ h9 => h9) rfl dX7_find_68 ?_
            refine lv_iconst (v := 0) hx hb dX7_find_71 (by decide) ?_
            refine e_callSv (As := [.ref (h 45), .int 0]) (rest := []) clE_stable hs ⟨hx, hb, hml, hown, hts⟩ (cA_fill l D clE (tyC cy) (wC h cy) cx_s_seen cx_set_s_seen S_20 45 33 _ _ 32 rfl (wCs_s_seen h cy S_20) rfl (by decide) _ (fun S0 => S0 = (cx_set_s_seen S_20 (k_fill 32 (cx_s_seen S_20) 0))) rfl) (va_cwS 2 hts gX7_find_J7_fill_53178 rfl rfl rfl (by decide +kernel) ⟨Nat.le_of_ble_eq_true rfl, Nat.le_of_ble_eq_true rfl⟩) hK hP hD hS hA rfl hl.1 rfl (Nat.le_of_ble_eq_true rfl) dX7_find_72 ⟨Nat.zero_le _, Nat.zero_le _⟩ (fun S_22 H locs eS_22 hP hD hS => ?_)
            replace hw := hw S_22 eS_22
            refine lv_iconst (v := 0) hx hb dX7_find_75 (by decide) ?_
            refine lv_istore (lv' := [(6, .int 0), (0, .ref (h 8)), (1, .ref (h 10)), (3, .int x3), (4, .int x4), (5, .int x5)]) hx hb dX7_find_76 hl (by decide) rfl (fun ls hl => ?_)
            obtain ⟨n_78, hw⟩ := hw
            exact L_78 n_78 x3 x4 x5 0 S_22 _ _ _ hw hP hD hS (lv_sub hl [1, 2, 3, 4, 5, 0] rfl)
          · have hw := hc_21f c_21
            clear hc_21t hc_21f
            refine lv_aload_n hx hb dX7_find_60 rfl (lv_at hl 1 rfl) ?_
            refine e_callUi (As := []) (rest := []) clE_stable hs ⟨hx, hb, hml, hown, hts⟩ (cC_X1_changes l D h cy _ _ hw) (va_cwA 0 hts gX7_find_X1_changes_u39X1 rfl rfl rfl hs.1.2.2.2.2.2.2.2.2.2.2.2.2.2.2.2.2.2.2.2.2.2.2.2.2.2.2.2.2.2.2.1 (by decide +kernel) ⟨Nat.le_of_ble_eq_true rfl, Nat.le_of_ble_eq_true rfl⟩) (va_recv hK hP (ci := 1) (q0 := 10) rfl rfl) hK hP hD hS hA rfl hl.1 rfl (Nat.le_of_ble_eq_true rfl) dX7_find_61 ⟨Nat.zero_le _, Nat.zero_le _⟩ (fun r_23 S_24 H locs hw hP hD hS => ?_)
            obtain ⟨hc_25t, hc_25f⟩ := hw
            refine lv_if_eq (tgt := 75) hx hb dX7_find_64 (by decide) (fun c_25 => ?_) (fun c_25 => ?_)
            · have hw := hc_25t c_25
              clear hc_25t hc_25f
              refine lv_iconst (v := 0) hx hb dX7_find_75 (by decide) ?_
              refine lv_istore (lv' := [(6, .int 0), (0, .ref (h 8)), (1, .ref (h 10)), (3, .int x3), (4, .int x4), (5, .int x5)]) hx hb dX7_find_76 hl (by decide) rfl (fun ls hl => ?_)
              obtain ⟨n_78, hw⟩ := hw
              exact L_78 n_78 x3 x4 x5 0 S_24 _ _ _ hw hP hD hS (lv_sub hl [1, 2, 3, 4, 5, 0] rfl)
            · have hw := hc_25f c_25
              clear hc_25t hc_25f
              refine lv_aload_n hx hb dX7_find_67 rfl (lv_at hl 0 rfl) ?_
              refine va_get (D := D) (ci := 7) (v := .ref (h 45)) (C := RX7) (T := TX7) (N := 6) hx hb hts hin7 hown hK hP 8 rfl rfl 2 (by decide) w18 (fun _ h9 => h9) rfl dX7_find_68 ?_
              refine lv_iconst (v := 0) hx hb dX7_find_71 (by decide) ?_
              refine e_callSv (As := [.ref (h 45), .int 0]) (rest := []) clE_stable hs ⟨hx, hb, hml, hown, hts⟩ (cA_fill l D clE (tyC cy) (wC h cy) cx_s_seen cx_set_s_seen S_24 45 33 _ _ 32 rfl (wCs_s_seen h cy S_24) rfl (by decide) _ (fun S0 => S0 = (cx_set_s_seen S_24 (k_fill 32 (cx_s_seen S_24) 0))) rfl) (va_cwS 2 hts gX7_find_J7_fill_53178 rfl rfl rfl (by decide +kernel) ⟨Nat.le_of_ble_eq_true rfl, Nat.le_of_ble_eq_true rfl⟩) hK hP hD hS hA rfl hl.1 rfl (Nat.le_of_ble_eq_true rfl) dX7_find_72 ⟨Nat.zero_le _, Nat.zero_le _⟩ (fun S_26 H locs eS_26 hP hD hS => ?_)
              replace hw := hw S_26 eS_26
              refine lv_iconst (v := 0) hx hb dX7_find_75 (by decide) ?_
              refine lv_istore (lv' := [(6, .int 0), (0, .ref (h 8)), (1, .ref (h 10)), (3, .int x3), (4, .int x4), (5, .int x5)]) hx hb dX7_find_76 hl (by decide) rfl (fun ls hl => ?_)
              obtain ⟨n_78, hw⟩ := hw
              exact L_78 n_78 x3 x4 x5 0 S_26 _ _ _ hw hP hD hS (lv_sub hl [1, 2, 3, 4, 5, 0] rfl)
  have J_14 : ∀ (x2 : Int32) (x3 : Int32) (t1 : Int32) (S : CS) (H : Heap) (locs : List Loc) (ls : Array Slot), wC_X7_find_comfort_14 post x2 x3 t1 S → va_P D vwCl (wC h cy S) H → va_D A (wC h cy S) → va_S A s.heap H locs → lv_has ls 11 [(0, .ref (h 8)), (1, .ref (h 10)), (2, .int x2), (3, .int x3)] → W p l e (headSpec wsX7_find { frames := 5, cells := 0, slots := 0, locals := 123 }).room s m (([.ref (h 8), .ref (h 10), .int p2, .int p3] : List Value).toArray) below meth c H locs 0 0 (MQ below (va_Qv post (k_Post D (tyC cy) (wC h cy) A) A) (([.ref (h 8), .ref (h 10), .int p2, .int p3] : List Value).toArray) s 0 0 A) (F0 m 14 ls [.int t1, .ref (h 8)]) := by
    intro x2 x3 t1 S H locs ls hw hP hD hS hl
    unfold wC_X7_find_comfort_14 at hw
    refine va_put (D := D) (ci := 7) (v := .int t1) (ty := .int) (C := RX7) (T := TX7) (N := 6) hx hb hts hin7 tyX7 tyX7_ok nmX7 hown hK hP hD hS 8 rfl rfl 4 (by decide) w26 (fun _ h9 => h9) rfl (tyX7_ok 4 (by decide)) rfl rfl (Nat.le_of_ble_eq_true rfl) dX7_find_14 (fun H locs hP hD hS => ?_)
    obtain ⟨S_27, eS_27⟩ : ∃ z : CS, z = (cx_set_s_length S t1) := ⟨_, rfl⟩
    replace hw := hw S_27 eS_27
    have hP : va_P D vwCl (wC h cy S_27) H := by rw [eS_27, ← wCp_s_length]; exact hP
    have hD : va_D A (wC h cy S_27) := by rw [eS_27, ← wCp_s_length]; exact hD
    refine lv_aload_n hx hb dX7_find_17 rfl (lv_at hl 0 rfl) ?_
    refine lv_lconst (v := 0) hx hb dX7_find_18 (by decide) ?_
    refine va_put (D := D) (ci := 7) (v := .long 0) (ty := .long) (C := RX7) (T := TX7) (N := 6) hx hb hts hin7 tyX7 tyX7_ok nmX7 hown hK hP hD hS 8 rfl rfl 5 (by decide) w29 (fun _ h9 => h9) rfl (tyX7_ok 5 (by decide)) rfl rfl (Nat.le_of_ble_eq_true rfl) dX7_find_19 (fun H locs hP hD hS => ?_)
    obtain ⟨S_28, eS_28⟩ : ∃ z : CS, z = (cx_set_s_path S_27 0) := ⟨_, rfl⟩
    replace hw := hw S_28 eS_28
    have hP : va_P D vwCl (wC h cy S_28) H := by rw [eS_28, ← wCp_s_path]; exact hP
    have hD : va_D A (wC h cy S_28) := by rw [eS_28, ← wCp_s_path]; exact hD
    refine lv_aload_n hx hb dX7_find_22 rfl (lv_at hl 0 rfl) ?_
    refine va_get (D := D) (ci := 7) (v := .ref (h 43)) (C := RX7) (T := TX7) (N := 6) hx hb hts hin7 hown hK hP 8 rfl rfl 0 (by decide) w11 (fun _ h9 => h9) rfl dX7_find_23 ?_
    refine lv_iconst (v := 0) hx hb dX7_find_26 (by decide) ?_
    refine lv_iload_n hx hb dX7_find_27 rfl (lv_at hl 2 rfl) ?_
    refine lv_i2l (v := Int32.toInt64 x2) hx hb dX7_find_28 rfl ?_
    refine va_last (f := (cx_s_layer S_28)) hx hb hK hP hD hS 43 31 rfl rfl (vp_in_nI (n := 0) (by decide) (by decide)) dX7_find_29 (fun H locs hP hD hS => ?_)
    obtain ⟨S_29, eS_29⟩ : ∃ z : CS, z = (cx_set_s_layer S_28 (vp_updL (cx_s_layer S_28) (Int32.toNatClampNeg 0) (Int32.toInt64 x2))) := ⟨_, rfl⟩
    replace hw := hw S_29 eS_29
    have hP : va_P D vwCl (wC h cy S_29) H := by rw [eS_29, ← wCs_s_layer]; exact hP
    have hD : va_D A (wC h cy S_29) := by rw [eS_29, ← wCs_s_layer]; exact hD
    refine lv_iconst (v := 1) hx hb dX7_find_30 (by decide) ?_
    refine lv_istore (lv' := [(4, .int 1), (0, .ref (h 8)), (1, .ref (h 10)), (2, .int x2), (3, .int x3)]) hx hb dX7_find_31 hl (by decide) rfl (fun ls hl => ?_)
    refine lv_iconst (v := 0) hx hb dX7_find_33 (by decide) ?_
    refine lv_istore (lv' := [(5, .int 0), (4, .int 1), (0, .ref (h 8)), (1, .ref (h 10)), (2, .int x2), (3, .int x3)]) hx hb dX7_find_34 hl (by decide) rfl (fun ls hl => ?_)
    obtain ⟨n_36, hw⟩ := hw
    exact L_36 n_36 x3 1 0 S_29 _ _ _ hw hP hD hS (lv_sub hl [2, 3, 5, 1, 0] rfl)
  refine lv_aload_n hx hb dX7_find_0 rfl (lv_at hl 0 rfl) ?_
  refine lv_aload_n hx hb dX7_find_1 rfl (lv_at hl 1 rfl) ?_
  refine lv_iload_n hx hb dX7_find_2 rfl (lv_at hl 2 rfl) ?_
  refine e_callUi (As := [.int p2]) (rest := [.ref (h 8)]) clE_stable hs ⟨hx, hb, hml, hown, hts⟩ (cC_X1_arrived l D h cy _ _ _ hw) (va_cwA 1 hts gX7_find_X1_arrived_u33X1 rfl rfl rfl hs.1.2.2.2.2.2.2.2.2.2.2.2.2.2.2.2.2.2.2.2.2.2.2.2.2.2.2.2.2.2.1 (by decide +kernel) ⟨Nat.le_of_ble_eq_true rfl, Nat.le_of_ble_eq_true rfl⟩) (va_recv hK hP (ci := 1) (q0 := 10) rfl rfl) hK hP hD hS hA rfl hl.1 rfl (Nat.le_of_ble_eq_true rfl) dX7_find_3 ⟨Nat.zero_le _, Nat.zero_le _⟩ (fun r_30 S_31 H locs hw hP hD hS => ?_)
  obtain ⟨hc_32t, hc_32f⟩ := hw
  refine lv_if_eq (tgt := 13) hx hb dX7_find_6 (by decide) (fun c_32 => ?_) (fun c_32 => ?_)
  · have hw := hc_32t c_32
    clear hc_32t hc_32f
    refine lv_iconst (v := (-1)) hx hb dX7_find_13 (by decide) ?_
    exact J_14 p2 p3 (-1) S_31 _ _ _ hw hP hD hS (lv_sub hl [0, 1, 2, 3] rfl)
  · have hw := hc_32f c_32
    clear hc_32t hc_32f
    refine lv_iconst (v := 0) hx hb dX7_find_9 (by decide) ?_
    refine lv_goto (tgt := 14) hx hb dX7_find_10 (by decide) ?_
    exact J_14 p2 p3 0 S_31 _ _ _ hw hP hD hS (lv_sub hl [0, 1, 2, 3] rfl)
