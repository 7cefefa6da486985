def wC_X1_leaveAsItWas (p1 : Int32) (S : CS) (post : CS → Prop) : Prop := wC_X1_become p1 (cx_f_tired S) S (fun S_2 => post S_2)
set_option maxHeartbeats 4000000 in
set_option maxRecDepth 100000 in
theorem cC_X1_leaveAsItWas (l : Launch) (D : va_G) (h : Nat → Nat) (cy : Nat → ClassId) (p1 : Int32) (S : CS) (post : CS → Prop) (hw : wC_X1_leaveAsItWas p1 S post) : e_Mv clE l yX1_leaveAsItWas wsX1_leaveAsItWas { frames := 3, cells := 0, slots := 0, locals := 67 } D (tyC cy) (wC h cy) [.ref (h 10), .int p1] S post := by
  intro sz
  refine Met.ofW (cc := cX1_leaveAsItWas) (maxL := 2) (ret := none) (by decide) rfl ?_
  intro p e s m args below meth c s₁ B hml hv
  obtain ⟨rfl, hsz, hP, hK, hD0, hs⟩ := hv
  have hx := B.exec
  have hb := B.bytes
  have hr := B.returns
  have hts := atoms_spec (ws := wsX1_leaveAsItWas) B.pre
  have hown : s.vm.findClass RX1 = some m.cls := findClass_of_methodNamed B.named
  have hlocks := B.notSynchronized
  subst hsz
  have hD := hD0.self (sz := s.heap.size)
  generalize hAe : va_A (wC h cy S) s.heap.size = A at hD hs ⊢
  have hA : ∀ q : Nat, s.heap.size ≤ q → A q := fun q h => by rw [← hAe]; exact Or.inr h
  have hS : va_S A s.heap s.heap [] := va_S.rf
  have hin1 : ∀ w ∈ wsX10, w ∈ wsX1_leaveAsItWas := fun _ h => List.mem_cons_of_mem _ (List.mem_append_left _ (List.mem_append_right _ h))
  have hin0 : ∀ w ∈ wsX00, w ∈ wsX1_leaveAsItWas := fun _ h => List.mem_cons_of_mem _ (List.mem_append_right _ h)
  have w7 := hts (.fieldLink RX1 7 "ClownsMourn$ComfortWalk" "tired" "I") (List.mem_of_getElem? (i := 1) rfl)
  have hl := lv_entry ([.ref (h 10), .int p1]) (n := 2) (Nat.le_of_ble_eq_true rfl)
  rw [lg_entry_eq]
  generalize (lg_sl ([.ref (h 10), .int p1]) ++ List.replicate (2 - (lg_sl ([.ref (h 10), .int p1])).length) Slot.unset).toArray = ls at hl ⊢
  have hl : lv_has ls 2 [(0, .ref (h 10)), (1, .int p1)] := hl
  unfold wC_X1_leaveAsItWas at hw
  clear hD0
  refine lv_aload_n hx hb dX1_leaveAsItWas_0 rfl (lv_at hl 0 rfl) ?_
  refine lv_iload_n hx hb dX1_leaveAsItWas_1 rfl (lv_at hl 1 rfl) ?_
  refine lv_aload_n hx hb dX1_leaveAsItWas_2 rfl (lv_at hl 0 rfl) ?_
  refine va_get (D := D) (ci := 1) (v := .int (cx_f_tired S)) (C := RX1) (T := TX1) (N := 6) hx hb hts hin1 hown hK hP 10 rfl rfl 0 (by decide) w7 (fun _ h9 => h9) rfl dX1_leaveAsItWas_3 ?_
  refine e_callVv (As := [.int p1, .int (cx_f_tired S)]) (rest := []) clE_stable hs ⟨hx, hb, hml, hown, hts⟩ (cC_X1_become l D h cy _ _ _ _ hw) (cwV 2 hts gX1_leaveAsItWas_X1_become rfl rfl rfl (by decide +kernel) ⟨Nat.le_of_ble_eq_true rfl, Nat.le_of_ble_eq_true rfl⟩) (va_recv hK hP (ci := 1) (q0 := 10) rfl rfl) hK hP hD hS hA rfl hl.1 rfl (Nat.le_of_ble_eq_true rfl) dX1_leaveAsItWas_6 ⟨Nat.zero_le _, Nat.zero_le _⟩ (fun S_2 H locs hw hP hD hS => ?_)
  exact W.vret hx hb hr (fun t ht hW => ⟨⟨S_2, rfl, hw, by rw [ht]; exact hP, va_K.moved hW.alike hK, hD⟩, hS.F ht⟩) hS.2.2 dX1_leaveAsItWas_9
def wC_X11_comfort (p1 : Int32) (p2 : Int32) (p3 : Int32) (S : CS) (post : Int32 → CS → Prop) : Prop := wC_X0_isOut p1 S (fun r_1 S_2 => ((r_1 = 0 → post (-2) S_2) ∧ (¬ (r_1 = 0) → wC_X11_within p2 0 99 S_2 (fun r_4 S_5 => ((r_4 = 0 → post (-2) S_5) ∧ (¬ (r_4 = 0) → wC_X1_begin p1 p2 S_5 (fun r_7 S_8 => wC_X7_find_comfort r_7 (9 - (cx_f_tired S_8)) S_8 (fun S_10 => wC_X1_leaveAsItWas r_7 S_10 (fun S_12 => wC_X7_answer p3 S_12 (fun r_13 S_14 => post r_13 S_14))))))))))
set_option maxHeartbeats 4000000 in
set_option maxRecDepth 100000 in
theorem cC_X11_comfort (l : Launch) (D : va_G) (h : Nat → Nat) (cy : Nat → ClassId) (p1 : Int32) (p2 : Int32) (p3 : Int32) (S : CS) (post : Int32 → CS → Prop) (hw : wC_X11_comfort p1 p2 p3 S post) : e_Mi clE l yX11_comfort wsX11_comfort { frames := 6, cells := 0, slots := 0, locals := 153 } D (tyC cy) (wC h cy) [.ref (h 0), .int p1, .int p2, .int p3] S post := by
  intro sz
  refine Met.ofW (cc := cX11_comfort) (maxL := 5) (ret := (some .int)) (by decide) rfl ?_
  intro p e s m args below meth c s₁ B hml hv
  obtain ⟨rfl, hsz, hP, hK, hD0, hs⟩ := hv
  have hx := B.exec
  have hb := B.bytes
  have hr := B.returns
  have hts := atoms_spec (ws := wsX11_comfort) B.pre
  have hown : s.vm.findClass RX11 = some m.cls := findClass_of_methodNamed B.named
  have hlocks := B.notSynchronized
  subst hsz
  have hD := hD0.self (sz := s.heap.size)
  generalize hAe : va_A (wC h cy S) s.heap.size = A at hD hs ⊢
  have hA : ∀ q : Nat, s.heap.size ≤ q → A q := fun q h => by rw [← hAe]; exact Or.inr h
  have hS : va_S A s.heap s.heap [] := va_S.rf
  have hin11 : ∀ w ∈ wsX110, w ∈ wsX11_comfort := fun _ h => List.mem_cons_of_mem _ (List.mem_append_left _ (List.mem_append_left _ (List.mem_append_left _ (List.mem_append_left _ (List.mem_append_left _ (List.mem_append_left _ (List.mem_append_right _ h)))))))
  have hin1 : ∀ w ∈ wsX10, w ∈ wsX11_comfort := fun _ h => List.mem_cons_of_mem _ (List.mem_append_left _ (List.mem_append_left _ (List.mem_append_left _ (List.mem_append_left _ (List.mem_append_left _ (List.mem_append_right _ h))))))
  have hin0 : ∀ w ∈ wsX00, w ∈ wsX11_comfort := fun _ h => List.mem_cons_of_mem _ (List.mem_append_left _ (List.mem_append_left _ (List.mem_append_left _ (List.mem_append_left _ (List.mem_append_right _ h)))))
  have hin7 : ∀ w ∈ wsX70, w ∈ wsX11_comfort := fun _ h => List.mem_cons_of_mem _ (List.mem_append_left _ (List.mem_append_left _ (List.mem_append_left _ (List.mem_append_right _ h))))
  have hin5 : ∀ w ∈ wsX50, w ∈ wsX11_comfort := fun _ h => List.mem_cons_of_mem _ (List.mem_append_left _ (List.mem_append_left _ (List.mem_append_right _ h)))
  have hin3 : ∀ w ∈ wsX30, w ∈ wsX11_comfort := fun _ h => List.mem_cons_of_mem _ (List.mem_append_left _ (List.mem_append_right _ h))
  have hin9 : ∀ w ∈ wsX90, w ∈ wsX11_comfort := fun _ h => List.mem_cons_of_mem _ (List.mem_append_right _ h)
  have w10 := hts (.fieldLink RX11 10 "ClownsMourn" "city" "LClownsMourn$City;") (List.mem_of_getElem? (i := 1) rfl)
  have w266 := hts (.fieldLink RX11 266 "ClownsMourn$ComfortWalk" "tired" "I") (List.mem_of_getElem? (i := 4) rfl)
  have w47 := hts (.fieldLink RX11 47 "ClownsMourn" "search" "LClownsMourn$Search;") (List.mem_of_getElem? (i := 3) rfl)
  have w61 := hts (.fieldLink RX11 61 "ClownsMourn" "comfortWalk" "LClownsMourn$ComfortWalk;") (List.mem_of_getElem? (i := 2) rfl)
  have hl := lv_entry ([.ref (h 0), .int p1, .int p2, .int p3]) (n := 5) (Nat.le_of_ble_eq_true rfl)
  rw [lg_entry_eq]
  generalize (lg_sl ([.ref (h 0), .int p1, .int p2, .int p3]) ++ List.replicate (5 - (lg_sl ([.ref (h 0), .int p1, .int p2, .int p3])).length) Slot.unset).toArray = ls at hl ⊢
  have hl : lv_has ls 5 [(0, .ref (h 0)), (1, .int p1), (2, .int p2), (3, .int p3)] := hl
  unfold wC_X11_comfort at hw
  clear hD0
  refine lv_aload_n hx hb dX11_comfort_0 rfl (lv_at hl 0 rfl) ?_
  refine va_get (D := D) (ci := 10) (v := .ref (h 1)) (C := RX11) (T := TX11) (N := 9) hx hb hts hin11 hown hK hP 0 rfl rfl 0 (by decide) w10 (fun _ h9 => h9) rfl dX11_comfort_1 ?_
  refine lv_iload_n hx hb dX11_comfort_4 rfl (lv_at hl 1 rfl) ?_
  refine e_callVi (As := [.int p1]) (rest := []) clE_stable hs ⟨hx, hb, hml, hown, hts⟩ (cC_X0_isOut l D h cy _ _ _ hw) (cwV 1 hts gX11_comfort_X0_isOut rfl rfl rfl (by decide +kernel) ⟨Nat.le_of_ble_eq_true rfl, Nat.le_of_ble_eq_true rfl⟩) (va_recv hK hP (ci := 0) (q0 := 1) rfl rfl) hK hP hD hS hA rfl hl.1 rfl (Nat.le_of_ble_eq_true rfl) dX11_comfort_5 ⟨Nat.zero_le _, Nat.zero_le _⟩ (fun r_1 S_2 H locs hw hP hD hS => ?_)
  obtain ⟨hc_3t, hc_3f⟩ := hw
  refine lv_if_eq (tgt := 21) hx hb dX11_comfort_8 (by decide) (fun c_3 => ?_) (fun c_3 => ?_)
  · have hw := hc_3t c_3
    clear hc_3t hc_3f
    refine lv_bipush (v := (-2)) hx hb dX11_comfort_21 (by decide) ?_
    exact W.iret (v := (-2)) hx hb hr (fun t ht hW => ⟨⟨(-2), S_2, rfl, hw, by rw [ht]; exact hP, va_K.moved hW.alike hK, hD⟩, hS.F ht⟩) hS.2.2 dX11_comfort_23
  · have hw := hc_3f c_3
    clear hc_3t hc_3f
    refine lv_iload_n hx hb dX11_comfort_11 rfl (lv_at hl 2 rfl) ?_
    refine lv_iconst (v := 0) hx hb dX11_comfort_12 (by decide) ?_
    refine lv_bipush (v := 99) hx hb dX11_comfort_13 (by decide) ?_
    refine e_callSi (As := [.int p2, .int 0, .int 99]) (rest := []) clE_stable hs ⟨hx, hb, hml, hown, hts⟩ (cC_X11_within l D h cy _ _ _ _ _ hw) (va_cwS 3 hts gX11_comfort_X11_within rfl rfl rfl (by decide +kernel) ⟨Nat.le_of_ble_eq_true rfl, Nat.le_of_ble_eq_true rfl⟩) hK hP hD hS hA rfl hl.1 rfl (Nat.le_of_ble_eq_true rfl) dX11_comfort_15 ⟨Nat.zero_le _, Nat.zero_le _⟩ (fun r_4 S_5 H locs hw hP hD hS => ?_)
    obtain ⟨hc_6t, hc_6f⟩ := hw
    refine lv_if_ne (tgt := 24) hx hb dX11_comfort_18 (by decide) (fun c_6 => ?_) (fun c_6 => ?_)
    · have hw := hc_6f c_6
      clear hc_6t hc_6f
      refine lv_aload_n hx hb dX11_comfort_24 rfl (lv_at hl 0 rfl) ?_
      refine va_get (D := D) (ci := 10) (v := .ref (h 10)) (C := RX11) (T := TX11) (N := 9) hx hb hts hin11 hown hK hP 0 rfl rfl 7 (by decide) w61 (fun _ h9 => h9) rfl dX11_comfort_25 ?_
      refine lv_iload_n hx hb dX11_comfort_28 rfl (lv_at hl 1 rfl) ?_
      refine lv_iload_n hx hb dX11_comfort_29 rfl (lv_at hl 2 rfl) ?_
      refine e_callVi (As := [.int p1, .int p2]) (rest := []) clE_stable hs ⟨hx, hb, hml, hown, hts⟩ (cC_X1_begin l D h cy _ _ _ _ hw) (cwV 2 hts gX11_comfort_X1_begin rfl rfl rfl (by decide +kernel) ⟨Nat.le_of_ble_eq_true rfl, Nat.le_of_ble_eq_true rfl⟩) (va_recv hK hP (ci := 1) (q0 := 10) rfl rfl) hK hP hD hS hA rfl hl.1 rfl (Nat.le_of_ble_eq_true rfl) dX11_comfort_30 ⟨Nat.zero_le _, Nat.zero_le _⟩ (fun r_7 S_8 H locs hw hP hD hS => ?_)
      refine lv_istore (lv' := [(4, .int r_7), (0, .ref (h 0)), (1, .int p1), (2, .int p2), (3, .int p3)]) hx hb dX11_comfort_33 hl (by decide) rfl (fun ls hl => ?_)
      refine lv_aload_n hx hb dX11_comfort_35 rfl (lv_at hl 1 rfl) ?_
      refine va_get (D := D) (ci := 10) (v := .ref (h 8)) (C := RX11) (T := TX11) (N := 9) hx hb hts hin11 hown hK hP 0 rfl rfl 5 (by decide) w47 (fun _ h9 => h9) rfl dX11_comfort_36 ?_
      refine lv_aload_n hx hb dX11_comfort_39 rfl (lv_at hl 1 rfl) ?_
      refine va_get (D := D) (ci := 10) (v := .ref (h 10)) (C := RX11) (T := TX11) (N := 9) hx hb hts hin11 hown hK hP 0 rfl rfl 7 (by decide) w61 (fun _ h9 => h9) rfl dX11_comfort_40 ?_
      refine lv_iload hx hb dX11_comfort_43 (lv_at hl 0 rfl) ?_
      refine lv_bipush (v := 9) hx hb dX11_comfort_45 (by decide) ?_
      refine lv_aload_n hx hb dX11_comfort_47 rfl (lv_at hl 1 rfl) ?_
      refine va_get (D := D) (ci := 10) (v := .ref (h 10)) (C := RX11) (T := TX11) (N := 9) hx hb hts hin11 hown hK hP 0 rfl rfl 7 (by decide) w61 (fun _ h9 => h9) rfl dX11_comfort_48 ?_
      refine va_get (D := D) (ci := 1) (v := .int (cx_f_tired S_8)) (C := RX1) (T := TX1) (N := 6) hx hb hts hin1 hown hK hP 10 rfl rfl 0 (by decide) w266 (fun _ h9 => h9) rfl dX11_comfort_51 ?_
      refine lv_isub hx hb dX11_comfort_54 ?_
      refine e_callVv (As := [.ref (h 10), .int r_7, .int (9 - (cx_f_tired S_8))]) (rest := []) clE_stable hs ⟨hx, hb, hml, hown, hts⟩ (cC_X7_find_comfort l D h cy _ _ _ _ hw) (cwV 3 hts gX11_comfort_X7_find rfl rfl rfl (by decide +kernel) ⟨Nat.le_of_ble_eq_true rfl, Nat.le_of_ble_eq_true rfl⟩) (va_recv hK hP (ci := 7) (q0 := 8) rfl rfl) hK hP hD hS hA rfl hl.1 rfl (Nat.le_of_ble_eq_true rfl) dX11_comfort_55 ⟨Nat.zero_le _, Nat.zero_le _⟩ (fun S_10 H locs hw hP hD hS => ?_)
      refine lv_aload_n hx hb dX11_comfort_58 rfl (lv_at hl 1 rfl) ?_
      refine va_get (D := D) (ci := 10) (v := .ref (h 10)) (C := RX11) (T := TX11) (N := 9) hx hb hts hin11 hown hK hP 0 rfl rfl 7 (by decide) w61 (fun _ h9 => h9) rfl dX11_comfort_59 ?_
      refine lv_iload hx hb dX11_comfort_62 (lv_at hl 0 rfl) ?_
      refine e_callVv (As := [.int r_7]) (rest := []) clE_stable hs ⟨hx, hb, hml, hown, hts⟩ (cC_X1_leaveAsItWas l D h cy _ _ _ hw) (cwV 1 hts gX11_comfort_X1_leaveAsItWas rfl rfl rfl (by decide +kernel) ⟨Nat.le_of_ble_eq_true rfl, Nat.le_of_ble_eq_true rfl⟩) (va_recv hK hP (ci := 1) (q0 := 10) rfl rfl) hK hP hD hS hA rfl hl.1 rfl (Nat.le_of_ble_eq_true rfl) dX11_comfort_64 ⟨Nat.zero_le _, Nat.zero_le _⟩ (fun S_12 H locs hw hP hD hS => ?_)
      refine lv_aload_n hx hb dX11_comfort_67 rfl (lv_at hl 1 rfl) ?_
      refine va_get (D := D) (ci := 10) (v := .ref (h 8)) (C := RX11) (T := TX11) (N := 9) hx hb hts hin11 hown hK hP 0 rfl rfl 5 (by decide) w47 (fun _ h9 => h9) rfl dX11_comfort_68 ?_
      refine lv_iload_n hx hb dX11_comfort_71 rfl (lv_at hl 4 rfl) ?_
      refine e_callVi (As := [.int p3]) (rest := []) clE_stable hs ⟨hx, hb, hml, hown, hts⟩ (cC_X7_answer l D h cy _ _ _ hw) (cwV 1 hts gX11_comfort_X7_answer rfl rfl rfl (by decide +kernel) ⟨Nat.le_of_ble_eq_true rfl, Nat.le_of_ble_eq_true rfl⟩) (va_recv hK hP (ci := 7) (q0 := 8) rfl rfl) hK hP hD hS hA rfl hl.1 rfl (Nat.le_of_ble_eq_true rfl) dX11_comfort_72 ⟨Nat.zero_le _, Nat.zero_le _⟩ (fun r_13 S_14 H locs hw hP hD hS => ?_)
      exact W.iret (v := r_13) hx hb hr (fun t ht hW => ⟨⟨r_13, S_14, rfl, hw, by rw [ht]; exact hP, va_K.moved hW.alike hK, hD⟩, hS.F ht⟩) hS.2.2 dX11_comfort_75
    · have hw := hc_6t c_6
      clear hc_6t hc_6f
      refine lv_bipush (v := (-2)) hx hb dX11_comfort_21 (by decide) ?_
      exact W.iret (v := (-2)) hx hb hr (fun t ht hW => ⟨⟨(-2), S_5, rfl, hw, by rw [ht]; exact hP, va_K.moved hW.alike hK, hD⟩, hS.F ht⟩) hS.2.2 dX11_comfort_23
def wC_X11_ring_15 (post : Int32 → CS → Prop) : Nat → Int32 → Int32 → Int32 → CS → Prop
  | 0, _, _, _, _ => False
  | n + 1, x1, x2, x3, S => ((10 ≤ x3 → post x2 S) ∧ (¬ (10 ≤ x3) → wC_X0_turnedSet x1 x2 S (fun r_2 S_3 => wC_X11_ring_15 post n x1 r_2 (x3 + 1) S_3)))
def wC_X11_ring (p1 : Int32) (S : CS) (post : Int32 → CS → Prop) : Prop := wC_X11_isFall p1 S (fun r_1 S_2 => ((r_1 = 0 → post (-1) S_2) ∧ (¬ (r_1 = 0) → ∃ k_ : Nat, wC_X11_ring_15 post k_ p1 1023 0 S_2)))
set_option maxHeartbeats 4000000 in
set_option maxRecDepth 100000 in
theorem cC_X11_ring (l : Launch) (D : va_G) (h : Nat → Nat) (cy : Nat → ClassId) (p1 : Int32) (S : CS) (post : Int32 → CS → Prop) (hw : wC_X11_ring p1 S post) : e_Mi clE l yX11_ring wsX11_ring { frames := 3, cells := 0, slots := 0, locals := 67 } D (tyC cy) (wC h cy) [.ref (h 0), .int p1] S post := by
  intro sz
  refine Met.ofW (cc := cX11_ring) (maxL := 4) (ret := (some .int)) (by decide) rfl ?_
  intro p e s m args below meth c s₁ B hml hv
  obtain ⟨rfl, hsz, hP, hK, hD0, hs⟩ := hv
  have hx := B.exec
  have hb := B.bytes
  have hr := B.returns
  have hts := atoms_spec (ws := wsX11_ring) B.pre
  have hown : s.vm.findClass RX11 = some m.cls := findClass_of_methodNamed B.named
  have hlocks := B.notSynchronized
  subst hsz
  have hD := hD0.self (sz := s.heap.size)
  generalize hAe : va_A (wC h cy S) s.heap.size = A at hD hs ⊢
  have hA : ∀ q : Nat, s.heap.size ≤ q → A q := fun q h => by rw [← hAe]; exact Or.inr h
  have hS : va_S A s.heap s.heap [] := va_S.rf
  have hin11 : ∀ w ∈ wsX110, w ∈ wsX11_ring := fun _ h => List.mem_cons_of_mem _ (List.mem_append_left _ (List.mem_append_right _ h))
  have hin0 : ∀ w ∈ wsX00, w ∈ wsX11_ring := fun _ h => List.mem_cons_of_mem _ (List.mem_append_right _ h)
  have w10 := hts (.fieldLink RX11 10 "ClownsMourn" "city" "LClownsMourn$City;") (List.mem_of_getElem? (i := 1) rfl)
  have hl := lv_entry ([.ref (h 0), .int p1]) (n := 4) (Nat.le_of_ble_eq_true rfl)
  rw [lg_entry_eq]
  generalize (lg_sl ([.ref (h 0), .int p1]) ++ List.replicate (4 - (lg_sl ([.ref (h 0), .int p1])).length) Slot.unset).toArray = ls at hl ⊢
  have hl : lv_has ls 4 [(0, .ref (h 0)), (1, .int p1)] := hl
  unfold wC_X11_ring at hw
  clear hD0
  have L_15 : ∀ (n15 : Nat) (x1 : Int32) (x2 : Int32) (x3 : Int32) (S : CS) (H : Heap) (locs : List Loc) (ls : Array Slot), wC_X11_ring_15 post n15 x1 x2 x3 S → va_P D vwCl (wC h cy S) H → va_D A (wC h cy S) → va_S A s.heap H locs → lv_has ls 4 [(0, .ref (h 0)), (1, .int x1), (2, .int x2), (3, .int x3)] → W p l e (headSpec wsX11_ring { frames := 3, cells := 0, slots := 0, locals := 67 }).room s m (([.ref (h 0), .int p1] : List Value).toArray) below meth c H locs 0 0 (MQ below (va_Qi post (k_Post D (tyC cy) (wC h cy) A) A) (([.ref (h 0), .int p1] : List Value).toArray) s 0 0 A) (F0 m 15 ls []) := by
    intro n15
    induction n15 with
    | zero => intro x1 x2 x3 S H locs ls hw; exact False.elim hw
    | succ n15 ih_15 =>
      intro x1 x2 x3 S H locs ls hw hP hD hS hl
      unfold wC_X11_ring_15 at hw
      refine lv_iload_n hx hb dX11_ring_15 rfl (lv_at hl 3 rfl) ?_
      refine lv_bipush (v := 10) hx hb dX11_ring_16 (by decide) ?_
      obtain ⟨hc_1t, hc_1f⟩ := hw
      refine lv_icmp_ge (tgt := 37) hx hb dX11_ring_18 (by decide) (fun c_1 => ?_) (fun c_1 => ?_)
      · have hw := hc_1t c_1
        clear hc_1t hc_1f
        refine lv_iload_n hx hb dX11_ring_37 rfl (lv_at hl 2 rfl) ?_
        exact W.iret (v := x2) hx hb hr (fun t ht hW => ⟨⟨x2, S, rfl, hw, by rw [ht]; exact hP, va_K.moved hW.alike hK, hD⟩, hS.F ht⟩) hS.2.2 dX11_ring_38
      · have hw := hc_1f c_1
        clear hc_1t hc_1f
        refine lv_aload_n hx hb dX11_ring_21 rfl (lv_at hl 0 rfl) ?_
        refine va_get (D := D) (ci := 10) (v := .ref (h 1)) (C := RX11) (T := TX11) (N := 9) hx hb hts hin11 hown hK hP 0 rfl rfl 0 (by decide) w10 (fun _ h9 => h9) rfl dX11_ring_22 ?_
        refine lv_iload_n hx hb dX11_ring_25 rfl (lv_at hl 1 rfl) ?_
        refine lv_iload_n hx hb dX11_ring_26 rfl (lv_at hl 2 rfl) ?_
        refine e_callVi (As := [.int x1, .int x2]) (rest := []) clE_stable hs ⟨hx, hb, hml, hown, hts⟩ (cC_X0_turnedSet l D h cy _ _ _ _ hw) (cwV 2 hts gX11_ring_X0_turnedSet rfl rfl rfl (by decide +kernel) ⟨Nat.le_of_ble_eq_true rfl, Nat.le_of_ble_eq_true rfl⟩) (va_recv hK hP (ci := 0) (q0 := 1) rfl rfl) hK hP hD hS hA rfl hl.1 rfl (Nat.le_of_ble_eq_true rfl) dX11_ring_27 ⟨Nat.zero_le _, Nat.zero_le _⟩ (fun r_2 S_3 H locs hw hP hD hS => ?_)
        refine lv_istore_n (lv' := [(2, .int r_2), (0, .ref (h 0)), (1, .int x1), (3, .int x3)]) hx hb dX11_ring_30 rfl hl (by decide) rfl (fun ls hl => ?_)
        refine lv_iinc (v := x3 + 1) (lv' := [(3, .int (x3 + 1)), (2, .int r_2), (0, .ref (h 0)), (1, .int x1)]) hx hb dX11_ring_31 hl (k := 3) rfl (k_inc (by decide)) (by decide) rfl (fun ls hl => ?_)
        refine lv_goto (tgt := 15) hx hb dX11_ring_34 (by decide) ?_
        exact ih_15 x1 r_2 (x3 + 1) S_3 _ _ _ hw hP hD hS (lv_sub hl [2, 3, 1, 0] rfl)
  refine lv_iload_n hx hb dX11_ring_0 rfl (lv_at hl 1 rfl) ?_
  refine e_callSi (As := [.int p1]) (rest := []) clE_stable hs ⟨hx, hb, hml, hown, hts⟩ (cC_X11_isFall l D h cy _ _ _ hw) (va_cwS 1 hts gX11_ring_X11_isFall rfl rfl rfl (by decide +kernel) ⟨Nat.le_of_ble_eq_true rfl, Nat.le_of_ble_eq_true rfl⟩) hK hP hD hS hA rfl hl.1 rfl (Nat.le_of_ble_eq_true rfl) dX11_ring_1 ⟨Nat.zero_le _, Nat.zero_le _⟩ (fun r_4 S_5 H locs hw hP hD hS => ?_)
  obtain ⟨hc_6t, hc_6f⟩ := hw
  refine lv_if_ne (tgt := 9) hx hb dX11_ring_4 (by decide) (fun c_6 => ?_) (fun c_6 => ?_)
  · have hw := hc_6f c_6
    clear hc_6t hc_6f
    refine lv_sipush (v := 1023) hx hb dX11_ring_9 (by decide) ?_
    refine lv_istore_n (lv' := [(2, .int 1023), (0, .ref (h 0)), (1, .int p1)]) hx hb dX11_ring_12 rfl hl (by decide) rfl (fun ls hl => ?_)
    refine lv_iconst (v := 0) hx hb dX11_ring_13 (by decide) ?_
    refine lv_istore_n (lv' := [(3, .int 0), (2, .int 1023), (0, .ref (h 0)), (1, .int p1)]) hx hb dX11_ring_14 rfl hl (by decide) rfl (fun ls hl => ?_)
    obtain ⟨n_15, hw⟩ := hw
    exact L_15 n_15 p1 1023 0 S_5 _ _ _ hw hP hD hS (lv_sub hl [2, 3, 1, 0] rfl)
  · have hw := hc_6t c_6
    clear hc_6t hc_6f
    refine lv_iconst (v := (-1)) hx hb dX11_ring_7 (by decide) ?_
    exact W.iret (v := (-1)) hx hb hr (fun t ht hW => ⟨⟨(-1), S_5, rfl, hw, by rw [ht]; exact hP, va_K.moved hW.alike hK, hD⟩, hS.F ht⟩) hS.2.2 dX11_ring_8
def wC_X11_cost (p1 : Int32) (p2 : Int32) (p3 : Int32) (S : CS) (post : Int32 → CS → Prop) : Prop := wC_X11_within p1 0 4 S (fun r_1 S_2 => ((r_1 = 0 → post 0 S_2) ∧ (¬ (r_1 = 0) → wC_X11_within p2 0 5 S_2 (fun r_4 S_5 => ((r_4 = 0 → post 0 S_5) ∧ (¬ (r_4 = 0) → wC_X11_within p3 0 99 S_5 (fun r_7 S_8 => ((r_7 = 0 → post 0 S_8) ∧ (¬ (r_7 = 0) → (∀ S_10 : CS, S_10 = (cx_set_c_costs S_8 (k_put 30 (cx_c_costs S_8) ((p1 * 6) + p2) p3)) → post 1 S_10))))))))))
set_option maxHeartbeats 4000000 in
set_option maxRecDepth 100000 in
theorem cC_X11_cost (l : Launch) (D : va_G) (h : Nat → Nat) (cy : Nat → ClassId) (p1 : Int32) (p2 : Int32) (p3 : Int32) (S : CS) (post : Int32 → CS → Prop) (hw : wC_X11_cost p1 p2 p3 S post) : e_Mi clE l yX11_cost wsX11_cost { frames := 1, cells := 0, slots := 0, locals := 22 } D (tyC cy) (wC h cy) [.ref (h 0), .int p1, .int p2, .int p3] S post := by
  intro sz
  refine Met.ofW (cc := cX11_cost) (maxL := 4) (ret := (some .boolean)) (by decide) rfl ?_
  intro p e s m args below meth c s₁ B hml hv
  obtain ⟨rfl, hsz, hP, hK, hD0, hs⟩ := hv
  have hx := B.exec
  have hb := B.bytes
  have hr := B.returns
  have hts := atoms_spec (ws := wsX11_cost) B.pre
  have hown : s.vm.findClass RX11 = some m.cls := findClass_of_methodNamed B.named
  have hlocks := B.notSynchronized
  subst hsz
  have hD := hD0.self (sz := s.heap.size)
  generalize hAe : va_A (wC h cy S) s.heap.size = A at hD hs ⊢
  have hA : ∀ q : Nat, s.heap.size ≤ q → A q := fun q h => by rw [← hAe]; exact Or.inr h
  have hS : va_S A s.heap s.heap [] := va_S.rf
  have hin11 : ∀ w ∈ wsX110, w ∈ wsX11_cost := fun _ h => List.mem_cons_of_mem _ (List.mem_append_left _ (List.mem_append_right _ h))
  have hin0 : ∀ w ∈ wsX00, w ∈ wsX11_cost := fun _ h => List.mem_cons_of_mem _ (List.mem_append_right _ h)
  have w10 := hts (.fieldLink RX11 10 "ClownsMourn" "city" "LClownsMourn$City;") (List.mem_of_getElem? (i := 1) rfl)
  have w275 := hts (.fieldLink RX11 275 "ClownsMourn$City" "costs" "[I") (List.mem_of_getElem? (i := 2) rfl)
  have hl := lv_entry ([.ref (h 0), .int p1, .int p2, .int p3]) (n := 4) (Nat.le_of_ble_eq_true rfl)
  rw [lg_entry_eq]
  generalize (lg_sl ([.ref (h 0), .int p1, .int p2, .int p3]) ++ List.replicate (4 - (lg_sl ([.ref (h 0), .int p1, .int p2, .int p3])).length) Slot.unset).toArray = ls at hl ⊢
  have hl : lv_has ls 4 [(0, .ref (h 0)), (1, .int p1), (2, .int p2), (3, .int p3)] := hl
  unfold wC_X11_cost at hw
  clear hD0
  refine lv_iload_n hx hb dX11_cost_0 rfl (lv_at hl 1 rfl) ?_
  refine lv_iconst (v := 0) hx hb dX11_cost_1 (by decide) ?_
  refine lv_iconst (v := 4) hx hb dX11_cost_2 (by decide) ?_
  refine e_callSi (As := [.int p1, .int 0, .int 4]) (rest := []) clE_stable hs ⟨hx, hb, hml, hown, hts⟩ (cC_X11_within l D h cy _ _ _ _ _ hw) (va_cwS 3 hts gX11_cost_X11_within rfl rfl rfl (by decide +kernel) ⟨Nat.le_of_ble_eq_true rfl, Nat.le_of_ble_eq_true rfl⟩) hK hP hD hS hA rfl hl.1 rfl (Nat.le_of_ble_eq_true rfl) dX11_cost_3 ⟨Nat.zero_le _, Nat.zero_le _⟩ (fun r_1 S_2 H locs hw hP hD hS => ?_)
  obtain ⟨hc_3t, hc_3f⟩ := hw
  refine lv_if_eq (tgt := 28) hx hb dX11_cost_6 (by decide) (fun c_3 => ?_) (fun c_3 => ?_)
  · have hw := hc_3t c_3
    clear hc_3t hc_3f
    refine lv_iconst (v := 0) hx hb dX11_cost_28 (by decide) ?_
    exact W.zret (v := 0) hx hb hr (by decide +kernel) (fun t ht hW => ⟨⟨0, S_2, rfl, hw, by rw [ht]; exact hP, va_K.moved hW.alike hK, hD⟩, hS.F ht⟩) hS.2.2 dX11_cost_29
  · have hw := hc_3f c_3
    clear hc_3t hc_3f
    refine lv_iload_n hx hb dX11_cost_9 rfl (lv_at hl 2 rfl) ?_
    refine lv_iconst (v := 0) hx hb dX11_cost_10 (by decide) ?_
    refine lv_iconst (v := 5) hx hb dX11_cost_11 (by decide) ?_
    refine e_callSi (As := [.int p2, .int 0, .int 5]) (rest := []) clE_stable hs ⟨hx, hb, hml, hown, hts⟩ (cC_X11_within l D h cy _ _ _ _ _ hw) (va_cwS 3 hts gX11_cost_X11_within rfl rfl rfl (by decide +kernel) ⟨Nat.le_of_ble_eq_true rfl, Nat.le_of_ble_eq_true rfl⟩) hK hP hD hS hA rfl hl.1 rfl (Nat.le_of_ble_eq_true rfl) dX11_cost_12 ⟨Nat.zero_le _, Nat.zero_le _⟩ (fun r_4 S_5 H locs hw hP hD hS => ?_)
    obtain ⟨hc_6t, hc_6f⟩ := hw
    refine lv_if_eq (tgt := 28) hx hb dX11_cost_15 (by decide) (fun c_6 => ?_) (fun c_6 => ?_)
    · have hw := hc_6t c_6
      clear hc_6t hc_6f
      refine lv_iconst (v := 0) hx hb dX11_cost_28 (by decide) ?_
      exact W.zret (v := 0) hx hb hr (by decide +kernel) (fun t ht hW => ⟨⟨0, S_5, rfl, hw, by rw [ht]; exact hP, va_K.moved hW.alike hK, hD⟩, hS.F ht⟩) hS.2.2 dX11_cost_29
    · have hw := hc_6f c_6
      clear hc_6t hc_6f
      refine lv_iload_n hx hb dX11_cost_18 rfl (lv_at hl 3 rfl) ?_
      refine lv_iconst (v := 0) hx hb dX11_cost_19 (by decide) ?_
      refine lv_bipush (v := 99) hx hb dX11_cost_20 (by decide) ?_
      refine e_callSi (As := [.int p3, .int 0, .int 99]) (rest := []) clE_stable hs ⟨hx, hb, hml, hown, hts⟩ (cC_X11_within l D h cy _ _ _ _ _ hw) (va_cwS 3 hts gX11_cost_X11_within rfl rfl rfl (by decide +kernel) ⟨Nat.le_of_ble_eq_true rfl, Nat.le_of_ble_eq_true rfl⟩) hK hP hD hS hA rfl hl.1 rfl (Nat.le_of_ble_eq_true rfl) dX11_cost_22 ⟨Nat.zero_le _, Nat.zero_le _⟩ (fun r_7 S_8 H locs hw hP hD hS => ?_)
      obtain ⟨hc_9t, hc_9f⟩ := hw
      refine lv_if_ne (tgt := 30) hx hb dX11_cost_25 (by decide) (fun c_9 => ?_) (fun c_9 => ?_)
      · have hw := hc_9f c_9
        clear hc_9t hc_9f
        refine lv_aload_n hx hb dX11_cost_30 rfl (lv_at hl 0 rfl) ?_
        refine va_get (D := D) (ci := 10) (v := .ref (h 1)) (C := RX11) (T := TX11) (N := 9) hx hb hts hin11 hown hK hP 0 rfl rfl 0 (by decide) w10 (fun _ h9 => h9) rfl dX11_cost_31 ?_
        refine va_get (D := D) (ci := 0) (v := .ref (h 18)) (C := RX0) (T := TX0) (N := 16) hx hb hts hin0 hown hK hP 1 rfl rfl 9 (by decide) w275 (fun _ h9 => h9) rfl dX11_cost_34 ?_
        refine lv_iload_n hx hb dX11_cost_37 rfl (lv_at hl 1 rfl) ?_
        refine lv_bipush (v := 6) hx hb dX11_cost_38 (by decide) ?_
        refine lv_imul hx hb dX11_cost_40 ?_
        refine lv_iload_n hx hb dX11_cost_41 rfl (lv_at hl 2 rfl) ?_
        refine lv_iadd hx hb dX11_cost_42 ?_
        refine lv_iload_n hx hb dX11_cost_43 rfl (lv_at hl 3 rfl) ?_
        refine e_callSv (As := [.ref (h 18), .int ((p1 * 6) + p2), .int p3]) (rest := []) clE_stable hs ⟨hx, hb, hml, hown, hts⟩ (cA_put l D clE (tyC cy) (wC h cy) cx_c_costs cx_set_c_costs S_8 18 6 _ _ 30 rfl (wCs_c_costs h cy S_8) rfl (by decide) _ _ (fun S0 => S0 = (cx_set_c_costs S_8 (k_put 30 (cx_c_costs S_8) ((p1 * 6) + p2) p3))) rfl) (va_cwS 3 hts gX11_cost_X11_put rfl rfl rfl (by decide +kernel) ⟨Nat.le_of_ble_eq_true rfl, Nat.le_of_ble_eq_true rfl⟩) hK hP hD hS hA rfl hl.1 rfl (Nat.le_of_ble_eq_true rfl) dX11_cost_44 ⟨Nat.zero_le _, Nat.zero_le _⟩ (fun S_10 H locs eS_10 hP hD hS => ?_)
        replace hw := hw S_10 eS_10
        refine lv_iconst (v := 1) hx hb dX11_cost_47 (by decide) ?_
        exact W.zret (v := 1) hx hb hr (by decide +kernel) (fun t ht hW => ⟨⟨1, S_10, rfl, hw, by rw [ht]; exact hP, va_K.moved hW.alike hK, hD⟩, hS.F ht⟩) hS.2.2 dX11_cost_48
      · have hw := hc_9t c_9
        clear hc_9t hc_9f
        refine lv_iconst (v := 0) hx hb dX11_cost_28 (by decide) ?_
        exact W.zret (v := 0) hx hb hr (by decide +kernel) (fun t ht hW => ⟨⟨0, S_8, rfl, hw, by rw [ht]; exact hP, va_K.moved hW.alike hK, hD⟩, hS.F ht⟩) hS.2.2 dX11_cost_29
def wC_X4_assign_49 (Rc : Int32 → Int32 → Int32 → Int32 → CS → (CS → Prop) → Prop) (post : CS → Prop) : Nat → Int32 → Int32 → Int32 → Int32 → Int32 → CS → Prop
  | 0, _, _, _, _, _, _ => False
  | n + 1, x1, x2, x3, x4, x5, S => wC_X0_houseCount S (fun r_1 S_2 => ((r_1 ≤ x5 → ((x3 ≤ 0 → post S_2) ∧ (¬ (x3 ≤ 0) → (∀ S_5 : CS, S_5 = (cx_set_t_goes S_2 (k_put 5 (cx_t_goes S_2) x1 (-1))) → Rc (x1 + 1) x2 (x3 - 1) x4 S_5 (fun S_7 => post S_7))))) ∧ (¬ (r_1 ≤ x5) → ((((k_shr x2 x5) &&& 1) = 0 → (∀ S_9 : CS, S_9 = (cx_set_t_goes S_2 (k_put 5 (cx_t_goes S_2) x1 x5)) → Rc (x1 + 1) (x2 ||| (k_shl 1 x5)) x3 (x4 + (k_at 30 (cx_c_costs S_9) ((x1 * 6) + x5))) S_9 (fun S_11 => wC_X4_assign_49 Rc post n x1 x2 x3 x4 (x5 + 1) S_11))) ∧ (¬ (((k_shr x2 x5) &&& 1) = 0) → wC_X4_assign_49 Rc post n x1 x2 x3 x4 (x5 + 1) S_2)))))
def wC_X4_assign_28 (Rc : Int32 → Int32 → Int32 → Int32 → CS → (CS → Prop) → Prop) (post : CS → Prop) (x4 : Int32) (S : CS) : Prop := (∀ S_1 : CS, S_1 = (cx_set_t_least S x4) → (∀ S_2 : CS, S_2 = (cx_set_t_best S_1 (k_copyW 5 5 (cx_t_goes S_1) (cx_t_best S_1))) → post S_2))
def wB_X4_assign (Rc : Int32 → Int32 → Int32 → Int32 → CS → (CS → Prop) → Prop) (p1 : Int32) (p2 : Int32) (p3 : Int32) (p4 : Int32) (S : CS) (post : CS → Prop) : Prop := wC_X0_clownCount S (fun r_1 S_2 => ((p1 < r_1 → ∃ k_ : Nat, wC_X4_assign_49 Rc post k_ p1 p2 p3 p4 0 S_2) ∧ (¬ (p1 < r_1) → (((cx_t_least S_2) = (-1) → wC_X4_assign_28 Rc post p4 S_2) ∧ (¬ ((cx_t_least S_2) = (-1)) → (((cx_t_least S_2) ≤ p4 → post S_2) ∧ (¬ ((cx_t_least S_2) ≤ p4) → wC_X4_assign_28 Rc post p4 S_2)))))))
set_option maxHeartbeats 4000000 in
set_option maxRecDepth 100000 in
theorem cB_X4_assign (l : Launch) (D : va_G) (h : Nat → Nat) (cy : Nat → ClassId) (d : Nat) (Rc : Int32 → Int32 → Int32 → Int32 → CS → (CS → Prop) → Prop) (hR0 : ∀ (p1 : Int32) (p2 : Int32) (p3 : Int32) (p4 : Int32) (S : CS) (post : CS → Prop), Rc p1 p2 p3 p4 S post → e_Mv clE l yX4_assign wsX4_assign { frames := 3 + d, cells := 0, slots := 0, locals := 105 + d * 26 } D (tyC cy) (wC h cy) [.ref (h 11), .int p1, .int p2, .int p3, .int p4] S post) (p1 : Int32) (p2 : Int32) (p3 : Int32) (p4 : Int32) (S : CS) (post : CS → Prop) (hw : wB_X4_assign Rc p1 p2 p3 p4 S post) : e_Mv clE l yX4_assign wsX4_assign { frames := 3 + (d + 1), cells := 0, slots := 0, locals := 105 + (d + 1) * 26 } D (tyC cy) (wC h cy) [.ref (h 11), .int p1, .int p2, .int p3, .int p4] S post := by
  intro sz
  refine Met.ofW (cc := cX4_assign) (maxL := 7) (ret := none) (by decide) rfl ?_
  intro p e s m args below meth c s₁ B hml hv
  obtain ⟨rfl, hsz, hP, hK, hD0, hs⟩ := hv
  have hx := B.exec
  have hb := B.bytes
  have hr := B.returns
  have hts := atoms_spec (ws := wsX4_assign) B.pre
  have hown : s.vm.findClass RX4 = some m.cls := findClass_of_methodNamed B.named
  have hlocks := B.notSynchronized
  subst hsz
  have hD := hD0.self (sz := s.heap.size)
  generalize hAe : va_A (wC h cy S) s.heap.size = A at hD hs ⊢
  have hA : ∀ q : Nat, s.heap.size ≤ q → A q := fun q h => by rw [← hAe]; exact Or.inr h
  have hS : va_S A s.heap s.heap [] := va_S.rf
  have hin4 : ∀ w ∈ wsX40, w ∈ wsX4_assign := fun _ h => List.mem_cons_of_mem _ (List.mem_append_left _ (List.mem_append_right _ h))
  have hin0 : ∀ w ∈ wsX00, w ∈ wsX4_assign := fun _ h => List.mem_cons_of_mem _ (List.mem_append_right _ h)
  have w15 := hts (.fieldLink RX4 15 "ClownsMourn$Match" "best" "[I") (List.mem_of_getElem? (i := 4) rfl)
  have w19 := hts (.fieldLink RX4 19 "ClownsMourn$Match" "goes" "[I") (List.mem_of_getElem? (i := 3) rfl)
  have w22 := hts (.fieldLink RX4 22 "ClownsMourn$Match" "city" "LClownsMourn$City;") (List.mem_of_getElem? (i := 1) rfl)
  have w53 := hts (.fieldLink RX4 53 "ClownsMourn$City" "costs" "[I") (List.mem_of_getElem? (i := 5) rfl)
  have w9 := hts (.fieldLink RX4 9 "ClownsMourn$Match" "least" "I") (List.mem_of_getElem? (i := 2) rfl)
  have wiX11 := hts (.initialized RX11) (List.mem_of_getElem? (i := 17) rfl)
  have wstat := hts (.static yX11_at) (List.mem_of_getElem? (i := 16) rfl)
  have wstcopyWhole := hts (.static yX11_copyWhole) (List.mem_of_getElem? (i := 19) rfl)
  have wstput := hts (.static yX11_put) (List.mem_of_getElem? (i := 32) rfl)
  have hl := lv_entry ([.ref (h 11), .int p1, .int p2, .int p3, .int p4]) (n := 7) (Nat.le_of_ble_eq_true rfl)
  rw [lg_entry_eq]
  generalize (lg_sl ([.ref (h 11), .int p1, .int p2, .int p3, .int p4]) ++ List.replicate (7 - (lg_sl ([.ref (h 11), .int p1, .int p2, .int p3, .int p4])).length) Slot.unset).toArray = ls at hl ⊢
  have hl : lv_has ls 7 [(0, .ref (h 11)), (1, .int p1), (2, .int p2), (3, .int p3), (4, .int p4)] := hl
  unfold wB_X4_assign at hw
  clear hD0
  have L_49 : ∀ (n49 : Nat) (x1 : Int32) (x2 : Int32) (x3 : Int32) (x4 : Int32) (x5 : Int32) (S : CS) (H : Heap) (locs : List Loc) (ls : Array Slot), wC_X4_assign_49 Rc post n49 x1 x2 x3 x4 x5 S → va_P D vwCl (wC h cy S) H → va_D A (wC h cy S) → va_S A s.heap H locs → lv_has ls 7 [(0, .ref (h 11)), (1, .int x1), (2, .int x2), (3, .int x3), (4, .int x4), (5, .int x5)] → W p l e (headSpec wsX4_assign { frames := 3 + (d + 1), cells := 0, slots := 0, locals := 105 + (d + 1) * 26 }).room s m (([.ref (h 11), .int p1, .int p2, .int p3, .int p4] : List Value).toArray) below meth c H locs 0 0 (MQ below (va_Qv post (k_Post D (tyC cy) (wC h cy) A) A) (([.ref (h 11), .int p1, .int p2, .int p3, .int p4] : List Value).toArray) s 0 0 A) (F0 m 49 ls []) := by
    intro n49
    induction n49 with
    | zero => intro x1 x2 x3 x4 x5 S H locs ls hw; exact False.elim hw
    | succ n49 ih_49 =>
      intro x1 x2 x3 x4 x5 S H locs ls hw hP hD hS hl
      unfold wC_X4_assign_49 at hw
      refine lv_iload hx hb dX4_assign_49 (lv_at hl 5 rfl) ?_
      refine lv_aload_n hx hb dX4_assign_51 rfl (lv_at hl 0 rfl) ?_
      refine va_get (D := D) (ci := 4) (v := .ref (h 1)) (C := RX4) (T := TX4) (N := 4) hx hb hts hin4 hown hK hP 11 rfl rfl 2 (by decide) w22 (fun _ h9 => h9) rfl dX4_assign_52 ?_
      refine e_callVi (As := []) (rest := [.int x5]) clE_stable hs ⟨hx, hb, hml, hown, hts⟩ (cC_X0_houseCount l D h cy _ _ hw) (cwV 0 hts gX4_assign_X0_houseCount rfl rfl rfl (by decide +kernel) ⟨by show 1 + 1 ≤ 3 + (d + 1); omega, by show 8 + (1 + 11) + 21 ≤ 105 + (d + 1) * 26; omega⟩) (va_recv hK hP (ci := 0) (q0 := 1) rfl rfl) hK hP hD hS hA rfl hl.1 rfl (Nat.le_of_ble_eq_true rfl) dX4_assign_55 ⟨Nat.zero_le _, Nat.zero_le _⟩ (fun r_1 S_2 H locs hw hP hD hS => ?_)
      obtain ⟨hc_3t, hc_3f⟩ := hw
      refine lv_icmp_ge (tgt := 124) hx hb dX4_assign_58 (by decide) (fun c_3 => ?_) (fun c_3 => ?_)
      · have hw := hc_3t c_3
        clear hc_3t hc_3f
        refine lv_iload_n hx hb dX4_assign_124 rfl (lv_at hl 3 rfl) ?_
        obtain ⟨hc_4t, hc_4f⟩ := hw
        refine lv_if_le (tgt := 150) hx hb dX4_assign_125 (by decide) (fun c_4 => ?_) (fun c_4 => ?_)
        · have hw := hc_4t c_4
          clear hc_4t hc_4f
          exact W.vret hx hb hr (fun t ht hW => ⟨⟨S_2, rfl, hw, by rw [ht]; exact hP, va_K.moved hW.alike hK, hD⟩, hS.F ht⟩) hS.2.2 dX4_assign_150
        · have hw := hc_4f c_4
          clear hc_4t hc_4f
          refine lv_aload_n hx hb dX4_assign_128 rfl (lv_at hl 0 rfl) ?_
          refine va_get (D := D) (ci := 4) (v := .ref (h 47)) (C := RX4) (T := TX4) (N := 4) hx hb hts hin4 hown hK hP 11 rfl rfl 3 (by decide) w19 (fun _ h9 => h9) rfl dX4_assign_129 ?_
          refine lv_iload_n hx hb dX4_assign_132 rfl (lv_at hl 1 rfl) ?_
          refine lv_iconst (v := (-1)) hx hb dX4_assign_133 (by decide) ?_
          refine e_callNv (As := [.ref (h 47), .int x1, .int (-1)]) (rest := []) clE_stable hs ⟨hx, hb, hml, hown, hts⟩ (cA_put l D clE (tyC cy) (wC h cy) cx_t_goes cx_set_t_goes S_2 47 35 _ _ 5 rfl (wCs_t_goes h cy S_2) rfl (by decide) _ _ (fun S0 => S0 = (cx_set_t_goes S_2 (k_put 5 (cx_t_goes S_2) x1 (-1)))) rfl) ⟨va_cnB 3 hts gX4_assign_X11_put_n49 rfl rfl rfl hs.1.2.2.2.2.2.2.2.2.2.2.2.2.2.2.2.2.2.2.2.2.2.2.2.2.1 wiX11 (by decide +kernel) ⟨by show 0 + 1 ≤ 3 + (d + 1); omega, by show 8 + (3 + 11) + 0 ≤ 105 + (d + 1) * 26; omega⟩, wstput, trivial⟩ hK hP hD hS hA rfl hl.1 rfl (Nat.le_of_ble_eq_true rfl) dX4_assign_134 ⟨Nat.zero_le _, Nat.zero_le _⟩ (fun S_5 H locs eS_5 hP hD hS => ?_)
          replace hw := hw S_5 eS_5
          refine lv_aload_n hx hb dX4_assign_137 rfl (lv_at hl 0 rfl) ?_
          refine lv_iload_n hx hb dX4_assign_138 rfl (lv_at hl 1 rfl) ?_
          refine lv_iconst (v := 1) hx hb dX4_assign_139 (by decide) ?_
          refine lv_iadd hx hb dX4_assign_140 ?_
          refine lv_iload_n hx hb dX4_assign_141 rfl (lv_at hl 2 rfl) ?_
          refine lv_iload_n hx hb dX4_assign_142 rfl (lv_at hl 3 rfl) ?_
          refine lv_iconst (v := 1) hx hb dX4_assign_143 (by decide) ?_
          refine lv_isub hx hb dX4_assign_144 ?_
          refine lv_iload hx hb dX4_assign_145 (lv_at hl 4 rfl) ?_
          refine e_callVv (As := [.int (x1 + 1), .int x2, .int (x3 - 1), .int x4]) (rest := []) clE_stable hs ⟨hx, hb, hml, hown, hts⟩ (hR0 _ _ _ _ _ _ hw) (cwV 4 hts gX4_assign_X4_assign rfl rfl rfl (by decide +kernel) ⟨by show 3 + d + 1 ≤ 3 + (d + 1); omega, by show 8 + (7 + 11) + (105 + d * 26) ≤ 105 + (d + 1) * 26; omega⟩) (va_recv hK hP (ci := 4) (q0 := 11) rfl rfl) hK hP hD hS hA rfl hl.1 rfl (Nat.le_of_ble_eq_true rfl) dX4_assign_147 ⟨Nat.zero_le _, Nat.zero_le _⟩ (fun S_7 H locs hw hP hD hS => ?_)
          exact W.vret hx hb hr (fun t ht hW => ⟨⟨S_7, rfl, hw, by rw [ht]; exact hP, va_K.moved hW.alike hK, hD⟩, hS.F ht⟩) hS.2.2 dX4_assign_150
      · have hw := hc_3f c_3
        clear hc_3t hc_3f
        refine lv_iload_n hx hb dX4_assign_61 rfl (lv_at hl 2 rfl) ?_
        refine lv_iload hx hb dX4_assign_62 (lv_at hl 5 rfl) ?_
        refine k_ishr hx hb dX4_assign_64 ?_
        refine lv_iconst (v := 1) hx hb dX4_assign_65 (by decide) ?_
        refine lv_iand hx hb dX4_assign_66 ?_
        obtain ⟨hc_8t, hc_8f⟩ := hw
        refine lv_if_ne (tgt := 118) hx hb dX4_assign_67 (by decide) (fun c_8 => ?_) (fun c_8 => ?_)
        · have hw := hc_8f c_8
          clear hc_8t hc_8f
          refine lv_iinc (v := x5 + 1) (lv' := [(5, .int (x5 + 1)), (0, .ref (h 11)), (1, .int x1), (2, .int x2), (3, .int x3), (4, .int x4)]) hx hb dX4_assign_118 hl (k := 5) rfl (k_inc (by decide)) (by decide) rfl (fun ls hl => ?_)
          refine lv_goto (tgt := 49) hx hb dX4_assign_121 (by decide) ?_
          exact ih_49 x1 x2 x3 x4 (x5 + 1) S_2 _ _ _ hw hP hD hS (lv_sub hl [1, 2, 3, 4, 5, 0] rfl)
        · have hw := hc_8t c_8
          clear hc_8t hc_8f
          refine lv_aload_n hx hb dX4_assign_70 rfl (lv_at hl 0 rfl) ?_
          refine va_get (D := D) (ci := 4) (v := .ref (h 47)) (C := RX4) (T := TX4) (N := 4) hx hb hts hin4 hown hK hP 11 rfl rfl 3 (by decide) w19 (fun _ h9 => h9) rfl dX4_assign_71 ?_
          refine lv_iload_n hx hb dX4_assign_74 rfl (lv_at hl 1 rfl) ?_
          refine lv_iload hx hb dX4_assign_75 (lv_at hl 5 rfl) ?_
          refine e_callNv (As := [.ref (h 47), .int x1, .int x5]) (rest := []) clE_stable hs ⟨hx, hb, hml, hown, hts⟩ (cA_put l D clE (tyC cy) (wC h cy) cx_t_goes cx_set_t_goes S_2 47 35 _ _ 5 rfl (wCs_t_goes h cy S_2) rfl (by decide) _ _ (fun S0 => S0 = (cx_set_t_goes S_2 (k_put 5 (cx_t_goes S_2) x1 x5))) rfl) ⟨va_cnB 3 hts gX4_assign_X11_put_n49 rfl rfl rfl hs.1.2.2.2.2.2.2.2.2.2.2.2.2.2.2.2.2.2.2.2.2.2.2.2.2.1 wiX11 (by decide +kernel) ⟨by show 0 + 1 ≤ 3 + (d + 1); omega, by show 8 + (3 + 11) + 0 ≤ 105 + (d + 1) * 26; omega⟩, wstput, trivial⟩ hK hP hD hS hA rfl hl.1 rfl (Nat.le_of_ble_eq_true rfl) dX4_assign_77 ⟨Nat.zero_le _, Nat.zero_le _⟩ (fun S_9 H locs eS_9 hP hD hS => ?_)
          replace hw := hw S_9 eS_9
          refine lv_aload_n hx hb dX4_assign_80 rfl (lv_at hl 0 rfl) ?_
          refine va_get (D := D) (ci := 4) (v := .ref (h 1)) (C := RX4) (T := TX4) (N := 4) hx hb hts hin4 hown hK hP 11 rfl rfl 2 (by decide) w22 (fun _ h9 => h9) rfl dX4_assign_81 ?_
          refine va_get (D := D) (ci := 0) (v := .ref (h 18)) (C := RX0) (T := TX0) (N := 16) hx hb hts hin0 hown hK hP 1 rfl rfl 9 (by decide) w53 (fun _ h9 => h9) rfl dX4_assign_84 ?_
          refine lv_iload_n hx hb dX4_assign_87 rfl (lv_at hl 1 rfl) ?_
          refine lv_bipush (v := 6) hx hb dX4_assign_88 (by decide) ?_
          refine lv_imul hx hb dX4_assign_90 ?_
          refine lv_iload hx hb dX4_assign_91 (lv_at hl 5 rfl) ?_
          refine lv_iadd hx hb dX4_assign_93 ?_
          refine e_callNi (As := [.ref (h 18), .int ((x1 * 6) + x5)]) (rest := []) clE_stable hs ⟨hx, hb, hml, hown, hts⟩ (cA_at l D clE (tyC cy) (wC h cy) S_9 18 6 _ _ 30 (cx_c_costs S_9) rfl rfl (by decide) _ (fun r S0 => r = k_at 30 (cx_c_costs S_9) ((x1 * 6) + x5) ∧ S_9 = S0) ⟨rfl, rfl⟩) ⟨va_cnB 2 hts gX4_assign_X11_at_n56 rfl rfl rfl hs.1.2.2.2.2.2.2.2.2.2.2.2.2.2.2.2.2.2.2.2.2.2.2.2.2.2.1 wiX11 (by decide +kernel) ⟨by show 0 + 1 ≤ 3 + (d + 1); omega, by show 8 + (2 + 11) + 0 ≤ 105 + (d + 1) * 26; omega⟩, wstat, trivial⟩ hK hP hD hS hA rfl hl.1 rfl (Nat.le_of_ble_eq_true rfl) dX4_assign_94 ⟨Nat.zero_le _, Nat.zero_le _⟩ (fun r_ S_ H locs hq hP hD hS => ?_)
          obtain ⟨rfl, rfl⟩ := hq
          refine lv_istore (lv' := [(6, .int (k_at 30 (cx_c_costs S_9) ((x1 * 6) + x5))), (0, .ref (h 11)), (1, .int x1), (2, .int x2), (3, .int x3), (4, .int x4), (5, .int x5)]) hx hb dX4_assign_97 hl (by decide) rfl (fun ls hl => ?_)
          refine lv_aload_n hx hb dX4_assign_99 rfl (lv_at hl 1 rfl) ?_
          refine lv_iload_n hx hb dX4_assign_100 rfl (lv_at hl 2 rfl) ?_
          refine lv_iconst (v := 1) hx hb dX4_assign_101 (by decide) ?_
          refine lv_iadd hx hb dX4_assign_102 ?_
          refine lv_iload_n hx hb dX4_assign_103 rfl (lv_at hl 3 rfl) ?_
          refine lv_iconst (v := 1) hx hb dX4_assign_104 (by decide) ?_
          refine lv_iload hx hb dX4_assign_105 (lv_at hl 6 rfl) ?_
          refine k_ishl hx hb dX4_assign_107 ?_
          refine lv_ior hx hb dX4_assign_108 ?_
          refine lv_iload_n hx hb dX4_assign_109 rfl (lv_at hl 4 rfl) ?_
          refine lv_iload hx hb dX4_assign_110 (lv_at hl 5 rfl) ?_
          refine lv_iload hx hb dX4_assign_112 (lv_at hl 0 rfl) ?_
          refine lv_iadd hx hb dX4_assign_114 ?_
          refine e_callVv (As := [.int (x1 + 1), .int (x2 ||| (k_shl 1 x5)), .int x3, .int (x4 + (k_at 30 (cx_c_costs S_9) ((x1 * 6) + x5)))]) (rest := []) clE_stable hs ⟨hx, hb, hml, hown, hts⟩ (hR0 _ _ _ _ _ _ hw) (cwV 4 hts gX4_assign_X4_assign rfl rfl rfl (by decide +kernel) ⟨by show 3 + d + 1 ≤ 3 + (d + 1); omega, by show 8 + (7 + 11) + (105 + d * 26) ≤ 105 + (d + 1) * 26; omega⟩) (va_recv hK hP (ci := 4) (q0 := 11) rfl rfl) hK hP hD hS hA rfl hl.1 rfl (Nat.le_of_ble_eq_true rfl) dX4_assign_115 ⟨Nat.zero_le _, Nat.zero_le _⟩ (fun S_11 H locs hw hP hD hS => ?_)
          refine lv_iinc (v := x5 + 1) (lv' := [(5, .int (x5 + 1)), (6, .int (k_at 30 (cx_c_costs S_9) ((x1 * 6) + x5))), (0, .ref (h 11)), (1, .int x1), (2, .int x2), (3, .int x3), (4, .int x4)]) hx hb dX4_assign_118 hl (k := 6) rfl (k_inc (by decide)) (by decide) rfl (fun ls hl => ?_)
          refine lv_goto (tgt := 49) hx hb dX4_assign_121 (by decide) ?_
          exact ih_49 x1 x2 x3 x4 (x5 + 1) S_11 _ _ _ hw hP hD hS (lv_sub hl [2, 3, 4, 5, 6, 0] rfl)
  have J_28 : ∀ (x4 : Int32) (S : CS) (H : Heap) (locs : List Loc) (ls : Array Slot), wC_X4_assign_28 Rc post x4 S → va_P D vwCl (wC h cy S) H → va_D A (wC h cy S) → va_S A s.heap H locs → lv_has ls 7 [(0, .ref (h 11)), (4, .int x4)] → W p l e (headSpec wsX4_assign { frames := 3 + (d + 1), cells := 0, slots := 0, locals := 105 + (d + 1) * 26 }).room s m (([.ref (h 11), .int p1, .int p2, .int p3, .int p4] : List Value).toArray) below meth c H locs 0 0 (MQ below (va_Qv post (k_Post D (tyC cy) (wC h cy) A) A) (([.ref (h 11), .int p1, .int p2, .int p3, .int p4] : List Value).toArray) s 0 0 A) (F0 m 28 ls []) := by
    intro x4 S H locs ls hw hP hD hS hl
    unfold wC_X4_assign_28 at hw
    refine lv_aload_n hx hb dX4_assign_28 rfl (lv_at hl 0 rfl) ?_
    refine lv_iload hx hb dX4_assign_29 (lv_at hl 1 rfl) ?_
    refine va_put (D := D) (ci := 4) (v := .int x4) (ty := .int) (C := RX4) (T := TX4) (N := 4) hx hb hts hin4 tyX4 tyX4_ok nmX4 hown hK hP hD hS 11 rfl rfl 0 (by decide) w9 (fun _ h9 => h9) rfl (tyX4_ok 0 (by decide)) rfl rfl (Nat.le_of_ble_eq_true rfl) dX4_assign_31 (fun H locs hP hD hS => ?_)
    obtain ⟨S_12, eS_12⟩ : ∃ z : CS, z = (cx_set_t_least S x4) := ⟨_, rfl⟩
    replace hw := hw S_12 eS_12
    have hP : va_P D vwCl (wC h cy S_12) H := by rw [eS_12, ← wCp_t_least]; exact hP
    have hD : va_D A (wC h cy S_12) := by rw [eS_12, ← wCp_t_least]; exact hD
    refine lv_aload_n hx hb dX4_assign_34 rfl (lv_at hl 0 rfl) ?_
    refine va_get (D := D) (ci := 4) (v := .ref (h 47)) (C := RX4) (T := TX4) (N := 4) hx hb hts hin4 hown hK hP 11 rfl rfl 3 (by decide) w19 (fun _ h9 => h9) rfl dX4_assign_35 ?_
    refine lv_aload_n hx hb dX4_assign_38 rfl (lv_at hl 0 rfl) ?_
    refine va_get (D := D) (ci := 4) (v := .ref (h 46)) (C := RX4) (T := TX4) (N := 4) hx hb hts hin4 hown hK hP 11 rfl rfl 1 (by decide) w15 (fun _ h9 => h9) rfl dX4_assign_39 ?_
    refine e_callNv (As := [.ref (h 47), .ref (h 46)]) (rest := []) clE_stable hs ⟨hx, hb, hml, hown, hts⟩ (cA_copyWhole l D clE clE_stable (tyC cy) (wC h cy) S_12 47 35 46 34 _ _ _ _ 5 5 cx_t_goes cx_t_best cx_set_t_best rfl rfl (wCs_t_best h cy S_12) rfl rfl (by decide) (by decide) (fun S0 => S0 = (cx_set_t_best S_12 (k_copyW 5 5 (cx_t_goes S_12) (cx_t_best S_12)))) rfl) ⟨va_cnB 2 hts gX4_assign_X11_copyWhole_n45 rfl rfl rfl hs.1.2.2.2.2.2.2.2.2.2.2.2.2.2.2.2.2.2.2.2.2.2.2.2.1 wiX11 (by decide +kernel) ⟨by show 2 + 1 ≤ 3 + (d + 1); omega, by show 8 + (2 + 11) + 84 ≤ 105 + (d + 1) * 26; omega⟩, wstcopyWhole, trivial⟩ hK hP hD hS hA rfl hl.1 rfl (Nat.le_of_ble_eq_true rfl) dX4_assign_42 ⟨Nat.zero_le _, Nat.zero_le _⟩ (fun S_13 H locs eS_13 hP hD hS => ?_)
    replace hw := hw S_13 eS_13
    exact W.vret hx hb hr (fun t ht hW => ⟨⟨S_13, rfl, hw, by rw [ht]; exact hP, va_K.moved hW.alike hK, hD⟩, hS.F ht⟩) hS.2.2 dX4_assign_45
  refine lv_iload_n hx hb dX4_assign_0 rfl (lv_at hl 1 rfl) ?_
  refine lv_aload_n hx hb dX4_assign_1 rfl (lv_at hl 0 rfl) ?_
  refine va_get (D := D) (ci := 4) (v := .ref (h 1)) (C := RX4) (T := TX4) (N := 4) hx hb hts hin4 hown hK hP 11 rfl rfl 2 (by decide) w22 (fun _ h9 => h9) rfl dX4_assign_2 ?_
  refine e_callVi (As := []) (rest := [.int p1]) clE_stable hs ⟨hx, hb, hml, hown, hts⟩ (cC_X0_clownCount l D h cy _ _ hw) (cwV 0 hts gX4_assign_X0_clownCount rfl rfl rfl (by decide +kernel) ⟨by show 1 + 1 ≤ 3 + (d + 1); omega, by show 8 + (1 + 11) + 21 ≤ 105 + (d + 1) * 26; omega⟩) (va_recv hK hP (ci := 0) (q0 := 1) rfl rfl) hK hP hD hS hA rfl hl.1 rfl (Nat.le_of_ble_eq_true rfl) dX4_assign_5 ⟨Nat.zero_le _, Nat.zero_le _⟩ (fun r_14 S_15 H locs hw hP hD hS => ?_)
  obtain ⟨hc_16t, hc_16f⟩ := hw
  refine lv_icmp_lt (tgt := 46) hx hb dX4_assign_8 (by decide) (fun c_16 => ?_) (fun c_16 => ?_)
  · have hw := hc_16t c_16
    clear hc_16t hc_16f
    refine lv_iconst (v := 0) hx hb dX4_assign_46 (by decide) ?_
    refine lv_istore (lv' := [(5, .int 0), (0, .ref (h 11)), (1, .int p1), (2, .int p2), (3, .int p3), (4, .int p4)]) hx hb dX4_assign_47 hl (by decide) rfl (fun ls hl => ?_)
    obtain ⟨n_49, hw⟩ := hw
    exact L_49 n_49 p1 p2 p3 p4 0 S_15 _ _ _ hw hP hD hS (lv_sub hl [1, 2, 3, 4, 5, 0] rfl)
  · have hw := hc_16f c_16
    clear hc_16t hc_16f
    refine lv_aload_n hx hb dX4_assign_11 rfl (lv_at hl 0 rfl) ?_
    refine va_get (D := D) (ci := 4) (v := .int (cx_t_least S_15)) (C := RX4) (T := TX4) (N := 4) hx hb hts hin4 hown hK hP 11 rfl rfl 0 (by decide) w9 (fun _ h9 => h9) rfl dX4_assign_12 ?_
    refine lv_iconst (v := (-1)) hx hb dX4_assign_15 (by decide) ?_
    obtain ⟨hc_17t, hc_17f⟩ := hw
    refine lv_icmp_eq (tgt := 28) hx hb dX4_assign_16 (by decide) (fun c_17 => ?_) (fun c_17 => ?_)
    · have hw := hc_17t c_17
      clear hc_17t hc_17f
      exact J_28 p4 S_15 _ _ _ hw hP hD hS (lv_sub hl [0, 4] rfl)
    · have hw := hc_17f c_17
      clear hc_17t hc_17f
      refine lv_iload hx hb dX4_assign_19 (lv_at hl 4 rfl) ?_
      refine lv_aload_n hx hb dX4_assign_21 rfl (lv_at hl 0 rfl) ?_
      refine va_get (D := D) (ci := 4) (v := .int (cx_t_least S_15)) (C := RX4) (T := TX4) (N := 4) hx hb hts hin4 hown hK hP 11 rfl rfl 0 (by decide) w9 (fun _ h9 => h9) rfl dX4_assign_22 ?_
      obtain ⟨hc_18t, hc_18f⟩ := hw
      refine lv_icmp_ge (tgt := 45) hx hb dX4_assign_25 (by decide) (fun c_18 => ?_) (fun c_18 => ?_)
      · have hw := hc_18t c_18
        clear hc_18t hc_18f
        exact W.vret hx hb hr (fun t ht hW => ⟨⟨S_15, rfl, hw, by rw [ht]; exact hP, va_K.moved hW.alike hK, hD⟩, hS.F ht⟩) hS.2.2 dX4_assign_45
      · have hw := hc_18f c_18
        clear hc_18t hc_18f
        exact J_28 p4 S_15 _ _ _ hw hP hD hS (lv_sub hl [0, 4] rfl)
def wD_X4_assign : Nat → Int32 → Int32 → Int32 → Int32 → CS → (CS → Prop) → Prop
  | 0, _, _, _, _, _, _ => False
  | d + 1, p1, p2, p3, p4, S, post => wB_X4_assign (wD_X4_assign d) p1 p2 p3 p4 S post
theorem cD_X4_assign (l : Launch) (D : va_G) (h : Nat → Nat) (cy : Nat → ClassId) (d : Nat) : ∀ (p1 : Int32) (p2 : Int32) (p3 : Int32) (p4 : Int32) (S : CS) (post : CS → Prop), wD_X4_assign d p1 p2 p3 p4 S post → e_Mv clE l yX4_assign wsX4_assign { frames := 3 + d, cells := 0, slots := 0, locals := 105 + d * 26 } D (tyC cy) (wC h cy) [.ref (h 11), .int p1, .int p2, .int p3, .int p4] S post := by
  induction d with
  | zero => intro p1 p2 p3 p4 S post hw; exact False.elim hw
  | succ d ih => intro p1 p2 p3 p4 S post hw; exact cB_X4_assign l D h cy d (wD_X4_assign d) ih p1 p2 p3 p4 S post hw
def wC_X4_assign (p1 : Int32) (p2 : Int32) (p3 : Int32) (p4 : Int32) (S : CS) (post : CS → Prop) : Prop := wD_X4_assign 8 p1 p2 p3 p4 S post
theorem cC_X4_assign (l : Launch) (D : va_G) (h : Nat → Nat) (cy : Nat → ClassId) (p1 : Int32) (p2 : Int32) (p3 : Int32) (p4 : Int32) (S : CS) (post : CS → Prop) (hw : wC_X4_assign p1 p2 p3 p4 S post) : e_Mv clE l yX4_assign wsX4_assign { frames := 11, cells := 0, slots := 0, locals := 313 } D (tyC cy) (wC h cy) [.ref (h 11), .int p1, .int p2, .int p3, .int p4] S post := cD_X4_assign l D h cy 8 p1 p2 p3 p4 S post hw
def wC_X4_find (S : CS) (post : CS → Prop) : Prop := (∀ S_1 : CS, S_1 = (cx_set_t_least S (-1)) → wC_X0_clownCount S_1 (fun r_2 S_3 => wC_X0_houseCount S_3 (fun r_4 S_5 => wC_X4_assign 0 0 (if (r_2 - r_4) < 0 then 0 else (r_2 - r_4)) 0 S_5 (fun S_7 => post S_7))))
set_option maxHeartbeats 4000000 in
set_option maxRecDepth 100000 in
theorem cC_X4_find (l : Launch) (D : va_G) (h : Nat → Nat) (cy : Nat → ClassId) (S : CS) (post : CS → Prop) (hw : wC_X4_find S post) : e_Mv clE l yX4_find wsX4_find { frames := 12, cells := 0, slots := 0, locals := 339 } D (tyC cy) (wC h cy) [.ref (h 11)] S post := by
  intro sz
  refine Met.ofW (cc := cX4_find) (maxL := 1) (ret := none) (by decide) rfl ?_
  intro p e s m args below meth c s₁ B hml hv
  obtain ⟨rfl, hsz, hP, hK, hD0, hs⟩ := hv
  have hx := B.exec
  have hb := B.bytes
  have hr := B.returns
  have hts := atoms_spec (ws := wsX4_find) B.pre
  have hown : s.vm.findClass RX4 = some m.cls := findClass_of_methodNamed B.named
  have hlocks := B.notSynchronized
  subst hsz
  have hD := hD0.self (sz := s.heap.size)
  generalize hAe : va_A (wC h cy S) s.heap.size = A at hD hs ⊢
  have hA : ∀ q : Nat, s.heap.size ≤ q → A q := fun q h => by rw [← hAe]; exact Or.inr h
  have hS : va_S A s.heap s.heap [] := va_S.rf
  have hin4 : ∀ w ∈ wsX40, w ∈ wsX4_find := fun _ h => List.mem_cons_of_mem _ (List.mem_append_left _ (List.mem_append_right _ h))
  have hin0 : ∀ w ∈ wsX00, w ∈ wsX4_find := fun _ h => List.mem_cons_of_mem _ (List.mem_append_right _ h)
  have w22 := hts (.fieldLink RX4 22 "ClownsMourn$Match" "city" "LClownsMourn$City;") (List.mem_of_getElem? (i := 2) rfl)
  have w9 := hts (.fieldLink RX4 9 "ClownsMourn$Match" "least" "I") (List.mem_of_getElem? (i := 1) rfl)
  have wm35 := hts (.methodLink RX4 35 Lib.Math.max.name) (List.mem_of_getElem? (i := 3) rfl)
  have wsmax := hts (.static Lib.Math.max.name) (List.mem_of_getElem? (i := 4) rfl)
  have wcdmax := hts (.code Lib.Math.max.name Lib.Math.max.code 2 (some .int)) (List.mem_of_getElem? (i := 6) rfl)
  have wiM := hts (.initialized "java/lang/Math") (List.mem_of_getElem? (i := 5) rfl)
  have hl := lv_entry ([.ref (h 11)]) (n := 1) (Nat.le_of_ble_eq_true rfl)
  rw [lg_entry_eq]
  generalize (lg_sl ([.ref (h 11)]) ++ List.replicate (1 - (lg_sl ([.ref (h 11)])).length) Slot.unset).toArray = ls at hl ⊢
  have hl : lv_has ls 1 [(0, .ref (h 11))] := hl
  unfold wC_X4_find at hw
  clear hD0
  refine lv_aload_n hx hb dX4_find_0 rfl (lv_at hl 0 rfl) ?_
  refine lv_iconst (v := (-1)) hx hb dX4_find_1 (by decide) ?_
  refine va_put (D := D) (ci := 4) (v := .int (-1)) (ty := .int) (C := RX4) (T := TX4) (N := 4) hx hb hts hin4 tyX4 tyX4_ok nmX4 hown hK hP hD hS 11 rfl rfl 0 (by decide) w9 (fun _ h9 => h9) rfl (tyX4_ok 0 (by decide)) rfl rfl (Nat.le_of_ble_eq_true rfl) dX4_find_2 (fun H locs hP hD hS => ?_)
  obtain ⟨S_1, eS_1⟩ : ∃ z : CS, z = (cx_set_t_least S (-1)) := ⟨_, rfl⟩
  replace hw := hw S_1 eS_1
  have hP : va_P D vwCl (wC h cy S_1) H := by rw [eS_1, ← wCp_t_least]; exact hP
  have hD : va_D A (wC h cy S_1) := by rw [eS_1, ← wCp_t_least]; exact hD
  refine lv_aload_n hx hb dX4_find_5 rfl (lv_at hl 0 rfl) ?_
  refine lv_iconst (v := 0) hx hb dX4_find_6 (by decide) ?_
  refine lv_iconst (v := 0) hx hb dX4_find_7 (by decide) ?_
  refine lv_aload_n hx hb dX4_find_8 rfl (lv_at hl 0 rfl) ?_
  refine va_get (D := D) (ci := 4) (v := .ref (h 1)) (C := RX4) (T := TX4) (N := 4) hx hb hts hin4 hown hK hP 11 rfl rfl 2 (by decide) w22 (fun _ h9 => h9) rfl dX4_find_9 ?_
  refine e_callVi (As := []) (rest := [.int 0, .int 0, .ref (h 11)]) clE_stable hs ⟨hx, hb, hml, hown, hts⟩ (cC_X0_clownCount l D h cy _ _ hw) (cwV 0 hts gX4_find_X0_clownCount rfl rfl rfl (by decide +kernel) ⟨Nat.le_of_ble_eq_true rfl, Nat.le_of_ble_eq_true rfl⟩) (va_recv hK hP (ci := 0) (q0 := 1) rfl rfl) hK hP hD hS hA rfl hl.1 rfl (Nat.le_of_ble_eq_true rfl) dX4_find_12 ⟨Nat.zero_le _, Nat.zero_le _⟩ (fun r_2 S_3 H locs hw hP hD hS => ?_)
  refine lv_aload_n hx hb dX4_find_15 rfl (lv_at hl 0 rfl) ?_
  refine va_get (D := D) (ci := 4) (v := .ref (h 1)) (C := RX4) (T := TX4) (N := 4) hx hb hts hin4 hown hK hP 11 rfl rfl 2 (by decide) w22 (fun _ h9 => h9) rfl dX4_find_16 ?_
  refine e_callVi (As := []) (rest := [.int r_2, .int 0, .int 0, .ref (h 11)]) clE_stable hs ⟨hx, hb, hml, hown, hts⟩ (cC_X0_houseCount l D h cy _ _ hw) (cwV 0 hts gX4_find_X0_houseCount rfl rfl rfl (by decide +kernel) ⟨Nat.le_of_ble_eq_true rfl, Nat.le_of_ble_eq_true rfl⟩) (va_recv hK hP (ci := 0) (q0 := 1) rfl rfl) hK hP hD hS hA rfl hl.1 rfl (Nat.le_of_ble_eq_true rfl) dX4_find_19 ⟨Nat.zero_le _, Nat.zero_le _⟩ (fun r_4 S_5 H locs hw hP hD hS => ?_)
  refine lv_isub hx hb dX4_find_22 ?_
  refine lv_iconst (v := 0) hx hb dX4_find_23 (by decide) ?_
  refine va_mmax (own := RX4) (index := 35) hx hb (hml.trans hl.1.symm) hown wm35 wsmax wiM wcdmax (Nat.le_of_ble_eq_true rfl) (Nat.le_of_ble_eq_true rfl) (Nat.zero_le _) (Nat.zero_le _) dX4_find_24 ?_
  refine lv_iconst (v := 0) hx hb dX4_find_27 (by decide) ?_
  refine e_callVv (As := [.int 0, .int 0, .int (if (r_2 - r_4) < 0 then 0 else (r_2 - r_4)), .int 0]) (rest := []) clE_stable hs ⟨hx, hb, hml, hown, hts⟩ (cC_X4_assign l D h cy _ _ _ _ _ _ hw) (cwV 4 hts gX4_find_X4_assign rfl rfl rfl (by decide +kernel) ⟨Nat.le_of_ble_eq_true rfl, Nat.le_of_ble_eq_true rfl⟩) (va_recv hK hP (ci := 4) (q0 := 11) rfl rfl) hK hP hD hS hA rfl hl.1 rfl (Nat.le_of_ble_eq_true rfl) dX4_find_28 ⟨Nat.zero_le _, Nat.zero_le _⟩ (fun S_7 H locs hw hP hD hS => ?_)
  exact W.vret hx hb hr (fun t ht hW => ⟨⟨S_7, rfl, hw, by rw [ht]; exact hP, va_K.moved hW.alike hK, hD⟩, hS.F ht⟩) hS.2.2 dX4_find_31
def wC_X11_matched_19 (post : Int32 → CS → Prop) (x1 : Int32) (S : CS) : Prop := wC_X4_find S (fun S_2 => ((x1 = (-1) → post (cx_t_least S_2) S_2) ∧ (¬ (x1 = (-1)) → post (k_at 5 (cx_t_best S_2) x1) S_2)))
def wC_X11_matched (p1 : Int32) (S : CS) (post : Int32 → CS → Prop) : Prop := ((p1 = (-1) → wC_X11_matched_19 post p1 S) ∧ (¬ (p1 = (-1)) → wC_X0_hasClown p1 S (fun r_2 S_3 => ((r_2 = 0 → post (-2) S_3) ∧ (¬ (r_2 = 0) → wC_X11_matched_19 post p1 S_3)))))
set_option maxHeartbeats 4000000 in
set_option maxRecDepth 100000 in
theorem cC_X11_matched (l : Launch) (D : va_G) (h : Nat → Nat) (cy : Nat → ClassId) (p1 : Int32) (S : CS) (post : Int32 → CS → Prop) (hw : wC_X11_matched p1 S post) : e_Mi clE l yX11_matched wsX11_matched { frames := 13, cells := 0, slots := 0, locals := 359 } D (tyC cy) (wC h cy) [.ref (h 0), .int p1] S post := by
  intro sz
  refine Met.ofW (cc := cX11_matched) (maxL := 2) (ret := (some .int)) (by decide) rfl ?_
  intro p e s m args below meth c s₁ B hml hv
  obtain ⟨rfl, hsz, hP, hK, hD0, hs⟩ := hv
  have hx := B.exec
  have hb := B.bytes
  have hr := B.returns
  have hts := atoms_spec (ws := wsX11_matched) B.pre
  have hown : s.vm.findClass RX11 = some m.cls := findClass_of_methodNamed B.named
  have hlocks := B.notSynchronized
  subst hsz
  have hD := hD0.self (sz := s.heap.size)
  generalize hAe : va_A (wC h cy S) s.heap.size = A at hD hs ⊢
  have hA : ∀ q : Nat, s.heap.size ≤ q → A q := fun q h => by rw [← hAe]; exact Or.inr h
  have hS : va_S A s.heap s.heap [] := va_S.rf
  have hin11 : ∀ w ∈ wsX110, w ∈ wsX11_matched := fun _ h => List.mem_cons_of_mem _ (List.mem_append_left _ (List.mem_append_left _ (List.mem_append_right _ h)))
  have hin4 : ∀ w ∈ wsX40, w ∈ wsX11_matched := fun _ h => List.mem_cons_of_mem _ (List.mem_append_left _ (List.mem_append_right _ h))
  have hin0 : ∀ w ∈ wsX00, w ∈ wsX11_matched := fun _ h => List.mem_cons_of_mem _ (List.mem_append_right _ h)
  have w10 := hts (.fieldLink RX11 10 "ClownsMourn" "city" "LClownsMourn$City;") (List.mem_of_getElem? (i := 1) rfl)
  have w280 := hts (.fieldLink RX11 280 "ClownsMourn$Match" "least" "I") (List.mem_of_getElem? (i := 3) rfl)
  have w283 := hts (.fieldLink RX11 283 "ClownsMourn$Match" "best" "[I") (List.mem_of_getElem? (i := 4) rfl)
  have w68 := hts (.fieldLink RX11 68 "ClownsMourn" "match" "LClownsMourn$Match;") (List.mem_of_getElem? (i := 2) rfl)
  have hl := lv_entry ([.ref (h 0), .int p1]) (n := 2) (Nat.le_of_ble_eq_true rfl)
  rw [lg_entry_eq]
  generalize (lg_sl ([.ref (h 0), .int p1]) ++ List.replicate (2 - (lg_sl ([.ref (h 0), .int p1])).length) Slot.unset).toArray = ls at hl ⊢
  have hl : lv_has ls 2 [(0, .ref (h 0)), (1, .int p1)] := hl
  unfold wC_X11_matched at hw
  clear hD0
  have J_19 : ∀ (x1 : Int32) (S : CS) (H : Heap) (locs : List Loc) (ls : Array Slot), wC_X11_matched_19 post x1 S → va_P D vwCl (wC h cy S) H → va_D A (wC h cy S) → va_S A s.heap H locs → lv_has ls 2 [(0, .ref (h 0)), (1, .int x1)] → W p l e (headSpec wsX11_matched { frames := 13, cells := 0, slots := 0, locals := 359 }).room s m (([.ref (h 0), .int p1] : List Value).toArray) below meth c H locs 0 0 (MQ below (va_Qi post (k_Post D (tyC cy) (wC h cy) A) A) (([.ref (h 0), .int p1] : List Value).toArray) s 0 0 A) (F0 m 19 ls []) := by
    intro x1 S H locs ls hw hP hD hS hl
    unfold wC_X11_matched_19 at hw
    refine lv_aload_n hx hb dX11_matched_19 rfl (lv_at hl 0 rfl) ?_
    refine va_get (D := D) (ci := 10) (v := .ref (h 11)) (C := RX11) (T := TX11) (N := 9) hx hb hts hin11 hown hK hP 0 rfl rfl 8 (by decide) w68 (fun _ h9 => h9) rfl dX11_matched_20 ?_
    refine e_callVv (As := []) (rest := []) clE_stable hs ⟨hx, hb, hml, hown, hts⟩ (cC_X4_find l D h cy _ _ hw) (cwV 0 hts gX11_matched_X4_find rfl rfl rfl (by decide +kernel) ⟨Nat.le_of_ble_eq_true rfl, Nat.le_of_ble_eq_true rfl⟩) (va_recv hK hP (ci := 4) (q0 := 11) rfl rfl) hK hP hD hS hA rfl hl.1 rfl (Nat.le_of_ble_eq_true rfl) dX11_matched_23 ⟨Nat.zero_le _, Nat.zero_le _⟩ (fun S_2 H locs hw hP hD hS => ?_)
    refine lv_iload_n hx hb dX11_matched_26 rfl (lv_at hl 1 rfl) ?_
    refine lv_iconst (v := (-1)) hx hb dX11_matched_27 (by decide) ?_
    obtain ⟨hc_3t, hc_3f⟩ := hw
    refine lv_icmp_ne (tgt := 41) hx hb dX11_matched_28 (by decide) (fun c_3 => ?_) (fun c_3 => ?_)
    · have hw := hc_3f c_3
      clear hc_3t hc_3f
      refine lv_aload_n hx hb dX11_matched_41 rfl (lv_at hl 0 rfl) ?_
      refine va_get (D := D) (ci := 10) (v := .ref (h 11)) (C := RX11) (T := TX11) (N := 9) hx hb hts hin11 hown hK hP 0 rfl rfl 8 (by decide) w68 (fun _ h9 => h9) rfl dX11_matched_42 ?_
      refine va_get (D := D) (ci := 4) (v := .ref (h 46)) (C := RX4) (T := TX4) (N := 4) hx hb hts hin4 hown hK hP 11 rfl rfl 1 (by decide) w283 (fun _ h9 => h9) rfl dX11_matched_45 ?_
      refine lv_iload_n hx hb dX11_matched_48 rfl (lv_at hl 1 rfl) ?_
      refine e_callSi (As := [.ref (h 46), .int x1]) (rest := []) clE_stable hs ⟨hx, hb, hml, hown, hts⟩ (cA_at l D clE (tyC cy) (wC h cy) S_2 46 34 _ _ 5 (cx_t_best S_2) rfl rfl (by decide) _ (fun r S0 => r = k_at 5 (cx_t_best S_2) x1 ∧ S_2 = S0) ⟨rfl, rfl⟩) (va_cwS 2 hts gX11_matched_X11_at rfl rfl rfl (by decide +kernel) ⟨Nat.le_of_ble_eq_true rfl, Nat.le_of_ble_eq_true rfl⟩) hK hP hD hS hA rfl hl.1 rfl (Nat.le_of_ble_eq_true rfl) dX11_matched_49 ⟨Nat.zero_le _, Nat.zero_le _⟩ (fun r_ S_ H locs hq hP hD hS => ?_)
      obtain ⟨rfl, rfl⟩ := hq
      exact W.iret (v := k_at 5 (cx_t_best S_2) x1) hx hb hr (fun t ht hW => ⟨⟨k_at 5 (cx_t_best S_2) x1, S_2, rfl, hw, by rw [ht]; exact hP, va_K.moved hW.alike hK, hD⟩, hS.F ht⟩) hS.2.2 dX11_matched_52
    · have hw := hc_3t c_3
      clear hc_3t hc_3f
      refine lv_aload_n hx hb dX11_matched_31 rfl (lv_at hl 0 rfl) ?_
      refine va_get (D := D) (ci := 10) (v := .ref (h 11)) (C := RX11) (T := TX11) (N := 9) hx hb hts hin11 hown hK hP 0 rfl rfl 8 (by decide) w68 (fun _ h9 => h9) rfl dX11_matched_32 ?_
      refine va_get (D := D) (ci := 4) (v := .int (cx_t_least S_2)) (C := RX4) (T := TX4) (N := 4) hx hb hts hin4 hown hK hP 11 rfl rfl 0 (by decide) w280 (fun _ h9 => h9) rfl dX11_matched_35 ?_
      refine lv_goto (tgt := 52) hx hb dX11_matched_38 (by decide) ?_
      exact W.iret (v := (cx_t_least S_2)) hx hb hr (fun t ht hW => ⟨⟨(cx_t_least S_2), S_2, rfl, hw, by rw [ht]; exact hP, va_K.moved hW.alike hK, hD⟩, hS.F ht⟩) hS.2.2 dX11_matched_52
  refine lv_iload_n hx hb dX11_matched_0 rfl (lv_at hl 1 rfl) ?_
  refine lv_iconst (v := (-1)) hx hb dX11_matched_1 (by decide) ?_
  obtain ⟨hc_4t, hc_4f⟩ := hw
  refine lv_icmp_eq (tgt := 19) hx hb dX11_matched_2 (by decide) (fun c_4 => ?_) (fun c_4 => ?_)
  · have hw := hc_4t c_4
    clear hc_4t hc_4f
    exact J_19 p1 S _ _ _ hw hP hD hS (lv_sub hl [0, 1] rfl)
  · have hw := hc_4f c_4
    clear hc_4t hc_4f
    refine lv_aload_n hx hb dX11_matched_5 rfl (lv_at hl 0 rfl) ?_
    refine va_get (D := D) (ci := 10) (v := .ref (h 1)) (C := RX11) (T := TX11) (N := 9) hx hb hts hin11 hown hK hP 0 rfl rfl 0 (by decide) w10 (fun _ h9 => h9) rfl dX11_matched_6 ?_
    refine lv_iload_n hx hb dX11_matched_9 rfl (lv_at hl 1 rfl) ?_
    refine e_callVi (As := [.int p1]) (rest := []) clE_stable hs ⟨hx, hb, hml, hown, hts⟩ (cC_X0_hasClown l D h cy _ _ _ hw) (cwV 1 hts gX11_matched_X0_hasClown rfl rfl rfl (by decide +kernel) ⟨Nat.le_of_ble_eq_true rfl, Nat.le_of_ble_eq_true rfl⟩) (va_recv hK hP (ci := 0) (q0 := 1) rfl rfl) hK hP hD hS hA rfl hl.1 rfl (Nat.le_of_ble_eq_true rfl) dX11_matched_10 ⟨Nat.zero_le _, Nat.zero_le _⟩ (fun r_5 S_6 H locs hw hP hD hS => ?_)
    obtain ⟨hc_7t, hc_7f⟩ := hw
    refine lv_if_ne (tgt := 19) hx hb dX11_matched_13 (by decide) (fun c_7 => ?_) (fun c_7 => ?_)
    · have hw := hc_7f c_7
      clear hc_7t hc_7f
      exact J_19 p1 S_6 _ _ _ hw hP hD hS (lv_sub hl [0, 1] rfl)
    · have hw := hc_7t c_7
      clear hc_7t hc_7f
      refine lv_bipush (v := (-2)) hx hb dX11_matched_16 (by decide) ?_
      exact W.iret (v := (-2)) hx hb hr (fun t ht hW => ⟨⟨(-2), S_6, rfl, hw, by rw [ht]; exact hP, va_K.moved hW.alike hK, hD⟩, hS.F ht⟩) hS.2.2 dX11_matched_18
def wC_X11_bore_66 (post : Int32 → CS → Prop) (t1 : Int32) (t2 : Int32) (t3 : Int32) (S : CS) : Prop := (∀ S_1 : CS, S_1 = (cx_set_c_trials S (k_put 8 (cx_c_trials S) t1 (t2 + t3))) → (∀ S_2 : CS, S_2 = (cx_set_c_trialCount S_1 ((cx_c_trialCount S_1) + 1)) → post (cx_c_trialCount S_2) S_2))
def wC_X11_bore (p1 : Int32) (p2 : Int32) (S : CS) (post : Int32 → CS → Prop) : Prop := ((p1 = (-1) → (∀ S_7 : CS, S_7 = (cx_set_c_trialCount S 0) → post 0 S_7)) ∧ (¬ (p1 = (-1)) → wC_X11_within p1 0 99 S (fun r_2 S_3 => ((r_2 = 0 → post (-2) S_3) ∧ (¬ (r_2 = 0) → (((cx_c_trialCount S_3) < 8 → ((p2 = 0 → wC_X11_bore_66 post (cx_c_trialCount S_3) (p1 * 2) 0 S_3) ∧ (¬ (p2 = 0) → wC_X11_bore_66 post (cx_c_trialCount S_3) (p1 * 2) 1 S_3))) ∧ (¬ ((cx_c_trialCount S_3) < 8) → post (-2) S_3)))))))
set_option maxHeartbeats 4000000 in
set_option maxRecDepth 100000 in
theorem cC_X11_bore (l : Launch) (D : va_G) (h : Nat → Nat) (cy : Nat → ClassId) (p1 : Int32) (p2 : Int32) (S : CS) (post : Int32 → CS → Prop) (hw : wC_X11_bore p1 p2 S post) : e_Mi clE l yX11_bore wsX11_bore { frames := 1, cells := 0, slots := 0, locals := 22 } D (tyC cy) (wC h cy) [.ref (h 0), .int p1, .int p2] S post := by
  intro sz
  refine Met.ofW (cc := cX11_bore) (maxL := 3) (ret := (some .int)) (by decide) rfl ?_
  intro p e s m args below meth c s₁ B hml hv
  obtain ⟨rfl, hsz, hP, hK, hD0, hs⟩ := hv
  have hx := B.exec
  have hb := B.bytes
  have hr := B.returns
  have hts := atoms_spec (ws := wsX11_bore) B.pre
  have hown : s.vm.findClass RX11 = some m.cls := findClass_of_methodNamed B.named
  have hlocks := B.notSynchronized
  subst hsz
  have hD := hD0.self (sz := s.heap.size)
  generalize hAe : va_A (wC h cy S) s.heap.size = A at hD hs ⊢
  have hA : ∀ q : Nat, s.heap.size ≤ q → A q := fun q h => by rw [← hAe]; exact Or.inr h
  have hS : va_S A s.heap s.heap [] := va_S.rf
  have hin11 : ∀ w ∈ wsX110, w ∈ wsX11_bore := fun _ h => List.mem_cons_of_mem _ (List.mem_append_left _ (List.mem_append_right _ h))
  have hin0 : ∀ w ∈ wsX00, w ∈ wsX11_bore := fun _ h => List.mem_cons_of_mem _ (List.mem_append_right _ h)
  have w10 := hts (.fieldLink RX11 10 "ClownsMourn" "city" "LClownsMourn$City;") (List.mem_of_getElem? (i := 1) rfl)
  have w286 := hts (.fieldLink RX11 286 "ClownsMourn$City" "trialCount" "I") (List.mem_of_getElem? (i := 2) rfl)
  have w289 := hts (.fieldLink RX11 289 "ClownsMourn$City" "trials" "[I") (List.mem_of_getElem? (i := 3) rfl)
  have hl := lv_entry ([.ref (h 0), .int p1, .int p2]) (n := 3) (Nat.le_of_ble_eq_true rfl)
  rw [lg_entry_eq]
  generalize (lg_sl ([.ref (h 0), .int p1, .int p2]) ++ List.replicate (3 - (lg_sl ([.ref (h 0), .int p1, .int p2])).length) Slot.unset).toArray = ls at hl ⊢
  have hl : lv_has ls 3 [(0, .ref (h 0)), (1, .int p1), (2, .int p2)] := hl
  unfold wC_X11_bore at hw
  clear hD0
  have J_66 : ∀ (t1 : Int32) (t2 : Int32) (t3 : Int32) (S : CS) (H : Heap) (locs : List Loc) (ls : Array Slot), wC_X11_bore_66 post t1 t2 t3 S → va_P D vwCl (wC h cy S) H → va_D A (wC h cy S) → va_S A s.heap H locs → lv_has ls 3 [(0, .ref (h 0))] → W p l e (headSpec wsX11_bore { frames := 1, cells := 0, slots := 0, locals := 22 }).room s m (([.ref (h 0), .int p1, .int p2] : List Value).toArray) below meth c H locs 0 0 (MQ below (va_Qi post (k_Post D (tyC cy) (wC h cy) A) A) (([.ref (h 0), .int p1, .int p2] : List Value).toArray) s 0 0 A) (F0 m 66 ls [.int t3, .int t2, .int t1, .ref (h 19)]) := by
    intro t1 t2 t3 S H locs ls hw hP hD hS hl
    unfold wC_X11_bore_66 at hw
    refine lv_iadd hx hb dX11_bore_66 ?_
    refine e_callSv (As := [.ref (h 19), .int t1, .int (t2 + t3)]) (rest := []) clE_stable hs ⟨hx, hb, hml, hown, hts⟩ (cA_put l D clE (tyC cy) (wC h cy) cx_c_trials cx_set_c_trials S 19 7 _ _ 8 rfl (wCs_c_trials h cy S) rfl (by decide) _ _ (fun S0 => S0 = (cx_set_c_trials S (k_put 8 (cx_c_trials S) t1 (t2 + t3)))) rfl) (va_cwS 3 hts gX11_bore_X11_put rfl rfl rfl (by decide +kernel) ⟨Nat.le_of_ble_eq_true rfl, Nat.le_of_ble_eq_true rfl⟩) hK hP hD hS hA rfl hl.1 rfl (Nat.le_of_ble_eq_true rfl) dX11_bore_67 ⟨Nat.zero_le _, Nat.zero_le _⟩ (fun S_1 H locs eS_1 hP hD hS => ?_)
    replace hw := hw S_1 eS_1
    refine lv_aload_n hx hb dX11_bore_70 rfl (lv_at hl 0 rfl) ?_
    refine va_get (D := D) (ci := 10) (v := .ref (h 1)) (C := RX11) (T := TX11) (N := 9) hx hb hts hin11 hown hK hP 0 rfl rfl 0 (by decide) w10 (fun _ h9 => h9) rfl dX11_bore_71 ?_
    refine lv_dup hx hb dX11_bore_74 rfl ?_
    refine va_get (D := D) (ci := 0) (v := .int (cx_c_trialCount S_1)) (C := RX0) (T := TX0) (N := 16) hx hb hts hin0 hown hK hP 1 rfl rfl 11 (by decide) w286 (fun _ h9 => h9) rfl dX11_bore_75 ?_
    refine lv_iconst (v := 1) hx hb dX11_bore_78 (by decide) ?_
    refine lv_iadd hx hb dX11_bore_79 ?_
    refine va_put (D := D) (ci := 0) (v := .int ((cx_c_trialCount S_1) + 1)) (ty := .int) (C := RX0) (T := TX0) (N := 16) hx hb hts hin0 tyX0 tyX0_ok nmX0 hown hK hP hD hS 1 rfl rfl 11 (by decide) w286 (fun _ h9 => h9) rfl (tyX0_ok 11 (by decide)) rfl rfl (Nat.le_of_ble_eq_true rfl) dX11_bore_80 (fun H locs hP hD hS => ?_)
    obtain ⟨S_2, eS_2⟩ : ∃ z : CS, z = (cx_set_c_trialCount S_1 ((cx_c_trialCount S_1) + 1)) := ⟨_, rfl⟩
    replace hw := hw S_2 eS_2
    have hP : va_P D vwCl (wC h cy S_2) H := by rw [eS_2, ← wCp_c_trialCount]; exact hP
    have hD : va_D A (wC h cy S_2) := by rw [eS_2, ← wCp_c_trialCount]; exact hD
    refine lv_aload_n hx hb dX11_bore_83 rfl (lv_at hl 0 rfl) ?_
    refine va_get (D := D) (ci := 10) (v := .ref (h 1)) (C := RX11) (T := TX11) (N := 9) hx hb hts hin11 hown hK hP 0 rfl rfl 0 (by decide) w10 (fun _ h9 => h9) rfl dX11_bore_84 ?_
    refine va_get (D := D) (ci := 0) (v := .int (cx_c_trialCount S_2)) (C := RX0) (T := TX0) (N := 16) hx hb hts hin0 hown hK hP 1 rfl rfl 11 (by decide) w286 (fun _ h9 => h9) rfl dX11_bore_87 ?_
    exact W.iret (v := (cx_c_trialCount S_2)) hx hb hr (fun t ht hW => ⟨⟨(cx_c_trialCount S_2), S_2, rfl, hw, by rw [ht]; exact hP, va_K.moved hW.alike hK, hD⟩, hS.F ht⟩) hS.2.2 dX11_bore_90
  refine lv_iload_n hx hb dX11_bore_0 rfl (lv_at hl 1 rfl) ?_
  refine lv_iconst (v := (-1)) hx hb dX11_bore_1 (by decide) ?_
  obtain ⟨hc_3t, hc_3f⟩ := hw
  refine lv_icmp_ne (tgt := 15) hx hb dX11_bore_2 (by decide) (fun c_3 => ?_) (fun c_3 => ?_)
  · have hw := hc_3f c_3
    clear hc_3t hc_3f
    refine lv_iload_n hx hb dX11_bore_15 rfl (lv_at hl 1 rfl) ?_
    refine lv_iconst (v := 0) hx hb dX11_bore_16 (by decide) ?_
    refine lv_bipush (v := 99) hx hb dX11_bore_17 (by decide) ?_
    refine e_callSi (As := [.int p1, .int 0, .int 99]) (rest := []) clE_stable hs ⟨hx, hb, hml, hown, hts⟩ (cC_X11_within l D h cy _ _ _ _ _ hw) (va_cwS 3 hts gX11_bore_X11_within rfl rfl rfl (by decide +kernel) ⟨Nat.le_of_ble_eq_true rfl, Nat.le_of_ble_eq_true rfl⟩) hK hP hD hS hA rfl hl.1 rfl (Nat.le_of_ble_eq_true rfl) dX11_bore_19 ⟨Nat.zero_le _, Nat.zero_le _⟩ (fun r_4 S_5 H locs hw hP hD hS => ?_)
    obtain ⟨hc_6t, hc_6f⟩ := hw
    refine lv_if_eq (tgt := 37) hx hb dX11_bore_22 (by decide) (fun c_6 => ?_) (fun c_6 => ?_)
    · have hw := hc_6t c_6
      clear hc_6t hc_6f
      refine lv_bipush (v := (-2)) hx hb dX11_bore_37 (by decide) ?_
      exact W.iret (v := (-2)) hx hb hr (fun t ht hW => ⟨⟨(-2), S_5, rfl, hw, by rw [ht]; exact hP, va_K.moved hW.alike hK, hD⟩, hS.F ht⟩) hS.2.2 dX11_bore_39
    · have hw := hc_6f c_6
      clear hc_6t hc_6f
      refine lv_aload_n hx hb dX11_bore_25 rfl (lv_at hl 0 rfl) ?_
      refine va_get (D := D) (ci := 10) (v := .ref (h 1)) (C := RX11) (T := TX11) (N := 9) hx hb hts hin11 hown hK hP 0 rfl rfl 0 (by decide) w10 (fun _ h9 => h9) rfl dX11_bore_26 ?_
      refine va_get (D := D) (ci := 0) (v := .int (cx_c_trialCount S_5)) (C := RX0) (T := TX0) (N := 16) hx hb hts hin0 hown hK hP 1 rfl rfl 11 (by decide) w286 (fun _ h9 => h9) rfl dX11_bore_29 ?_
      refine lv_bipush (v := 8) hx hb dX11_bore_32 (by decide) ?_
      obtain ⟨hc_7t, hc_7f⟩ := hw
      refine lv_icmp_lt (tgt := 40) hx hb dX11_bore_34 (by decide) (fun c_7 => ?_) (fun c_7 => ?_)
      · have hw := hc_7t c_7
        clear hc_7t hc_7f
        refine lv_aload_n hx hb dX11_bore_40 rfl (lv_at hl 0 rfl) ?_
        refine va_get (D := D) (ci := 10) (v := .ref (h 1)) (C := RX11) (T := TX11) (N := 9) hx hb hts hin11 hown hK hP 0 rfl rfl 0 (by decide) w10 (fun _ h9 => h9) rfl dX11_bore_41 ?_
        refine va_get (D := D) (ci := 0) (v := .ref (h 19)) (C := RX0) (T := TX0) (N := 16) hx hb hts hin0 hown hK hP 1 rfl rfl 10 (by decide) w289 (fun _ h9 => h9) rfl dX11_bore_44 ?_
        refine lv_aload_n hx hb dX11_bore_47 rfl (lv_at hl 0 rfl) ?_
        refine va_get (D := D) (ci := 10) (v := .ref (h 1)) (C := RX11) (T := TX11) (N := 9) hx hb hts hin11 hown hK hP 0 rfl rfl 0 (by decide) w10 (fun _ h9 => h9) rfl dX11_bore_48 ?_
        refine va_get (D := D) (ci := 0) (v := .int (cx_c_trialCount S_5)) (C := RX0) (T := TX0) (N := 16) hx hb hts hin0 hown hK hP 1 rfl rfl 11 (by decide) w286 (fun _ h9 => h9) rfl dX11_bore_51 ?_
        refine lv_iload_n hx hb dX11_bore_54 rfl (lv_at hl 1 rfl) ?_
        refine lv_iconst (v := 2) hx hb dX11_bore_55 (by decide) ?_
        refine lv_imul hx hb dX11_bore_56 ?_
        refine lv_iload_n hx hb dX11_bore_57 rfl (lv_at hl 2 rfl) ?_
        obtain ⟨hc_8t, hc_8f⟩ := hw
        refine lv_if_eq (tgt := 65) hx hb dX11_bore_58 (by decide) (fun c_8 => ?_) (fun c_8 => ?_)
        · have hw := hc_8t c_8
          clear hc_8t hc_8f
          refine lv_iconst (v := 0) hx hb dX11_bore_65 (by decide) ?_
          exact J_66 (cx_c_trialCount S_5) (p1 * 2) 0 S_5 _ _ _ hw hP hD hS (lv_sub hl [0] rfl)
        · have hw := hc_8f c_8
          clear hc_8t hc_8f
          refine lv_iconst (v := 1) hx hb dX11_bore_61 (by decide) ?_
          refine lv_goto (tgt := 66) hx hb dX11_bore_62 (by decide) ?_
          exact J_66 (cx_c_trialCount S_5) (p1 * 2) 1 S_5 _ _ _ hw hP hD hS (lv_sub hl [0] rfl)
      · have hw := hc_7f c_7
        clear hc_7t hc_7f
        refine lv_bipush (v := (-2)) hx hb dX11_bore_37 (by decide) ?_
        exact W.iret (v := (-2)) hx hb hr (fun t ht hW => ⟨⟨(-2), S_5, rfl, hw, by rw [ht]; exact hP, va_K.moved hW.alike hK, hD⟩, hS.F ht⟩) hS.2.2 dX11_bore_39
  · have hw := hc_3t c_3
    clear hc_3t hc_3f
    refine lv_aload_n hx hb dX11_bore_5 rfl (lv_at hl 0 rfl) ?_
    refine va_get (D := D) (ci := 10) (v := .ref (h 1)) (C := RX11) (T := TX11) (N := 9) hx hb hts hin11 hown hK hP 0 rfl rfl 0 (by decide) w10 (fun _ h9 => h9) rfl dX11_bore_6 ?_
    refine lv_iconst (v := 0) hx hb dX11_bore_9 (by decide) ?_
    refine va_put (D := D) (ci := 0) (v := .int 0) (ty := .int) (C := RX0) (T := TX0) (N := 16) hx hb hts hin0 tyX0 tyX0_ok nmX0 hown hK hP hD hS 1 rfl rfl 11 (by decide) w286 (fun _ h9 => h9) rfl (tyX0_ok 11 (by decide)) rfl rfl (Nat.le_of_ble_eq_true rfl) dX11_bore_10 (fun H locs hP hD hS => ?_)
    obtain ⟨S_9, eS_9⟩ : ∃ z : CS, z = (cx_set_c_trialCount S 0) := ⟨_, rfl⟩
    replace hw := hw S_9 eS_9
    have hP : va_P D vwCl (wC h cy S_9) H := by rw [eS_9, ← wCp_c_trialCount]; exact hP
    have hD : va_D A (wC h cy S_9) := by rw [eS_9, ← wCp_c_trialCount]; exact hD
    refine lv_iconst (v := 0) hx hb dX11_bore_13 (by decide) ?_
    exact W.iret (v := 0) hx hb hr (fun t ht hW => ⟨⟨0, S_9, rfl, hw, by rw [ht]; exact hP, va_K.moved hW.alike hK, hD⟩, hS.F ht⟩) hS.2.2 dX11_bore_14
def wC_X0_errorsAt_35 (post : Int32 → CS → Prop) (K4 : Int32 → Int32 → Int32 → CS → Prop) (x1 : Int32) (x2 : Int32) (x3 : Int32) (x4 : Int32) (t0 : Int32) (S : CS) : Prop := ((t0 = (k_rem x4 2) → K4 x1 (x2 + 0) (x3 + 1) S) ∧ (¬ (t0 = (k_rem x4 2)) → K4 x1 (x2 + 1) (x3 + 1) S))
def wC_X0_errorsAt_4 (post : Int32 → CS → Prop) : Nat → Int32 → Int32 → Int32 → CS → Prop
  | 0, _, _, _, _ => False
  | n + 1, x1, x2, x3, S => (((cx_c_trialCount S) ≤ x3 → post x2 S) ∧ (¬ ((cx_c_trialCount S) ≤ x3) → ((x1 ≤ ((k_at 8 (cx_c_trials S) x3) / 2) → wC_X0_errorsAt_35 post (wC_X0_errorsAt_4 post n) x1 x2 x3 (k_at 8 (cx_c_trials S) x3) 0 S) ∧ (¬ (x1 ≤ ((k_at 8 (cx_c_trials S) x3) / 2)) → wC_X0_errorsAt_35 post (wC_X0_errorsAt_4 post n) x1 x2 x3 (k_at 8 (cx_c_trials S) x3) 1 S))))
def wC_X0_errorsAt (p1 : Int32) (S : CS) (post : Int32 → CS → Prop) : Prop := ∃ k_ : Nat, wC_X0_errorsAt_4 post k_ p1 0 0 S
set_option maxHeartbeats 4000000 in
set_option maxRecDepth 100000 in
theorem cC_X0_errorsAt (l : Launch) (D : va_G) (h : Nat → Nat) (cy : Nat → ClassId) (p1 : Int32) (S : CS) (post : Int32 → CS → Prop) (hw : wC_X0_errorsAt p1 S post) : e_Mi clE l yX0_errorsAt wsX0_errorsAt { frames := 1, cells := 0, slots := 0, locals := 21 } D (tyC cy) (wC h cy) [.ref (h 1), .int p1] S post := by
  intro sz
  refine Met.ofW (cc := cX0_errorsAt) (maxL := 6) (ret := (some .int)) (by decide) rfl ?_
  intro p e s m args below meth c s₁ B hml hv
  obtain ⟨rfl, hsz, hP, hK, hD0, hs⟩ := hv
  have hx := B.exec
  have hb := B.bytes
  have hr := B.returns
  have hts := atoms_spec (ws := wsX0_errorsAt) B.pre
  have hown : s.vm.findClass RX0 = some m.cls := findClass_of_methodNamed B.named
  have hlocks := B.notSynchronized
  subst hsz
  have hD := hD0.self (sz := s.heap.size)
  generalize hAe : va_A (wC h cy S) s.heap.size = A at hD hs ⊢
  have hA : ∀ q : Nat, s.heap.size ≤ q → A q := fun q h => by rw [← hAe]; exact Or.inr h
  have hS : va_S A s.heap s.heap [] := va_S.rf
  have hin0 : ∀ w ∈ wsX00, w ∈ wsX0_errorsAt := fun _ h => List.mem_cons_of_mem _ (List.mem_append_right _ h)
  have w50 := hts (.fieldLink RX0 50 "ClownsMourn$City" "trials" "[I") (List.mem_of_getElem? (i := 2) rfl)
  have w53 := hts (.fieldLink RX0 53 "ClownsMourn$City" "trialCount" "I") (List.mem_of_getElem? (i := 1) rfl)
  have wiX11 := hts (.initialized RX11) (List.mem_of_getElem? (i := 4) rfl)
  have wstat := hts (.static yX11_at) (List.mem_of_getElem? (i := 3) rfl)
  have hl := lv_entry ([.ref (h 1), .int p1]) (n := 6) (Nat.le_of_ble_eq_true rfl)
  rw [lg_entry_eq]
  generalize (lg_sl ([.ref (h 1), .int p1]) ++ List.replicate (6 - (lg_sl ([.ref (h 1), .int p1])).length) Slot.unset).toArray = ls at hl ⊢
  have hl : lv_has ls 6 [(0, .ref (h 1)), (1, .int p1)] := hl
  unfold wC_X0_errorsAt at hw
  clear hD0
  have L_4 : ∀ (n4 : Nat) (x1 : Int32) (x2 : Int32) (x3 : Int32) (S : CS) (H : Heap) (locs : List Loc) (ls : Array Slot), wC_X0_errorsAt_4 post n4 x1 x2 x3 S → va_P D vwCl (wC h cy S) H → va_D A (wC h cy S) → va_S A s.heap H locs → lv_has ls 6 [(0, .ref (h 1)), (1, .int x1), (2, .int x2), (3, .int x3)] → W p l e (headSpec wsX0_errorsAt { frames := 1, cells := 0, slots := 0, locals := 21 }).room s m (([.ref (h 1), .int p1] : List Value).toArray) below meth c H locs 0 0 (MQ below (va_Qi post (k_Post D (tyC cy) (wC h cy) A) A) (([.ref (h 1), .int p1] : List Value).toArray) s 0 0 A) (F0 m 4 ls []) := by
    intro n4
    induction n4 with
    | zero => intro x1 x2 x3 S H locs ls hw; exact False.elim hw
    | succ n4 ih_4 =>
      have J_35 : ∀ (x1 : Int32) (x2 : Int32) (x3 : Int32) (x4 : Int32) (t0 : Int32) (S : CS) (H : Heap) (locs : List Loc) (ls : Array Slot), wC_X0_errorsAt_35 post (wC_X0_errorsAt_4 post n4) x1 x2 x3 x4 t0 S → va_P D vwCl (wC h cy S) H → va_D A (wC h cy S) → va_S A s.heap H locs → lv_has ls 6 [(0, .ref (h 1)), (1, .int x1), (2, .int x2), (3, .int x3), (4, .int x4)] → W p l e (headSpec wsX0_errorsAt { frames := 1, cells := 0, slots := 0, locals := 21 }).room s m (([.ref (h 1), .int p1] : List Value).toArray) below meth c H locs 0 0 (MQ below (va_Qi post (k_Post D (tyC cy) (wC h cy) A) A) (([.ref (h 1), .int p1] : List Value).toArray) s 0 0 A) (F0 m 35 ls [.int t0]) := by
        intro x1 x2 x3 x4 t0 S H locs ls hw hP hD hS hl
        unfold wC_X0_errorsAt_35 at hw
        refine lv_istore (lv' := [(5, .int t0), (0, .ref (h 1)), (1, .int x1), (2, .int x2), (3, .int x3), (4, .int x4)]) hx hb dX0_errorsAt_35 hl (by decide) rfl (fun ls hl => ?_)
        refine lv_iload_n hx hb dX0_errorsAt_37 rfl (lv_at hl 3 rfl) ?_
        refine lv_iload hx hb dX0_errorsAt_38 (lv_at hl 0 rfl) ?_
        refine lv_iload hx hb dX0_errorsAt_40 (lv_at hl 5 rfl) ?_
        refine lv_iconst (v := 2) hx hb dX0_errorsAt_42 (by decide) ?_
        refine k_irem hx hb dX0_errorsAt_43 (by decide) ?_
        obtain ⟨hc_1t, hc_1f⟩ := hw
        refine lv_icmp_ne (tgt := 51) hx hb dX0_errorsAt_44 (by decide) (fun c_1 => ?_) (fun c_1 => ?_)
        · have hw := hc_1f c_1
          clear hc_1t hc_1f
          refine lv_iconst (v := 1) hx hb dX0_errorsAt_51 (by decide) ?_
          refine lv_iadd hx hb dX0_errorsAt_52 ?_
          refine lv_istore_n (lv' := [(2, .int (x2 + 1)), (5, .int t0), (0, .ref (h 1)), (1, .int x1), (3, .int x3), (4, .int x4)]) hx hb dX0_errorsAt_53 rfl hl (by decide) rfl (fun ls hl => ?_)
          refine lv_iinc (v := x3 + 1) (lv' := [(3, .int (x3 + 1)), (2, .int (x2 + 1)), (5, .int t0), (0, .ref (h 1)), (1, .int x1), (4, .int x4)]) hx hb dX0_errorsAt_54 hl (k := 4) rfl (k_inc (by decide)) (by decide) rfl (fun ls hl => ?_)
          refine lv_goto (tgt := 4) hx hb dX0_errorsAt_57 (by decide) ?_
          exact ih_4 x1 (x2 + 1) (x3 + 1) S _ _ _ hw hP hD hS (lv_sub hl [3, 4, 1, 0] rfl)
        · have hw := hc_1t c_1
          clear hc_1t hc_1f
          refine lv_iconst (v := 0) hx hb dX0_errorsAt_47 (by decide) ?_
          refine lv_goto (tgt := 52) hx hb dX0_errorsAt_48 (by decide) ?_
          refine lv_iadd hx hb dX0_errorsAt_52 ?_
          refine lv_istore_n (lv' := [(2, .int (x2 + 0)), (5, .int t0), (0, .ref (h 1)), (1, .int x1), (3, .int x3), (4, .int x4)]) hx hb dX0_errorsAt_53 rfl hl (by decide) rfl (fun ls hl => ?_)
          refine lv_iinc (v := x3 + 1) (lv' := [(3, .int (x3 + 1)), (2, .int (x2 + 0)), (5, .int t0), (0, .ref (h 1)), (1, .int x1), (4, .int x4)]) hx hb dX0_errorsAt_54 hl (k := 4) rfl (k_inc (by decide)) (by decide) rfl (fun ls hl => ?_)
          refine lv_goto (tgt := 4) hx hb dX0_errorsAt_57 (by decide) ?_
          exact ih_4 x1 (x2 + 0) (x3 + 1) S _ _ _ hw hP hD hS (lv_sub hl [3, 4, 1, 0] rfl)
      intro x1 x2 x3 S H locs ls hw hP hD hS hl
      unfold wC_X0_errorsAt_4 at hw
      refine lv_iload_n hx hb dX0_errorsAt_4 rfl (lv_at hl 3 rfl) ?_
      refine lv_aload_n hx hb dX0_errorsAt_5 rfl (lv_at hl 0 rfl) ?_
      refine va_get (D := D) (ci := 0) (v := .int (cx_c_trialCount S)) (C := RX0) (T := TX0) (N := 16) hx hb hts hin0 hown hK hP 1 rfl rfl 11 (by decide) w53 (fun _ h9 => h9) rfl dX0_errorsAt_6 ?_
      obtain ⟨hc_2t, hc_2f⟩ := hw
      refine lv_icmp_ge (tgt := 60) hx hb dX0_errorsAt_9 (by decide) (fun c_2 => ?_) (fun c_2 => ?_)
      · have hw := hc_2t c_2
        clear hc_2t hc_2f
        refine lv_iload_n hx hb dX0_errorsAt_60 rfl (lv_at hl 2 rfl) ?_
        exact W.iret (v := x2) hx hb hr (fun t ht hW => ⟨⟨x2, S, rfl, hw, by rw [ht]; exact hP, va_K.moved hW.alike hK, hD⟩, hS.F ht⟩) hS.2.2 dX0_errorsAt_61
      · have hw := hc_2f c_2
        clear hc_2t hc_2f
        refine lv_aload_n hx hb dX0_errorsAt_12 rfl (lv_at hl 0 rfl) ?_
        refine va_get (D := D) (ci := 0) (v := .ref (h 19)) (C := RX0) (T := TX0) (N := 16) hx hb hts hin0 hown hK hP 1 rfl rfl 10 (by decide) w50 (fun _ h9 => h9) rfl dX0_errorsAt_13 ?_
        refine lv_iload_n hx hb dX0_errorsAt_16 rfl (lv_at hl 3 rfl) ?_
        refine e_callNi (As := [.ref (h 19), .int x3]) (rest := []) clE_stable hs ⟨hx, hb, hml, hown, hts⟩ (cA_at l D clE (tyC cy) (wC h cy) S 19 7 _ _ 8 (cx_c_trials S) rfl rfl (by decide) _ (fun r S0 => r = k_at 8 (cx_c_trials S) x3 ∧ S = S0) ⟨rfl, rfl⟩) ⟨va_cnB 2 hts gX0_errorsAt_X11_at_n86 rfl rfl rfl hs.1.2.2.2.2.2.2.1 wiX11 (by decide +kernel) ⟨Nat.le_of_ble_eq_true rfl, Nat.le_of_ble_eq_true rfl⟩, wstat, trivial⟩ hK hP hD hS hA rfl hl.1 rfl (Nat.le_of_ble_eq_true rfl) dX0_errorsAt_17 ⟨Nat.zero_le _, Nat.zero_le _⟩ (fun r_ S_ H locs hq hP hD hS => ?_)
        obtain ⟨rfl, rfl⟩ := hq
        refine lv_istore (lv' := [(4, .int (k_at 8 (cx_c_trials S) x3)), (0, .ref (h 1)), (1, .int x1), (2, .int x2), (3, .int x3)]) hx hb dX0_errorsAt_20 hl (by decide) rfl (fun ls hl => ?_)
        refine lv_iload hx hb dX0_errorsAt_22 (lv_at hl 0 rfl) ?_
        refine lv_iconst (v := 2) hx hb dX0_errorsAt_24 (by decide) ?_
        refine lv_idiv hx hb dX0_errorsAt_25 (by decide) ?_
        refine lv_iload_n hx hb dX0_errorsAt_26 rfl (lv_at hl 2 rfl) ?_
        obtain ⟨hc_3t, hc_3f⟩ := hw
        refine lv_icmp_ge (tgt := 34) hx hb dX0_errorsAt_27 (by decide) (fun c_3 => ?_) (fun c_3 => ?_)
        · have hw := hc_3t c_3
          clear hc_3t hc_3f
          refine lv_iconst (v := 0) hx hb dX0_errorsAt_34 (by decide) ?_
          exact J_35 x1 x2 x3 (k_at 8 (cx_c_trials S) x3) 0 S _ _ _ hw hP hD hS (lv_sub hl [1, 2, 3, 4, 0] rfl)
        · have hw := hc_3f c_3
          clear hc_3t hc_3f
          refine lv_iconst (v := 1) hx hb dX0_errorsAt_30 (by decide) ?_
          refine lv_goto (tgt := 35) hx hb dX0_errorsAt_31 (by decide) ?_
          exact J_35 x1 x2 x3 (k_at 8 (cx_c_trials S) x3) 1 S _ _ _ hw hP hD hS (lv_sub hl [1, 2, 3, 4, 0] rfl)
  refine lv_iconst (v := 0) hx hb dX0_errorsAt_0 (by decide) ?_
  refine lv_istore_n (lv' := [(2, .int 0), (0, .ref (h 1)), (1, .int p1)]) hx hb dX0_errorsAt_1 rfl hl (by decide) rfl (fun ls hl => ?_)
  refine lv_iconst (v := 0) hx hb dX0_errorsAt_2 (by decide) ?_
  refine lv_istore_n (lv' := [(3, .int 0), (2, .int 0), (0, .ref (h 1)), (1, .int p1)]) hx hb dX0_errorsAt_3 rfl hl (by decide) rfl (fun ls hl => ?_)
  obtain ⟨n_4, hw⟩ := hw
  exact L_4 n_4 p1 0 0 S _ _ _ hw hP hD hS (lv_sub hl [2, 3, 1, 0] rfl)
def wC_X0_leastErrors_8 (post : Int32 → CS → Prop) : Nat → Int32 → Int32 → CS → Prop
  | 0, _, _, _ => False
  | n + 1, x1, x2, S => ((100 < x2 → post x1 S) ∧ (¬ (100 < x2) → wC_X0_errorsAt x2 S (fun r_2 S_3 => wC_X0_leastErrors_8 post n (if r_2 < x1 then r_2 else x1) (x2 + 1) S_3)))
def wC_X0_leastErrors (S : CS) (post : Int32 → CS → Prop) : Prop := wC_X0_errorsAt 0 S (fun r_1 S_2 => ∃ k_ : Nat, wC_X0_leastErrors_8 post k_ r_1 1 S_2)
set_option maxHeartbeats 4000000 in
set_option maxRecDepth 100000 in
theorem cC_X0_leastErrors (l : Launch) (D : va_G) (h : Nat → Nat) (cy : Nat → ClassId) (S : CS) (post : Int32 → CS → Prop) (hw : wC_X0_leastErrors S post) : e_Mi clE l yX0_leastErrors wsX0_leastErrors { frames := 2, cells := 0, slots := 0, locals := 46 } D (tyC cy) (wC h cy) [.ref (h 1)] S post := by
  intro sz
  refine Met.ofW (cc := cX0_leastErrors) (maxL := 3) (ret := (some .int)) (by decide) rfl ?_
  intro p e s m args below meth c s₁ B hml hv
  obtain ⟨rfl, hsz, hP, hK, hD0, hs⟩ := hv
  have hx := B.exec
  have hb := B.bytes
  have hr := B.returns
  have hts := atoms_spec (ws := wsX0_leastErrors) B.pre
  have hown : s.vm.findClass RX0 = some m.cls := findClass_of_methodNamed B.named
  have hlocks := B.notSynchronized
  subst hsz
  have hD := hD0.self (sz := s.heap.size)
  generalize hAe : va_A (wC h cy S) s.heap.size = A at hD hs ⊢
  have hA : ∀ q : Nat, s.heap.size ≤ q → A q := fun q h => by rw [← hAe]; exact Or.inr h
  have hS : va_S A s.heap s.heap [] := va_S.rf
  have wm90 := hts (.methodLink RX0 90 Lib.Math.min.name) (List.mem_of_getElem? (i := 1) rfl)
  have wsmin := hts (.static Lib.Math.min.name) (List.mem_of_getElem? (i := 2) rfl)
  have wcdmin := hts (.code Lib.Math.min.name Lib.Math.min.code 2 (some .int)) (List.mem_of_getElem? (i := 4) rfl)
  have wiM := hts (.initialized "java/lang/Math") (List.mem_of_getElem? (i := 3) rfl)
  have hl := lv_entry ([.ref (h 1)]) (n := 3) (Nat.le_of_ble_eq_true rfl)
  rw [lg_entry_eq]
  generalize (lg_sl ([.ref (h 1)]) ++ List.replicate (3 - (lg_sl ([.ref (h 1)])).length) Slot.unset).toArray = ls at hl ⊢
  have hl : lv_has ls 3 [(0, .ref (h 1))] := hl
  unfold wC_X0_leastErrors at hw
  clear hD0
  have L_8 : ∀ (n8 : Nat) (x1 : Int32) (x2 : Int32) (S : CS) (H : Heap) (locs : List Loc) (ls : Array Slot), wC_X0_leastErrors_8 post n8 x1 x2 S → va_P D vwCl (wC h cy S) H → va_D A (wC h cy S) → va_S A s.heap H locs → lv_has ls 3 [(0, .ref (h 1)), (1, .int x1), (2, .int x2)] → W p l e (headSpec wsX0_leastErrors { frames := 2, cells := 0, slots := 0, locals := 46 }).room s m (([.ref (h 1)] : List Value).toArray) below meth c H locs 0 0 (MQ below (va_Qi post (k_Post D (tyC cy) (wC h cy) A) A) (([.ref (h 1)] : List Value).toArray) s 0 0 A) (F0 m 8 ls []) := by
    intro n8
    induction n8 with
    | zero => intro x1 x2 S H locs ls hw; exact False.elim hw
    | succ n8 ih_8 =>
      intro x1 x2 S H locs ls hw hP hD hS hl
      unfold wC_X0_leastErrors_8 at hw
      refine lv_iload_n hx hb dX0_leastErrors_8 rfl (lv_at hl 2 rfl) ?_
      refine lv_bipush (v := 100) hx hb dX0_leastErrors_9 (by decide) ?_
      obtain ⟨hc_1t, hc_1f⟩ := hw
      refine lv_icmp_gt (tgt := 30) hx hb dX0_leastErrors_11 (by decide) (fun c_1 => ?_) (fun c_1 => ?_)
      · have hw := hc_1t c_1
        clear hc_1t hc_1f
        refine lv_iload_n hx hb dX0_leastErrors_30 rfl (lv_at hl 1 rfl) ?_
        exact W.iret (v := x1) hx hb hr (fun t ht hW => ⟨⟨x1, S, rfl, hw, by rw [ht]; exact hP, va_K.moved hW.alike hK, hD⟩, hS.F ht⟩) hS.2.2 dX0_leastErrors_31
      · have hw := hc_1f c_1
        clear hc_1t hc_1f
        refine lv_iload_n hx hb dX0_leastErrors_14 rfl (lv_at hl 1 rfl) ?_
        refine lv_aload_n hx hb dX0_leastErrors_15 rfl (lv_at hl 0 rfl) ?_
        refine lv_iload_n hx hb dX0_leastErrors_16 rfl (lv_at hl 2 rfl) ?_
        refine e_callVi (As := [.int x2]) (rest := [.int x1]) clE_stable hs ⟨hx, hb, hml, hown, hts⟩ (cC_X0_errorsAt l D h cy _ _ _ hw) (cwV 1 hts gX0_leastErrors_X0_errorsAt rfl rfl rfl (by decide +kernel) ⟨Nat.le_of_ble_eq_true rfl, Nat.le_of_ble_eq_true rfl⟩) (va_recv hK hP (ci := 0) (q0 := 1) rfl rfl) hK hP hD hS hA rfl hl.1 rfl (Nat.le_of_ble_eq_true rfl) dX0_leastErrors_17 ⟨Nat.zero_le _, Nat.zero_le _⟩ (fun r_2 S_3 H locs hw hP hD hS => ?_)
        refine va_mmin (own := RX0) (index := 90) hx hb (hml.trans hl.1.symm) hown wm90 wsmin wiM wcdmin (Nat.le_of_ble_eq_true rfl) (Nat.le_of_ble_eq_true rfl) (Nat.zero_le _) (Nat.zero_le _) dX0_leastErrors_20 ?_
        refine lv_istore_n (lv' := [(1, .int (if r_2 < x1 then r_2 else x1)), (0, .ref (h 1)), (2, .int x2)]) hx hb dX0_leastErrors_23 rfl hl (by decide) rfl (fun ls hl => ?_)
        refine lv_iinc (v := x2 + 1) (lv' := [(2, .int (x2 + 1)), (1, .int (if r_2 < x1 then r_2 else x1)), (0, .ref (h 1))]) hx hb dX0_leastErrors_24 hl (k := 2) rfl (k_inc (by decide)) (by decide) rfl (fun ls hl => ?_)
        refine lv_goto (tgt := 8) hx hb dX0_leastErrors_27 (by decide) ?_
        exact ih_8 (if r_2 < x1 then r_2 else x1) (x2 + 1) S_3 _ _ _ hw hP hD hS (lv_sub hl [2, 1, 0] rfl)
  refine lv_aload_n hx hb dX0_leastErrors_0 rfl (lv_at hl 0 rfl) ?_
  refine lv_iconst (v := 0) hx hb dX0_leastErrors_1 (by decide) ?_
  refine e_callVi (As := [.int 0]) (rest := []) clE_stable hs ⟨hx, hb, hml, hown, hts⟩ (cC_X0_errorsAt l D h cy _ _ _ hw) (cwV 1 hts gX0_leastErrors_X0_errorsAt rfl rfl rfl (by decide +kernel) ⟨Nat.le_of_ble_eq_true rfl, Nat.le_of_ble_eq_true rfl⟩) (va_recv hK hP (ci := 0) (q0 := 1) rfl rfl) hK hP hD hS hA rfl hl.1 rfl (Nat.le_of_ble_eq_true rfl) dX0_leastErrors_2 ⟨Nat.zero_le _, Nat.zero_le _⟩ (fun r_4 S_5 H locs hw hP hD hS => ?_)
  refine lv_istore_n (lv' := [(1, .int r_4), (0, .ref (h 1))]) hx hb dX0_leastErrors_5 rfl hl (by decide) rfl (fun ls hl => ?_)
  refine lv_iconst (v := 1) hx hb dX0_leastErrors_6 (by decide) ?_
  refine lv_istore_n (lv' := [(2, .int 1), (1, .int r_4), (0, .ref (h 1))]) hx hb dX0_leastErrors_7 rfl hl (by decide) rfl (fun ls hl => ?_)
  obtain ⟨n_8, hw⟩ := hw
  exact L_8 n_8 r_4 1 S_5 _ _ _ hw hP hD hS (lv_sub hl [2, 1, 0] rfl)
def wC_X0_leastBorne_10 (post : Int32 → CS → Prop) : Nat → Int32 → Int32 → Int32 → CS → Prop
  | 0, _, _, _, _ => False
  | n + 1, x1, x2, x3, S => ((x3 < 0 → post x2 S) ∧ (¬ (x3 < 0) → wC_X0_errorsAt x3 S (fun r_2 S_3 => ((r_2 = x1 → wC_X0_leastBorne_10 post n x1 x3 (x3 + (-1)) S_3) ∧ (¬ (r_2 = x1) → wC_X0_leastBorne_10 post n x1 x2 (x3 + (-1)) S_3)))))
def wC_X0_leastBorne (S : CS) (post : Int32 → CS → Prop) : Prop := wC_X0_leastErrors S (fun r_1 S_2 => ∃ k_ : Nat, wC_X0_leastBorne_10 post k_ r_1 0 100 S_2)
set_option maxHeartbeats 4000000 in
set_option maxRecDepth 100000 in
theorem cC_X0_leastBorne (l : Launch) (D : va_G) (h : Nat → Nat) (cy : Nat → ClassId) (S : CS) (post : Int32 → CS → Prop) (hw : wC_X0_leastBorne S post) : e_Mi clE l yX0_leastBorne wsX0_leastBorne { frames := 3, cells := 0, slots := 0, locals := 68 } D (tyC cy) (wC h cy) [.ref (h 1)] S post := by
  intro sz
  refine Met.ofW (cc := cX0_leastBorne) (maxL := 4) (ret := (some .int)) (by decide) rfl ?_
  intro p e s m args below meth c s₁ B hml hv
  obtain ⟨rfl, hsz, hP, hK, hD0, hs⟩ := hv
  have hx := B.exec
  have hb := B.bytes
  have hr := B.returns
  have hts := atoms_spec (ws := wsX0_leastBorne) B.pre
  have hown : s.vm.findClass RX0 = some m.cls := findClass_of_methodNamed B.named
  have hlocks := B.notSynchronized
  subst hsz
  have hD := hD0.self (sz := s.heap.size)
  generalize hAe : va_A (wC h cy S) s.heap.size = A at hD hs ⊢
  have hA : ∀ q : Nat, s.heap.size ≤ q → A q := fun q h => by rw [← hAe]; exact Or.inr h
  have hS : va_S A s.heap s.heap [] := va_S.rf
  have hl := lv_entry ([.ref (h 1)]) (n := 4) (Nat.le_of_ble_eq_true rfl)
  rw [lg_entry_eq]
  generalize (lg_sl ([.ref (h 1)]) ++ List.replicate (4 - (lg_sl ([.ref (h 1)])).length) Slot.unset).toArray = ls at hl ⊢
  have hl : lv_has ls 4 [(0, .ref (h 1))] := hl
  unfold wC_X0_leastBorne at hw
  clear hD0
  have L_10 : ∀ (n10 : Nat) (x1 : Int32) (x2 : Int32) (x3 : Int32) (S : CS) (H : Heap) (locs : List Loc) (ls : Array Slot), wC_X0_leastBorne_10 post n10 x1 x2 x3 S → va_P D vwCl (wC h cy S) H → va_D A (wC h cy S) → va_S A s.heap H locs → lv_has ls 4 [(0, .ref (h 1)), (1, .int x1), (2, .int x2), (3, .int x3)] → W p l e (headSpec wsX0_leastBorne { frames := 3, cells := 0, slots := 0, locals := 68 }).room s m (([.ref (h 1)] : List Value).toArray) below meth c H locs 0 0 (MQ below (va_Qi post (k_Post D (tyC cy) (wC h cy) A) A) (([.ref (h 1)] : List Value).toArray) s 0 0 A) (F0 m 10 ls []) := by
    intro n10
    induction n10 with
    | zero => intro x1 x2 x3 S H locs ls hw; exact False.elim hw
    | succ n10 ih_10 =>
      intro x1 x2 x3 S H locs ls hw hP hD hS hl
      unfold wC_X0_leastBorne_10 at hw
      refine lv_iload_n hx hb dX0_leastBorne_10 rfl (lv_at hl 3 rfl) ?_
      obtain ⟨hc_1t, hc_1f⟩ := hw
      refine lv_if_lt (tgt := 35) hx hb dX0_leastBorne_11 (by decide) (fun c_1 => ?_) (fun c_1 => ?_)
      · have hw := hc_1t c_1
        clear hc_1t hc_1f
        refine lv_iload_n hx hb dX0_leastBorne_35 rfl (lv_at hl 2 rfl) ?_
        exact W.iret (v := x2) hx hb hr (fun t ht hW => ⟨⟨x2, S, rfl, hw, by rw [ht]; exact hP, va_K.moved hW.alike hK, hD⟩, hS.F ht⟩) hS.2.2 dX0_leastBorne_36
      · have hw := hc_1f c_1
        clear hc_1t hc_1f
        refine lv_aload_n hx hb dX0_leastBorne_14 rfl (lv_at hl 0 rfl) ?_
        refine lv_iload_n hx hb dX0_leastBorne_15 rfl (lv_at hl 3 rfl) ?_
        refine e_callVi (As := [.int x3]) (rest := []) clE_stable hs ⟨hx, hb, hml, hown, hts⟩ (cC_X0_errorsAt l D h cy _ _ _ hw) (cwV 1 hts gX0_leastBorne_X0_errorsAt rfl rfl rfl (by decide +kernel) ⟨Nat.le_of_ble_eq_true rfl, Nat.le_of_ble_eq_true rfl⟩) (va_recv hK hP (ci := 0) (q0 := 1) rfl rfl) hK hP hD hS hA rfl hl.1 rfl (Nat.le_of_ble_eq_true rfl) dX0_leastBorne_16 ⟨Nat.zero_le _, Nat.zero_le _⟩ (fun r_2 S_3 H locs hw hP hD hS => ?_)
        refine lv_iload_n hx hb dX0_leastBorne_19 rfl (lv_at hl 1 rfl) ?_
        obtain ⟨hc_4t, hc_4f⟩ := hw
        refine lv_icmp_ne (tgt := 27) hx hb dX0_leastBorne_20 (by decide) (fun c_4 => ?_) (fun c_4 => ?_)
        · have hw := hc_4f c_4
          clear hc_4t hc_4f
          refine lv_iload_n hx hb dX0_leastBorne_27 rfl (lv_at hl 2 rfl) ?_
          refine lv_istore_n (lv' := [(2, .int x2), (0, .ref (h 1)), (1, .int x1), (3, .int x3)]) hx hb dX0_leastBorne_28 rfl hl (by decide) rfl (fun ls hl => ?_)
          refine lv_iinc (v := x3 + (-1)) (lv' := [(3, .int (x3 + (-1))), (2, .int x2), (0, .ref (h 1)), (1, .int x1)]) hx hb dX0_leastBorne_29 hl (k := 3) rfl (k_inc (by decide)) (by decide) rfl (fun ls hl => ?_)
          refine lv_goto (tgt := 10) hx hb dX0_leastBorne_32 (by decide) ?_
          exact ih_10 x1 x2 (x3 + (-1)) S_3 _ _ _ hw hP hD hS (lv_sub hl [2, 3, 1, 0] rfl)
        · have hw := hc_4t c_4
          clear hc_4t hc_4f
          refine lv_iload_n hx hb dX0_leastBorne_23 rfl (lv_at hl 3 rfl) ?_
          refine lv_goto (tgt := 28) hx hb dX0_leastBorne_24 (by decide) ?_
          refine lv_istore_n (lv' := [(2, .int x3), (0, .ref (h 1)), (1, .int x1), (3, .int x3)]) hx hb dX0_leastBorne_28 rfl hl (by decide) rfl (fun ls hl => ?_)
          refine lv_iinc (v := x3 + (-1)) (lv' := [(3, .int (x3 + (-1))), (2, .int x3), (0, .ref (h 1)), (1, .int x1)]) hx hb dX0_leastBorne_29 hl (k := 3) rfl (k_inc (by decide)) (by decide) rfl (fun ls hl => ?_)
          refine lv_goto (tgt := 10) hx hb dX0_leastBorne_32 (by decide) ?_
          exact ih_10 x1 x3 (x3 + (-1)) S_3 _ _ _ hw hP hD hS (lv_sub hl [2, 3, 1, 0] rfl)
  refine lv_aload_n hx hb dX0_leastBorne_0 rfl (lv_at hl 0 rfl) ?_
  refine e_callVi (As := []) (rest := []) clE_stable hs ⟨hx, hb, hml, hown, hts⟩ (cC_X0_leastErrors l D h cy _ _ hw) (cwV 0 hts gX0_leastBorne_X0_leastErrors rfl rfl rfl (by decide +kernel) ⟨Nat.le_of_ble_eq_true rfl, Nat.le_of_ble_eq_true rfl⟩) (va_recv hK hP (ci := 0) (q0 := 1) rfl rfl) hK hP hD hS hA rfl hl.1 rfl (Nat.le_of_ble_eq_true rfl) dX0_leastBorne_1 ⟨Nat.zero_le _, Nat.zero_le _⟩ (fun r_5 S_6 H locs hw hP hD hS => ?_)
  refine lv_istore_n (lv' := [(1, .int r_5), (0, .ref (h 1))]) hx hb dX0_leastBorne_4 rfl hl (by decide) rfl (fun ls hl => ?_)
  refine lv_iconst (v := 0) hx hb dX0_leastBorne_5 (by decide) ?_
  refine lv_istore_n (lv' := [(2, .int 0), (1, .int r_5), (0, .ref (h 1))]) hx hb dX0_leastBorne_6 rfl hl (by decide) rfl (fun ls hl => ?_)
  refine lv_bipush (v := 100) hx hb dX0_leastBorne_7 (by decide) ?_
  refine lv_istore_n (lv' := [(3, .int 100), (2, .int 0), (1, .int r_5), (0, .ref (h 1))]) hx hb dX0_leastBorne_9 rfl hl (by decide) rfl (fun ls hl => ?_)
  obtain ⟨n_10, hw⟩ := hw
  exact L_10 n_10 r_5 0 100 S_6 _ _ _ hw hP hD hS (lv_sub hl [3, 2, 1, 0] rfl)
def wC_X0_greatestBorne_9 (post : Int32 → CS → Prop) : Nat → Int32 → Int32 → Int32 → CS → Prop
  | 0, _, _, _, _ => False
  | n + 1, x1, x2, x3, S => ((100 < x3 → post x2 S) ∧ (¬ (100 < x3) → wC_X0_errorsAt x3 S (fun r_2 S_3 => ((r_2 = x1 → wC_X0_greatestBorne_9 post n x1 x3 (x3 + 1) S_3) ∧ (¬ (r_2 = x1) → wC_X0_greatestBorne_9 post n x1 x2 (x3 + 1) S_3)))))
def wC_X0_greatestBorne (S : CS) (post : Int32 → CS → Prop) : Prop := wC_X0_leastErrors S (fun r_1 S_2 => ∃ k_ : Nat, wC_X0_greatestBorne_9 post k_ r_1 0 0 S_2)
set_option maxHeartbeats 4000000 in
set_option maxRecDepth 100000 in
theorem cC_X0_greatestBorne (l : Launch) (D : va_G) (h : Nat → Nat) (cy : Nat → ClassId) (S : CS) (post : Int32 → CS → Prop) (hw : wC_X0_greatestBorne S post) : e_Mi clE l yX0_greatestBorne wsX0_greatestBorne { frames := 3, cells := 0, slots := 0, locals := 68 } D (tyC cy) (wC h cy) [.ref (h 1)] S post := by
  intro sz
  refine Met.ofW (cc := cX0_greatestBorne) (maxL := 4) (ret := (some .int)) (by decide) rfl ?_
  intro p e s m args below meth c s₁ B hml hv
  obtain ⟨rfl, hsz, hP, hK, hD0, hs⟩ := hv
  have hx := B.exec
  have hb := B.bytes
  have hr := B.returns
  have hts := atoms_spec (ws := wsX0_greatestBorne) B.pre
  have hown : s.vm.findClass RX0 = some m.cls := findClass_of_methodNamed B.named
  have hlocks := B.notSynchronized
  subst hsz
  have hD := hD0.self (sz := s.heap.size)
  generalize hAe : va_A (wC h cy S) s.heap.size = A at hD hs ⊢
  have hA : ∀ q : Nat, s.heap.size ≤ q → A q := fun q h => by rw [← hAe]; exact Or.inr h
  have hS : va_S A s.heap s.heap [] := va_S.rf
  have hl := lv_entry ([.ref (h 1)]) (n := 4) (Nat.le_of_ble_eq_true rfl)
  rw [lg_entry_eq]
  generalize (lg_sl ([.ref (h 1)]) ++ List.replicate (4 - (lg_sl ([.ref (h 1)])).length) Slot.unset).toArray = ls at hl ⊢
  have hl : lv_has ls 4 [(0, .ref (h 1))] := hl
  unfold wC_X0_greatestBorne at hw
  clear hD0
  have L_9 : ∀ (n9 : Nat) (x1 : Int32) (x2 : Int32) (x3 : Int32) (S : CS) (H : Heap) (locs : List Loc) (ls : Array Slot), wC_X0_greatestBorne_9 post n9 x1 x2 x3 S → va_P D vwCl (wC h cy S) H → va_D A (wC h cy S) → va_S A s.heap H locs → lv_has ls 4 [(0, .ref (h 1)), (1, .int x1), (2, .int x2), (3, .int x3)] → W p l e (headSpec wsX0_greatestBorne { frames := 3, cells := 0, slots := 0, locals := 68 }).room s m (([.ref (h 1)] : List Value).toArray) below meth c H locs 0 0 (MQ below (va_Qi post (k_Post D (tyC cy) (wC h cy) A) A) (([.ref (h 1)] : List Value).toArray) s 0 0 A) (F0 m 9 ls []) := by
    intro n9
    induction n9 with
    | zero => intro x1 x2 x3 S H locs ls hw; exact False.elim hw
    | succ n9 ih_9 =>
      intro x1 x2 x3 S H locs ls hw hP hD hS hl
      unfold wC_X0_greatestBorne_9 at hw
      refine lv_iload_n hx hb dX0_greatestBorne_9 rfl (lv_at hl 3 rfl) ?_
      refine lv_bipush (v := 100) hx hb dX0_greatestBorne_10 (by decide) ?_
      obtain ⟨hc_1t, hc_1f⟩ := hw
      refine lv_icmp_gt (tgt := 36) hx hb dX0_greatestBorne_12 (by decide) (fun c_1 => ?_) (fun c_1 => ?_)
      · have hw := hc_1t c_1
        clear hc_1t hc_1f
        refine lv_iload_n hx hb dX0_greatestBorne_36 rfl (lv_at hl 2 rfl) ?_
        exact W.iret (v := x2) hx hb hr (fun t ht hW => ⟨⟨x2, S, rfl, hw, by rw [ht]; exact hP, va_K.moved hW.alike hK, hD⟩, hS.F ht⟩) hS.2.2 dX0_greatestBorne_37
      · have hw := hc_1f c_1
        clear hc_1t hc_1f
        refine lv_aload_n hx hb dX0_greatestBorne_15 rfl (lv_at hl 0 rfl) ?_
        refine lv_iload_n hx hb dX0_greatestBorne_16 rfl (lv_at hl 3 rfl) ?_
        refine e_callVi (As := [.int x3]) (rest := []) clE_stable hs ⟨hx, hb, hml, hown, hts⟩ (cC_X0_errorsAt l D h cy _ _ _ hw) (cwV 1 hts gX0_greatestBorne_X0_errorsAt rfl rfl rfl (by decide +kernel) ⟨Nat.le_of_ble_eq_true rfl, Nat.le_of_ble_eq_true rfl⟩) (va_recv hK hP (ci := 0) (q0 := 1) rfl rfl) hK hP hD hS hA rfl hl.1 rfl (Nat.le_of_ble_eq_true rfl) dX0_greatestBorne_17 ⟨Nat.zero_le _, Nat.zero_le _⟩ (fun r_2 S_3 H locs hw hP hD hS => ?_)
        refine lv_iload_n hx hb dX0_greatestBorne_20 rfl (lv_at hl 1 rfl) ?_
        obtain ⟨hc_4t, hc_4f⟩ := hw
        refine lv_icmp_ne (tgt := 28) hx hb dX0_greatestBorne_21 (by decide) (fun c_4 => ?_) (fun c_4 => ?_)
        · have hw := hc_4f c_4
          clear hc_4t hc_4f
          refine lv_iload_n hx hb dX0_greatestBorne_28 rfl (lv_at hl 2 rfl) ?_
          refine lv_istore_n (lv' := [(2, .int x2), (0, .ref (h 1)), (1, .int x1), (3, .int x3)]) hx hb dX0_greatestBorne_29 rfl hl (by decide) rfl (fun ls hl => ?_)
          refine lv_iinc (v := x3 + 1) (lv' := [(3, .int (x3 + 1)), (2, .int x2), (0, .ref (h 1)), (1, .int x1)]) hx hb dX0_greatestBorne_30 hl (k := 3) rfl (k_inc (by decide)) (by decide) rfl (fun ls hl => ?_)
          refine lv_goto (tgt := 9) hx hb dX0_greatestBorne_33 (by decide) ?_
          exact ih_9 x1 x2 (x3 + 1) S_3 _ _ _ hw hP hD hS (lv_sub hl [2, 3, 1, 0] rfl)
        · have hw := hc_4t c_4
          clear hc_4t hc_4f
          refine lv_iload_n hx hb dX0_greatestBorne_24 rfl (lv_at hl 3 rfl) ?_
          refine lv_goto (tgt := 29) hx hb dX0_greatestBorne_25 (by decide) ?_
          refine lv_istore_n (lv' := [(2, .int x3), (0, .ref (h 1)), (1, .int x1), (3, .int x3)]) hx hb dX0_greatestBorne_29 rfl hl (by decide) rfl (fun ls hl => ?_)
          refine lv_iinc (v := x3 + 1) (lv' := [(3, .int (x3 + 1)), (2, .int x3), (0, .ref (h 1)), (1, .int x1)]) hx hb dX0_greatestBorne_30 hl (k := 3) rfl (k_inc (by decide)) (by decide) rfl (fun ls hl => ?_)
          refine lv_goto (tgt := 9) hx hb dX0_greatestBorne_33 (by decide) ?_
          exact ih_9 x1 x3 (x3 + 1) S_3 _ _ _ hw hP hD hS (lv_sub hl [2, 3, 1, 0] rfl)
  refine lv_aload_n hx hb dX0_greatestBorne_0 rfl (lv_at hl 0 rfl) ?_
  refine e_callVi (As := []) (rest := []) clE_stable hs ⟨hx, hb, hml, hown, hts⟩ (cC_X0_leastErrors l D h cy _ _ hw) (cwV 0 hts gX0_greatestBorne_X0_leastErrors rfl rfl rfl (by decide +kernel) ⟨Nat.le_of_ble_eq_true rfl, Nat.le_of_ble_eq_true rfl⟩) (va_recv hK hP (ci := 0) (q0 := 1) rfl rfl) hK hP hD hS hA rfl hl.1 rfl (Nat.le_of_ble_eq_true rfl) dX0_greatestBorne_1 ⟨Nat.zero_le _, Nat.zero_le _⟩ (fun r_5 S_6 H locs hw hP hD hS => ?_)
  refine lv_istore_n (lv' := [(1, .int r_5), (0, .ref (h 1))]) hx hb dX0_greatestBorne_4 rfl hl (by decide) rfl (fun ls hl => ?_)
  refine lv_iconst (v := 0) hx hb dX0_greatestBorne_5 (by decide) ?_
  refine lv_istore_n (lv' := [(2, .int 0), (1, .int r_5), (0, .ref (h 1))]) hx hb dX0_greatestBorne_6 rfl hl (by decide) rfl (fun ls hl => ?_)
  refine lv_iconst (v := 0) hx hb dX0_greatestBorne_7 (by decide) ?_
  refine lv_istore_n (lv' := [(3, .int 0), (2, .int 0), (1, .int r_5), (0, .ref (h 1))]) hx hb dX0_greatestBorne_8 rfl hl (by decide) rfl (fun ls hl => ?_)
  obtain ⟨n_9, hw⟩ := hw
  exact L_9 n_9 r_5 0 0 S_6 _ _ _ hw hP hD hS (lv_sub hl [3, 2, 1, 0] rfl)
def wC_X11_bears (p1 : Int32) (S : CS) (post : Int32 → CS → Prop) : Prop := ((p1 = 0 → wC_X0_leastErrors S (fun r_1 S_2 => post r_1 S_2)) ∧ (p1 = 1 → wC_X0_leastBorne S (fun r_4 S_5 => post r_4 S_5)) ∧ (p1 = 2 → wC_X0_greatestBorne S (fun r_7 S_8 => post r_7 S_8)) ∧ (¬ p1 = 0 → ¬ p1 = 1 → ¬ p1 = 2 → post (-2) S))
set_option maxHeartbeats 4000000 in
set_option maxRecDepth 100000 in
theorem cC_X11_bears (l : Launch) (D : va_G) (h : Nat → Nat) (cy : Nat → ClassId) (p1 : Int32) (S : CS) (post : Int32 → CS → Prop) (hw : wC_X11_bears p1 S post) : e_Mi clE l yX11_bears wsX11_bears { frames := 4, cells := 0, slots := 0, locals := 91 } D (tyC cy) (wC h cy) [.ref (h 0), .int p1] S post := by
  intro sz
  refine Met.ofW (cc := cX11_bears) (maxL := 2) (ret := (some .int)) (by decide) rfl ?_
  intro p e s m args below meth c s₁ B hml hv
  obtain ⟨rfl, hsz, hP, hK, hD0, hs⟩ := hv
  have hx := B.exec
  have hb := B.bytes
  have hr := B.returns
  have hts := atoms_spec (ws := wsX11_bears) B.pre
  have hown : s.vm.findClass RX11 = some m.cls := findClass_of_methodNamed B.named
  have hlocks := B.notSynchronized
  subst hsz
  have hD := hD0.self (sz := s.heap.size)
  generalize hAe : va_A (wC h cy S) s.heap.size = A at hD hs ⊢
  have hA : ∀ q : Nat, s.heap.size ≤ q → A q := fun q h => by rw [← hAe]; exact Or.inr h
  have hS : va_S A s.heap s.heap [] := va_S.rf
  have hin11 : ∀ w ∈ wsX110, w ∈ wsX11_bears := fun _ h => List.mem_cons_of_mem _ (List.mem_append_left _ (List.mem_append_right _ h))
  have hin0 : ∀ w ∈ wsX00, w ∈ wsX11_bears := fun _ h => List.mem_cons_of_mem _ (List.mem_append_right _ h)
  have w10 := hts (.fieldLink RX11 10 "ClownsMourn" "city" "LClownsMourn$City;") (List.mem_of_getElem? (i := 1) rfl)
  have hl := lv_entry ([.ref (h 0), .int p1]) (n := 2) (Nat.le_of_ble_eq_true rfl)
  rw [lg_entry_eq]
  generalize (lg_sl ([.ref (h 0), .int p1]) ++ List.replicate (2 - (lg_sl ([.ref (h 0), .int p1])).length) Slot.unset).toArray = ls at hl ⊢
  have hl : lv_has ls 2 [(0, .ref (h 0)), (1, .int p1)] := hl
  unfold wC_X11_bears at hw
  clear hD0
  refine lv_iload_n hx hb dX11_bears_0 rfl (lv_at hl 1 rfl) ?_
  obtain ⟨hc_3, hw⟩ := hw
  by_cases c_3 : p1 = 0
  · have hw := hc_3 c_3
    refine lv_tableIn (off := 27) (tgt := 28) hx hb dX11_bears_1 (by rw [c_3]; decide) (by rw [c_3]; decide) (by rw [c_3]; rfl) (by decide) ?_
    refine lv_aload_n hx hb dX11_bears_28 rfl (lv_at hl 0 rfl) ?_
    refine va_get (D := D) (ci := 10) (v := .ref (h 1)) (C := RX11) (T := TX11) (N := 9) hx hb hts hin11 hown hK hP 0 rfl rfl 0 (by decide) w10 (fun _ h9 => h9) rfl dX11_bears_29 ?_
    refine e_callVi (As := []) (rest := []) clE_stable hs ⟨hx, hb, hml, hown, hts⟩ (cC_X0_leastErrors l D h cy _ _ hw) (cwV 0 hts gX11_bears_X0_leastErrors rfl rfl rfl (by decide +kernel) ⟨Nat.le_of_ble_eq_true rfl, Nat.le_of_ble_eq_true rfl⟩) (va_recv hK hP (ci := 0) (q0 := 1) rfl rfl) hK hP hD hS hA rfl hl.1 rfl (Nat.le_of_ble_eq_true rfl) dX11_bears_32 ⟨Nat.zero_le _, Nat.zero_le _⟩ (fun r_1 S_2 H locs hw hP hD hS => ?_)
    exact W.iret (v := r_1) hx hb hr (fun t ht hW => ⟨⟨r_1, S_2, rfl, hw, by rw [ht]; exact hP, va_K.moved hW.alike hK, hD⟩, hS.F ht⟩) hS.2.2 dX11_bears_35
  obtain ⟨hc_6, hw⟩ := hw
  by_cases c_6 : p1 = 1
  · have hw := hc_6 c_6
    refine lv_tableIn (off := 35) (tgt := 36) hx hb dX11_bears_1 (by rw [c_6]; decide) (by rw [c_6]; decide) (by rw [c_6]; rfl) (by decide) ?_
    refine lv_aload_n hx hb dX11_bears_36 rfl (lv_at hl 0 rfl) ?_
    refine va_get (D := D) (ci := 10) (v := .ref (h 1)) (C := RX11) (T := TX11) (N := 9) hx hb hts hin11 hown hK hP 0 rfl rfl 0 (by decide) w10 (fun _ h9 => h9) rfl dX11_bears_37 ?_
    refine e_callVi (As := []) (rest := []) clE_stable hs ⟨hx, hb, hml, hown, hts⟩ (cC_X0_leastBorne l D h cy _ _ hw) (cwV 0 hts gX11_bears_X0_leastBorne rfl rfl rfl (by decide +kernel) ⟨Nat.le_of_ble_eq_true rfl, Nat.le_of_ble_eq_true rfl⟩) (va_recv hK hP (ci := 0) (q0 := 1) rfl rfl) hK hP hD hS hA rfl hl.1 rfl (Nat.le_of_ble_eq_true rfl) dX11_bears_40 ⟨Nat.zero_le _, Nat.zero_le _⟩ (fun r_4 S_5 H locs hw hP hD hS => ?_)
    exact W.iret (v := r_4) hx hb hr (fun t ht hW => ⟨⟨r_4, S_5, rfl, hw, by rw [ht]; exact hP, va_K.moved hW.alike hK, hD⟩, hS.F ht⟩) hS.2.2 dX11_bears_43
  obtain ⟨hc_9, hw⟩ := hw
  by_cases c_9 : p1 = 2
  · have hw := hc_9 c_9
    refine lv_tableIn (off := 43) (tgt := 44) hx hb dX11_bears_1 (by rw [c_9]; decide) (by rw [c_9]; decide) (by rw [c_9]; rfl) (by decide) ?_
    refine lv_aload_n hx hb dX11_bears_44 rfl (lv_at hl 0 rfl) ?_
    refine va_get (D := D) (ci := 10) (v := .ref (h 1)) (C := RX11) (T := TX11) (N := 9) hx hb hts hin11 hown hK hP 0 rfl rfl 0 (by decide) w10 (fun _ h9 => h9) rfl dX11_bears_45 ?_
    refine e_callVi (As := []) (rest := []) clE_stable hs ⟨hx, hb, hml, hown, hts⟩ (cC_X0_greatestBorne l D h cy _ _ hw) (cwV 0 hts gX11_bears_X0_greatestBorne rfl rfl rfl (by decide +kernel) ⟨Nat.le_of_ble_eq_true rfl, Nat.le_of_ble_eq_true rfl⟩) (va_recv hK hP (ci := 0) (q0 := 1) rfl rfl) hK hP hD hS hA rfl hl.1 rfl (Nat.le_of_ble_eq_true rfl) dX11_bears_48 ⟨Nat.zero_le _, Nat.zero_le _⟩ (fun r_7 S_8 H locs hw hP hD hS => ?_)
    exact W.iret (v := r_7) hx hb hr (fun t ht hW => ⟨⟨r_7, S_8, rfl, hw, by rw [ht]; exact hP, va_K.moved hW.alike hK, hD⟩, hS.F ht⟩) hS.2.2 dX11_bears_51
  have hw := hw c_3 c_6 c_9
  have c_3n := lv_neT c_3 (a := 0) (by decide)
  have c_6n := lv_neT c_6 (a := 1) (by decide)
  have c_9n := lv_neT c_9 (a := 2) (by decide)
  refine lv_tableOut (tgt := 52) hx hb dX11_bears_1 (by omega) (by decide) ?_
  refine lv_bipush (v := (-2)) hx hb dX11_bears_52 (by decide) ?_
  exact W.iret (v := (-2)) hx hb hr (fun t ht hW => ⟨⟨(-2), S, rfl, hw, by rw [ht]; exact hP, va_K.moved hW.alike hK, hD⟩, hS.F ht⟩) hS.2.2 dX11_bears_54
def wC_X11_next_97 (post : Int32 → CS → Prop) (K71 : Int32 → Int32 → Int32 → Int32 → Int32 → Int32 → Int32 → CS → Prop) (x1 : Int32) (x2 : Int32) (x3 : Int32) (x4 : Int32) (x5 : Int32) (x7 : Int32) (t0 : Int32) (t1 : Int32) (S : CS) : Prop := (((t0 - t1) ≤ 0 → K71 x1 x2 x3 x4 x5 (t0 - t1) (x7 + 1) S) ∧ (¬ ((t0 - t1) ≤ 0) → ((x3 ≤ (t0 - t1) → K71 x1 x2 x3 x4 x5 (t0 - t1) (x7 + 1) S) ∧ (¬ (x3 ≤ (t0 - t1)) → ((x4 = (-1) → K71 x1 x2 x3 x7 (if 0 ≤ ((2 * (t0 - t1)) - x3) then ((2 * (t0 - t1)) - x3) else 0 - ((2 * (t0 - t1)) - x3)) (t0 - t1) (x7 + 1) S) ∧ (¬ (x4 = (-1)) → ((x5 ≤ (if 0 ≤ ((2 * (t0 - t1)) - x3) then ((2 * (t0 - t1)) - x3) else 0 - ((2 * (t0 - t1)) - x3)) → K71 x1 x2 x3 x4 x5 (t0 - t1) (x7 + 1) S) ∧ (¬ (x5 ≤ (if 0 ≤ ((2 * (t0 - t1)) - x3) then ((2 * (t0 - t1)) - x3) else 0 - ((2 * (t0 - t1)) - x3))) → K71 x1 x2 x3 x7 (if 0 ≤ ((2 * (t0 - t1)) - x3) then ((2 * (t0 - t1)) - x3) else 0 - ((2 * (t0 - t1)) - x3)) (t0 - t1) (x7 + 1) S))))))))
def wC_X11_next_71 (post : Int32 → CS → Prop) : Nat → Int32 → Int32 → Int32 → Int32 → Int32 → Int32 → Int32 → CS → Prop
  | 0, _, _, _, _, _, _, _, _ => False
  | n + 1, x1, x2, x3, x4, x5, x6, x7, S => ((x1 < x7 → post x4 S) ∧ (¬ (x1 < x7) → wC_X0_errorsAt x7 S (fun r_2 S_3 => ((r_2 = x2 → wC_X11_next_97 post (wC_X11_next_71 post n) x1 x2 x3 x4 x5 x7 x6 1 S_3) ∧ (¬ (r_2 = x2) → wC_X11_next_97 post (wC_X11_next_71 post n) x1 x2 x3 x4 x5 x7 x6 0 S_3)))))
def wC_X11_next_25 (post : Int32 → CS → Prop) : Nat → Int32 → Int32 → Int32 → Int32 → CS → Prop
  | 0, _, _, _, _, _ => False
  | n + 1, x1, x2, x3, x4, S => ((100 < x4 → ∃ k_ : Nat, wC_X11_next_71 post k_ x1 x2 x3 (-1) 0 x3 0 S) ∧ (¬ (100 < x4) → wC_X0_errorsAt x4 S (fun r_2 S_3 => ((r_2 = x2 → wC_X11_next_25 post n x1 x2 (x3 + 1) (x4 + 1) S_3) ∧ (¬ (r_2 = x2) → wC_X11_next_25 post n x1 x2 (x3 + 0) (x4 + 1) S_3)))))
def wC_X11_next (p1 : Int32) (S : CS) (post : Int32 → CS → Prop) : Prop := wC_X11_within p1 0 99 S (fun r_1 S_2 => ((r_1 = 0 → post (-1) S_2) ∧ (¬ (r_1 = 0) → wC_X0_leastErrors S_2 (fun r_4 S_5 => ∃ k_ : Nat, wC_X11_next_25 post k_ p1 r_4 0 0 S_5))))
set_option maxHeartbeats 4000000 in
set_option maxRecDepth 100000 in
theorem cC_X11_next (l : Launch) (D : va_G) (h : Nat → Nat) (cy : Nat → ClassId) (p1 : Int32) (S : CS) (post : Int32 → CS → Prop) (hw : wC_X11_next p1 S post) : e_Mi clE l yX11_next wsX11_next { frames := 3, cells := 0, slots := 0, locals := 68 } D (tyC cy) (wC h cy) [.ref (h 0), .int p1] S post := by
  intro sz
  refine Met.ofW (cc := cX11_next) (maxL := 9) (ret := (some .int)) (by decide) rfl ?_
  intro p e s m args below meth c s₁ B hml hv
  obtain ⟨rfl, hsz, hP, hK, hD0, hs⟩ := hv
  have hx := B.exec
  have hb := B.bytes
  have hr := B.returns
  have hts := atoms_spec (ws := wsX11_next) B.pre
  have hown : s.vm.findClass RX11 = some m.cls := findClass_of_methodNamed B.named
  have hlocks := B.notSynchronized
  subst hsz
  have hD := hD0.self (sz := s.heap.size)
  generalize hAe : va_A (wC h cy S) s.heap.size = A at hD hs ⊢
  have hA : ∀ q : Nat, s.heap.size ≤ q → A q := fun q h => by rw [← hAe]; exact Or.inr h
  have hS : va_S A s.heap s.heap [] := va_S.rf
  have hin11 : ∀ w ∈ wsX110, w ∈ wsX11_next := fun _ h => List.mem_cons_of_mem _ (List.mem_append_left _ (List.mem_append_right _ h))
  have hin0 : ∀ w ∈ wsX00, w ∈ wsX11_next := fun _ h => List.mem_cons_of_mem _ (List.mem_append_right _ h)
  have w10 := hts (.fieldLink RX11 10 "ClownsMourn" "city" "LClownsMourn$City;") (List.mem_of_getElem? (i := 1) rfl)
  have wm304 := hts (.methodLink RX11 304 Lib.Math.abs.name) (List.mem_of_getElem? (i := 2) rfl)
  have wsabs := hts (.static Lib.Math.abs.name) (List.mem_of_getElem? (i := 3) rfl)
  have wcdabs := hts (.code Lib.Math.abs.name Lib.Math.abs.code 1 (some .int)) (List.mem_of_getElem? (i := 5) rfl)
  have wiM := hts (.initialized "java/lang/Math") (List.mem_of_getElem? (i := 4) rfl)
  have hl := lv_entry ([.ref (h 0), .int p1]) (n := 9) (Nat.le_of_ble_eq_true rfl)
  rw [lg_entry_eq]
  generalize (lg_sl ([.ref (h 0), .int p1]) ++ List.replicate (9 - (lg_sl ([.ref (h 0), .int p1])).length) Slot.unset).toArray = ls at hl ⊢
  have hl : lv_has ls 9 [(0, .ref (h 0)), (1, .int p1)] := hl
  unfold wC_X11_next at hw
  clear hD0
  have L_71 : ∀ (n71 : Nat) (x1 : Int32) (x2 : Int32) (x3 : Int32) (x4 : Int32) (x5 : Int32) (x6 : Int32) (x7 : Int32) (S : CS) (H : Heap) (locs : List Loc) (ls : Array Slot), wC_X11_next_71 post n71 x1 x2 x3 x4 x5 x6 x7 S → va_P D vwCl (wC h cy S) H → va_D A (wC h cy S) → va_S A s.heap H locs → lv_has ls 9 [(0, .ref (h 0)), (1, .int x1), (2, .int x2), (3, .int x3), (4, .int x4), (5, .int x5), (6, .int x6), (7, .int x7)] → W p l e (headSpec wsX11_next { frames := 3, cells := 0, slots := 0, locals := 68 }).room s m (([.ref (h 0), .int p1] : List Value).toArray) below meth c H locs 0 0 (MQ below (va_Qi post (k_Post D (tyC cy) (wC h cy) A) A) (([.ref (h 0), .int p1] : List Value).toArray) s 0 0 A) (F0 m 71 ls []) := by
    intro n71
    induction n71 with
    | zero => intro x1 x2 x3 x4 x5 x6 x7 S H locs ls hw; exact False.elim hw
    | succ n71 ih_71 =>
      have J_97 : ∀ (x1 : Int32) (x2 : Int32) (x3 : Int32) (x4 : Int32) (x5 : Int32) (x7 : Int32) (t0 : Int32) (t1 : Int32) (S : CS) (H : Heap) (locs : List Loc) (ls : Array Slot), wC_X11_next_97 post (wC_X11_next_71 post n71) x1 x2 x3 x4 x5 x7 t0 t1 S → va_P D vwCl (wC h cy S) H → va_D A (wC h cy S) → va_S A s.heap H locs → lv_has ls 9 [(0, .ref (h 0)), (1, .int x1), (2, .int x2), (3, .int x3), (4, .int x4), (5, .int x5), (7, .int x7)] → W p l e (headSpec wsX11_next { frames := 3, cells := 0, slots := 0, locals := 68 }).room s m (([.ref (h 0), .int p1] : List Value).toArray) below meth c H locs 0 0 (MQ below (va_Qi post (k_Post D (tyC cy) (wC h cy) A) A) (([.ref (h 0), .int p1] : List Value).toArray) s 0 0 A) (F0 m 97 ls [.int t1, .int t0]) := by
        intro x1 x2 x3 x4 x5 x7 t0 t1 S H locs ls hw hP hD hS hl
        unfold wC_X11_next_97 at hw
        refine lv_isub hx hb dX11_next_97 ?_
        refine lv_istore (lv' := [(6, .int (t0 - t1)), (0, .ref (h 0)), (1, .int x1), (2, .int x2), (3, .int x3), (4, .int x4), (5, .int x5), (7, .int x7)]) hx hb dX11_next_98 hl (by decide) rfl (fun ls hl => ?_)
        refine lv_iconst (v := 2) hx hb dX11_next_100 (by decide) ?_
        refine lv_iload hx hb dX11_next_101 (lv_at hl 0 rfl) ?_
        refine lv_imul hx hb dX11_next_103 ?_
        refine lv_iload_n hx hb dX11_next_104 rfl (lv_at hl 4 rfl) ?_
        refine lv_isub hx hb dX11_next_105 ?_
        refine va_mabs (own := RX11) (index := 304) hx hb (hml.trans hl.1.symm) hown wm304 wsabs wiM wcdabs (Nat.le_of_ble_eq_true rfl) (Nat.le_of_ble_eq_true rfl) (Nat.zero_le _) (Nat.zero_le _) dX11_next_106 ?_
        refine lv_istore (lv' := [(8, .int (if 0 ≤ ((2 * (t0 - t1)) - x3) then ((2 * (t0 - t1)) - x3) else 0 - ((2 * (t0 - t1)) - x3))), (6, .int (t0 - t1)), (0, .ref (h 0)), (1, .int x1), (2, .int x2), (3, .int x3), (4, .int x4), (5, .int x5), (7, .int x7)]) hx hb dX11_next_109 hl (by decide) rfl (fun ls hl => ?_)
        refine lv_iload hx hb dX11_next_111 (lv_at hl 1 rfl) ?_
        obtain ⟨hc_1t, hc_1f⟩ := hw
        refine lv_if_le (tgt := 143) hx hb dX11_next_113 (by decide) (fun c_1 => ?_) (fun c_1 => ?_)
        · have hw := hc_1t c_1
          clear hc_1t hc_1f
          refine lv_iinc (v := x7 + 1) (lv' := [(7, .int (x7 + 1)), (8, .int (if 0 ≤ ((2 * (t0 - t1)) - x3) then ((2 * (t0 - t1)) - x3) else 0 - ((2 * (t0 - t1)) - x3))), (6, .int (t0 - t1)), (0, .ref (h 0)), (1, .int x1), (2, .int x2), (3, .int x3), (4, .int x4), (5, .int x5)]) hx hb dX11_next_143 hl (k := 8) rfl (k_inc (by decide)) (by decide) rfl (fun ls hl => ?_)
          refine lv_goto (tgt := 71) hx hb dX11_next_146 (by decide) ?_
          exact ih_71 x1 x2 x3 x4 x5 (t0 - t1) (x7 + 1) S _ _ _ hw hP hD hS (lv_sub hl [3, 4, 5, 6, 7, 8, 2, 0] rfl)
        · have hw := hc_1f c_1
          clear hc_1t hc_1f
          refine lv_iload hx hb dX11_next_116 (lv_at hl 1 rfl) ?_
          refine lv_iload_n hx hb dX11_next_118 rfl (lv_at hl 5 rfl) ?_
          obtain ⟨hc_2t, hc_2f⟩ := hw
          refine lv_icmp_ge (tgt := 143) hx hb dX11_next_119 (by decide) (fun c_2 => ?_) (fun c_2 => ?_)
          · have hw := hc_2t c_2
            clear hc_2t hc_2f
            refine lv_iinc (v := x7 + 1) (lv' := [(7, .int (x7 + 1)), (8, .int (if 0 ≤ ((2 * (t0 - t1)) - x3) then ((2 * (t0 - t1)) - x3) else 0 - ((2 * (t0 - t1)) - x3))), (6, .int (t0 - t1)), (0, .ref (h 0)), (1, .int x1), (2, .int x2), (3, .int x3), (4, .int x4), (5, .int x5)]) hx hb dX11_next_143 hl (k := 8) rfl (k_inc (by decide)) (by decide) rfl (fun ls hl => ?_)
            refine lv_goto (tgt := 71) hx hb dX11_next_146 (by decide) ?_
            exact ih_71 x1 x2 x3 x4 x5 (t0 - t1) (x7 + 1) S _ _ _ hw hP hD hS (lv_sub hl [3, 4, 5, 6, 7, 8, 2, 0] rfl)
          · have hw := hc_2f c_2
            clear hc_2t hc_2f
            refine lv_iload hx hb dX11_next_122 (lv_at hl 6 rfl) ?_
            refine lv_iconst (v := (-1)) hx hb dX11_next_124 (by decide) ?_
            obtain ⟨hc_3t, hc_3f⟩ := hw
            refine lv_icmp_eq (tgt := 135) hx hb dX11_next_125 (by decide) (fun c_3 => ?_) (fun c_3 => ?_)
            · have hw := hc_3t c_3
              clear hc_3t hc_3f
              refine lv_iload hx hb dX11_next_135 (lv_at hl 8 rfl) ?_
              refine lv_istore (lv' := [(4, .int x7), (8, .int (if 0 ≤ ((2 * (t0 - t1)) - x3) then ((2 * (t0 - t1)) - x3) else 0 - ((2 * (t0 - t1)) - x3))), (6, .int (t0 - t1)), (0, .ref (h 0)), (1, .int x1), (2, .int x2), (3, .int x3), (5, .int x5), (7, .int x7)]) hx hb dX11_next_137 hl (by decide) rfl (fun ls hl => ?_)
              refine lv_iload hx hb dX11_next_139 (lv_at hl 1 rfl) ?_
              refine lv_istore (lv' := [(5, .int (if 0 ≤ ((2 * (t0 - t1)) - x3) then ((2 * (t0 - t1)) - x3) else 0 - ((2 * (t0 - t1)) - x3))), (4, .int x7), (8, .int (if 0 ≤ ((2 * (t0 - t1)) - x3) then ((2 * (t0 - t1)) - x3) else 0 - ((2 * (t0 - t1)) - x3))), (6, .int (t0 - t1)), (0, .ref (h 0)), (1, .int x1), (2, .int x2), (3, .int x3), (7, .int x7)]) hx hb dX11_next_141 hl (by decide) rfl (fun ls hl => ?_)
              refine lv_iinc (v := x7 + 1) (lv' := [(7, .int (x7 + 1)), (5, .int (if 0 ≤ ((2 * (t0 - t1)) - x3) then ((2 * (t0 - t1)) - x3) else 0 - ((2 * (t0 - t1)) - x3))), (4, .int x7), (8, .int (if 0 ≤ ((2 * (t0 - t1)) - x3) then ((2 * (t0 - t1)) - x3) else 0 - ((2 * (t0 - t1)) - x3))), (6, .int (t0 - t1)), (0, .ref (h 0)), (1, .int x1), (2, .int x2), (3, .int x3)]) hx hb dX11_next_143 hl (k := 8) rfl (k_inc (by decide)) (by decide) rfl (fun ls hl => ?_)
              refine lv_goto (tgt := 71) hx hb dX11_next_146 (by decide) ?_
              exact ih_71 x1 x2 x3 x7 (if 0 ≤ ((2 * (t0 - t1)) - x3) then ((2 * (t0 - t1)) - x3) else 0 - ((2 * (t0 - t1)) - x3)) (t0 - t1) (x7 + 1) S _ _ _ hw hP hD hS (lv_sub hl [5, 6, 7, 8, 2, 1, 4, 0] rfl)
            · have hw := hc_3f c_3
              clear hc_3t hc_3f
              refine lv_iload hx hb dX11_next_128 (lv_at hl 0 rfl) ?_
              refine lv_iload hx hb dX11_next_130 (lv_at hl 7 rfl) ?_
              obtain ⟨hc_4t, hc_4f⟩ := hw
              refine lv_icmp_ge (tgt := 143) hx hb dX11_next_132 (by decide) (fun c_4 => ?_) (fun c_4 => ?_)
              · have hw := hc_4t c_4
                clear hc_4t hc_4f
                refine lv_iinc (v := x7 + 1) (lv' := [(7, .int (x7 + 1)), (8, .int (if 0 ≤ ((2 * (t0 - t1)) - x3) then ((2 * (t0 - t1)) - x3) else 0 - ((2 * (t0 - t1)) - x3))), (6, .int (t0 - t1)), (0, .ref (h 0)), (1, .int x1), (2, .int x2), (3, .int x3), (4, .int x4), (5, .int x5)]) hx hb dX11_next_143 hl (k := 8) rfl (k_inc (by decide)) (by decide) rfl (fun ls hl => ?_)
                refine lv_goto (tgt := 71) hx hb dX11_next_146 (by decide) ?_
                exact ih_71 x1 x2 x3 x4 x5 (t0 - t1) (x7 + 1) S _ _ _ hw hP hD hS (lv_sub hl [3, 4, 5, 6, 7, 8, 2, 0] rfl)
              · have hw := hc_4f c_4
                clear hc_4t hc_4f
                refine lv_iload hx hb dX11_next_135 (lv_at hl 8 rfl) ?_
                refine lv_istore (lv' := [(4, .int x7), (8, .int (if 0 ≤ ((2 * (t0 - t1)) - x3) then ((2 * (t0 - t1)) - x3) else 0 - ((2 * (t0 - t1)) - x3))), (6, .int (t0 - t1)), (0, .ref (h 0)), (1, .int x1), (2, .int x2), (3, .int x3), (5, .int x5), (7, .int x7)]) hx hb dX11_next_137 hl (by decide) rfl (fun ls hl => ?_)
                refine lv_iload hx hb dX11_next_139 (lv_at hl 1 rfl) ?_
                refine lv_istore (lv' := [(5, .int (if 0 ≤ ((2 * (t0 - t1)) - x3) then ((2 * (t0 - t1)) - x3) else 0 - ((2 * (t0 - t1)) - x3))), (4, .int x7), (8, .int (if 0 ≤ ((2 * (t0 - t1)) - x3) then ((2 * (t0 - t1)) - x3) else 0 - ((2 * (t0 - t1)) - x3))), (6, .int (t0 - t1)), (0, .ref (h 0)), (1, .int x1), (2, .int x2), (3, .int x3), (7, .int x7)]) hx hb dX11_next_141 hl (by decide) rfl (fun ls hl => ?_)
                refine lv_iinc (v := x7 + 1) (lv' := [(7, .int (x7 + 1)), (5, .int (if 0 ≤ ((2 * (t0 - t1)) - x3) then ((2 * (t0 - t1)) - x3) else 0 - ((2 * (t0 - t1)) - x3))), (4, .int x7), (8, .int (if 0 ≤ ((2 * (t0 - t1)) - x3) then ((2 * (t0 - t1)) - x3) else 0 - ((2 * (t0 - t1)) - x3))), (6, .int (t0 - t1)), (0, .ref (h 0)), (1, .int x1), (2, .int x2), (3, .int x3)]) hx hb dX11_next_143 hl (k := 8) rfl (k_inc (by decide)) (by decide) rfl (fun ls hl => ?_)
                refine lv_goto (tgt := 71) hx hb dX11_next_146 (by decide) ?_
                exact ih_71 x1 x2 x3 x7 (if 0 ≤ ((2 * (t0 - t1)) - x3) then ((2 * (t0 - t1)) - x3) else 0 - ((2 * (t0 - t1)) - x3)) (t0 - t1) (x7 + 1) S _ _ _ hw hP hD hS (lv_sub hl [5, 6, 7, 8, 2, 1, 4, 0] rfl)
      intro x1 x2 x3 x4 x5 x6 x7 S H locs ls hw hP hD hS hl
      unfold wC_X11_next_71 at hw
      refine lv_iload hx hb dX11_next_71 (lv_at hl 7 rfl) ?_
      refine lv_iload_n hx hb dX11_next_73 rfl (lv_at hl 1 rfl) ?_
      obtain ⟨hc_5t, hc_5f⟩ := hw
      refine lv_icmp_gt (tgt := 149) hx hb dX11_next_74 (by decide) (fun c_5 => ?_) (fun c_5 => ?_)
      · have hw := hc_5t c_5
        clear hc_5t hc_5f
        refine lv_iload hx hb dX11_next_149 (lv_at hl 4 rfl) ?_
        exact W.iret (v := x4) hx hb hr (fun t ht hW => ⟨⟨x4, S, rfl, hw, by rw [ht]; exact hP, va_K.moved hW.alike hK, hD⟩, hS.F ht⟩) hS.2.2 dX11_next_151
      · have hw := hc_5f c_5
        clear hc_5t hc_5f
        refine lv_iload hx hb dX11_next_77 (lv_at hl 6 rfl) ?_
        refine lv_aload_n hx hb dX11_next_79 rfl (lv_at hl 0 rfl) ?_
        refine va_get (D := D) (ci := 10) (v := .ref (h 1)) (C := RX11) (T := TX11) (N := 9) hx hb hts hin11 hown hK hP 0 rfl rfl 0 (by decide) w10 (fun _ h9 => h9) rfl dX11_next_80 ?_
        refine lv_iload hx hb dX11_next_83 (lv_at hl 7 rfl) ?_
        refine e_callVi (As := [.int x7]) (rest := [.int x6]) clE_stable hs ⟨hx, hb, hml, hown, hts⟩ (cC_X0_errorsAt l D h cy _ _ _ hw) (cwV 1 hts gX11_next_X0_errorsAt rfl rfl rfl (by decide +kernel) ⟨Nat.le_of_ble_eq_true rfl, Nat.le_of_ble_eq_true rfl⟩) (va_recv hK hP (ci := 0) (q0 := 1) rfl rfl) hK hP hD hS hA rfl hl.1 rfl (Nat.le_of_ble_eq_true rfl) dX11_next_85 ⟨Nat.zero_le _, Nat.zero_le _⟩ (fun r_6 S_7 H locs hw hP hD hS => ?_)
        refine lv_iload_n hx hb dX11_next_88 rfl (lv_at hl 2 rfl) ?_
        obtain ⟨hc_8t, hc_8f⟩ := hw
        refine lv_icmp_ne (tgt := 96) hx hb dX11_next_89 (by decide) (fun c_8 => ?_) (fun c_8 => ?_)
        · have hw := hc_8f c_8
          clear hc_8t hc_8f
          refine lv_iconst (v := 0) hx hb dX11_next_96 (by decide) ?_
          exact J_97 x1 x2 x3 x4 x5 x7 x6 0 S_7 _ _ _ hw hP hD hS (lv_sub hl [0, 1, 2, 3, 4, 5, 7] rfl)
        · have hw := hc_8t c_8
          clear hc_8t hc_8f
          refine lv_iconst (v := 1) hx hb dX11_next_92 (by decide) ?_
          refine lv_goto (tgt := 97) hx hb dX11_next_93 (by decide) ?_
          exact J_97 x1 x2 x3 x4 x5 x7 x6 1 S_7 _ _ _ hw hP hD hS (lv_sub hl [0, 1, 2, 3, 4, 5, 7] rfl)
  have L_25 : ∀ (n25 : Nat) (x1 : Int32) (x2 : Int32) (x3 : Int32) (x4 : Int32) (S : CS) (H : Heap) (locs : List Loc) (ls : Array Slot), wC_X11_next_25 post n25 x1 x2 x3 x4 S → va_P D vwCl (wC h cy S) H → va_D A (wC h cy S) → va_S A s.heap H locs → lv_has ls 9 [(0, .ref (h 0)), (1, .int x1), (2, .int x2), (3, .int x3), (4, .int x4)] → W p l e (headSpec wsX11_next { frames := 3, cells := 0, slots := 0, locals := 68 }).room s m (([.ref (h 0), .int p1] : List Value).toArray) below meth c H locs 0 0 (MQ below (va_Qi post (k_Post D (tyC cy) (wC h cy) A) A) (([.ref (h 0), .int p1] : List Value).toArray) s 0 0 A) (F0 m 25 ls []) := by
    intro n25
    induction n25 with
    | zero => intro x1 x2 x3 x4 S H locs ls hw; exact False.elim hw
    | succ n25 ih_25 =>
      intro x1 x2 x3 x4 S H locs ls hw hP hD hS hl
      unfold wC_X11_next_25 at hw
      refine lv_iload hx hb dX11_next_25 (lv_at hl 4 rfl) ?_
      refine lv_bipush (v := 100) hx hb dX11_next_27 (by decide) ?_
      obtain ⟨hc_9t, hc_9f⟩ := hw
      refine lv_icmp_gt (tgt := 59) hx hb dX11_next_29 (by decide) (fun c_9 => ?_) (fun c_9 => ?_)
      · have hw := hc_9t c_9
        clear hc_9t hc_9f
        refine lv_iconst (v := (-1)) hx hb dX11_next_59 (by decide) ?_
        refine lv_istore (lv' := [(4, .int (-1)), (0, .ref (h 0)), (1, .int x1), (2, .int x2), (3, .int x3)]) hx hb dX11_next_60 hl (by decide) rfl (fun ls hl => ?_)
        refine lv_iconst (v := 0) hx hb dX11_next_62 (by decide) ?_
        refine lv_istore (lv' := [(5, .int 0), (4, .int (-1)), (0, .ref (h 0)), (1, .int x1), (2, .int x2), (3, .int x3)]) hx hb dX11_next_63 hl (by decide) rfl (fun ls hl => ?_)
        refine lv_iload_n hx hb dX11_next_65 rfl (lv_at hl 5 rfl) ?_
        refine lv_istore (lv' := [(6, .int x3), (5, .int 0), (4, .int (-1)), (0, .ref (h 0)), (1, .int x1), (2, .int x2), (3, .int x3)]) hx hb dX11_next_66 hl (by decide) rfl (fun ls hl => ?_)
        refine lv_iconst (v := 0) hx hb dX11_next_68 (by decide) ?_
        refine lv_istore (lv' := [(7, .int 0), (6, .int x3), (5, .int 0), (4, .int (-1)), (0, .ref (h 0)), (1, .int x1), (2, .int x2), (3, .int x3)]) hx hb dX11_next_69 hl (by decide) rfl (fun ls hl => ?_)
        obtain ⟨n_71, hw⟩ := hw
        exact L_71 n_71 x1 x2 x3 (-1) 0 x3 0 S _ _ _ hw hP hD hS (lv_sub hl [4, 5, 6, 7, 3, 2, 1, 0] rfl)
      · have hw := hc_9f c_9
        clear hc_9t hc_9f
        refine lv_iload_n hx hb dX11_next_32 rfl (lv_at hl 3 rfl) ?_
        refine lv_aload_n hx hb dX11_next_33 rfl (lv_at hl 0 rfl) ?_
        refine va_get (D := D) (ci := 10) (v := .ref (h 1)) (C := RX11) (T := TX11) (N := 9) hx hb hts hin11 hown hK hP 0 rfl rfl 0 (by decide) w10 (fun _ h9 => h9) rfl dX11_next_34 ?_
        refine lv_iload hx hb dX11_next_37 (lv_at hl 4 rfl) ?_
        refine e_callVi (As := [.int x4]) (rest := [.int x3]) clE_stable hs ⟨hx, hb, hml, hown, hts⟩ (cC_X0_errorsAt l D h cy _ _ _ hw) (cwV 1 hts gX11_next_X0_errorsAt rfl rfl rfl (by decide +kernel) ⟨Nat.le_of_ble_eq_true rfl, Nat.le_of_ble_eq_true rfl⟩) (va_recv hK hP (ci := 0) (q0 := 1) rfl rfl) hK hP hD hS hA rfl hl.1 rfl (Nat.le_of_ble_eq_true rfl) dX11_next_39 ⟨Nat.zero_le _, Nat.zero_le _⟩ (fun r_10 S_11 H locs hw hP hD hS => ?_)
        refine lv_iload_n hx hb dX11_next_42 rfl (lv_at hl 2 rfl) ?_
        obtain ⟨hc_12t, hc_12f⟩ := hw
        refine lv_icmp_ne (tgt := 50) hx hb dX11_next_43 (by decide) (fun c_12 => ?_) (fun c_12 => ?_)
        · have hw := hc_12f c_12
          clear hc_12t hc_12f
          refine lv_iconst (v := 0) hx hb dX11_next_50 (by decide) ?_
          refine lv_iadd hx hb dX11_next_51 ?_
          refine lv_istore_n (lv' := [(3, .int (x3 + 0)), (0, .ref (h 0)), (1, .int x1), (2, .int x2), (4, .int x4)]) hx hb dX11_next_52 rfl hl (by decide) rfl (fun ls hl => ?_)
          refine lv_iinc (v := x4 + 1) (lv' := [(4, .int (x4 + 1)), (3, .int (x3 + 0)), (0, .ref (h 0)), (1, .int x1), (2, .int x2)]) hx hb dX11_next_53 hl (k := 4) rfl (k_inc (by decide)) (by decide) rfl (fun ls hl => ?_)
          refine lv_goto (tgt := 25) hx hb dX11_next_56 (by decide) ?_
          exact ih_25 x1 x2 (x3 + 0) (x4 + 1) S_11 _ _ _ hw hP hD hS (lv_sub hl [2, 3, 4, 1, 0] rfl)
        · have hw := hc_12t c_12
          clear hc_12t hc_12f
          refine lv_iconst (v := 1) hx hb dX11_next_46 (by decide) ?_
          refine lv_goto (tgt := 51) hx hb dX11_next_47 (by decide) ?_
          refine lv_iadd hx hb dX11_next_51 ?_
          refine lv_istore_n (lv' := [(3, .int (x3 + 1)), (0, .ref (h 0)), (1, .int x1), (2, .int x2), (4, .int x4)]) hx hb dX11_next_52 rfl hl (by decide) rfl (fun ls hl => ?_)
          refine lv_iinc (v := x4 + 1) (lv' := [(4, .int (x4 + 1)), (3, .int (x3 + 1)), (0, .ref (h 0)), (1, .int x1), (2, .int x2)]) hx hb dX11_next_53 hl (k := 4) rfl (k_inc (by decide)) (by decide) rfl (fun ls hl => ?_)
          refine lv_goto (tgt := 25) hx hb dX11_next_56 (by decide) ?_
          exact ih_25 x1 x2 (x3 + 1) (x4 + 1) S_11 _ _ _ hw hP hD hS (lv_sub hl [2, 3, 4, 1, 0] rfl)
  refine lv_iload_n hx hb dX11_next_0 rfl (lv_at hl 1 rfl) ?_
  refine lv_iconst (v := 0) hx hb dX11_next_1 (by decide) ?_
  refine lv_bipush (v := 99) hx hb dX11_next_2 (by decide) ?_
  refine e_callSi (As := [.int p1, .int 0, .int 99]) (rest := []) clE_stable hs ⟨hx, hb, hml, hown, hts⟩ (cC_X11_within l D h cy _ _ _ _ _ hw) (va_cwS 3 hts gX11_next_X11_within rfl rfl rfl (by decide +kernel) ⟨Nat.le_of_ble_eq_true rfl, Nat.le_of_ble_eq_true rfl⟩) hK hP hD hS hA rfl hl.1 rfl (Nat.le_of_ble_eq_true rfl) dX11_next_4 ⟨Nat.zero_le _, Nat.zero_le _⟩ (fun r_13 S_14 H locs hw hP hD hS => ?_)
  obtain ⟨hc_15t, hc_15f⟩ := hw
  refine lv_if_ne (tgt := 12) hx hb dX11_next_7 (by decide) (fun c_15 => ?_) (fun c_15 => ?_)
  · have hw := hc_15f c_15
    clear hc_15t hc_15f
    refine lv_aload_n hx hb dX11_next_12 rfl (lv_at hl 0 rfl) ?_
    refine va_get (D := D) (ci := 10) (v := .ref (h 1)) (C := RX11) (T := TX11) (N := 9) hx hb hts hin11 hown hK hP 0 rfl rfl 0 (by decide) w10 (fun _ h9 => h9) rfl dX11_next_13 ?_
    refine e_callVi (As := []) (rest := []) clE_stable hs ⟨hx, hb, hml, hown, hts⟩ (cC_X0_leastErrors l D h cy _ _ hw) (cwV 0 hts gX11_next_X0_leastErrors rfl rfl rfl (by decide +kernel) ⟨Nat.le_of_ble_eq_true rfl, Nat.le_of_ble_eq_true rfl⟩) (va_recv hK hP (ci := 0) (q0 := 1) rfl rfl) hK hP hD hS hA rfl hl.1 rfl (Nat.le_of_ble_eq_true rfl) dX11_next_16 ⟨Nat.zero_le _, Nat.zero_le _⟩ (fun r_16 S_17 H locs hw hP hD hS => ?_)
    refine lv_istore_n (lv' := [(2, .int r_16), (0, .ref (h 0)), (1, .int p1)]) hx hb dX11_next_19 rfl hl (by decide) rfl (fun ls hl => ?_)
    refine lv_iconst (v := 0) hx hb dX11_next_20 (by decide) ?_
    refine lv_istore_n (lv' := [(3, .int 0), (2, .int r_16), (0, .ref (h 0)), (1, .int p1)]) hx hb dX11_next_21 rfl hl (by decide) rfl (fun ls hl => ?_)
    refine lv_iconst (v := 0) hx hb dX11_next_22 (by decide) ?_
    refine lv_istore (lv' := [(4, .int 0), (3, .int 0), (2, .int r_16), (0, .ref (h 0)), (1, .int p1)]) hx hb dX11_next_23 hl (by decide) rfl (fun ls hl => ?_)
    obtain ⟨n_25, hw⟩ := hw
    exact L_25 n_25 p1 r_16 0 0 S_17 _ _ _ hw hP hD hS (lv_sub hl [3, 4, 2, 1, 0] rfl)
  · have hw := hc_15t c_15
    clear hc_15t hc_15f
    refine lv_iconst (v := (-1)) hx hb dX11_next_10 (by decide) ?_
    exact W.iret (v := (-1)) hx hb hr (fun t ht hW => ⟨⟨(-1), S_14, rfl, hw, by rw [ht]; exact hP, va_K.moved hW.alike hK, hD⟩, hS.F ht⟩) hS.2.2 dX11_next_11
def wC_X11_worth (p1 : Int32) (p2 : Int32) (S : CS) (post : Int32 → CS → Prop) : Prop := wC_X11_within p1 1 15 S (fun r_1 S_2 => ((r_1 = 0 → post 0 S_2) ∧ (¬ (r_1 = 0) → wC_X11_within p2 0 999 S_2 (fun r_4 S_5 => ((r_4 = 0 → post 0 S_5) ∧ (¬ (r_4 = 0) → (∀ S_7 : CS, S_7 = (cx_set_c_worths S_5 (k_put 16 (cx_c_worths S_5) p1 p2)) → post 1 S_7)))))))
set_option maxHeartbeats 4000000 in
set_option maxRecDepth 100000 in
theorem cC_X11_worth (l : Launch) (D : va_G) (h : Nat → Nat) (cy : Nat → ClassId) (p1 : Int32) (p2 : Int32) (S : CS) (post : Int32 → CS → Prop) (hw : wC_X11_worth p1 p2 S post) : e_Mi clE l yX11_worth wsX11_worth { frames := 1, cells := 0, slots := 0, locals := 22 } D (tyC cy) (wC h cy) [.ref (h 0), .int p1, .int p2] S post := by
  intro sz
  refine Met.ofW (cc := cX11_worth) (maxL := 3) (ret := (some .boolean)) (by decide) rfl ?_
  intro p e s m args below meth c s₁ B hml hv
  obtain ⟨rfl, hsz, hP, hK, hD0, hs⟩ := hv
  have hx := B.exec
  have hb := B.bytes
  have hr := B.returns
  have hts := atoms_spec (ws := wsX11_worth) B.pre
  have hown : s.vm.findClass RX11 = some m.cls := findClass_of_methodNamed B.named
  have hlocks := B.notSynchronized
  subst hsz
  have hD := hD0.self (sz := s.heap.size)
  generalize hAe : va_A (wC h cy S) s.heap.size = A at hD hs ⊢
  have hA : ∀ q : Nat, s.heap.size ≤ q → A q := fun q h => by rw [← hAe]; exact Or.inr h
  have hS : va_S A s.heap s.heap [] := va_S.rf
  have hin11 : ∀ w ∈ wsX110, w ∈ wsX11_worth := fun _ h => List.mem_cons_of_mem _ (List.mem_append_left _ (List.mem_append_right _ h))
  have hin0 : ∀ w ∈ wsX00, w ∈ wsX11_worth := fun _ h => List.mem_cons_of_mem _ (List.mem_append_right _ h)
  have w10 := hts (.fieldLink RX11 10 "ClownsMourn" "city" "LClownsMourn$City;") (List.mem_of_getElem? (i := 1) rfl)
  have w309 := hts (.fieldLink RX11 309 "ClownsMourn$City" "worths" "[I") (List.mem_of_getElem? (i := 2) rfl)
  have hl := lv_entry ([.ref (h 0), .int p1, .int p2]) (n := 3) (Nat.le_of_ble_eq_true rfl)
  rw [lg_entry_eq]
  generalize (lg_sl ([.ref (h 0), .int p1, .int p2]) ++ List.replicate (3 - (lg_sl ([.ref (h 0), .int p1, .int p2])).length) Slot.unset).toArray = ls at hl ⊢
  have hl : lv_has ls 3 [(0, .ref (h 0)), (1, .int p1), (2, .int p2)] := hl
  unfold wC_X11_worth at hw
  clear hD0
  refine lv_iload_n hx hb dX11_worth_0 rfl (lv_at hl 1 rfl) ?_
  refine lv_iconst (v := 1) hx hb dX11_worth_1 (by decide) ?_
  refine lv_bipush (v := 15) hx hb dX11_worth_2 (by decide) ?_
  refine e_callSi (As := [.int p1, .int 1, .int 15]) (rest := []) clE_stable hs ⟨hx, hb, hml, hown, hts⟩ (cC_X11_within l D h cy _ _ _ _ _ hw) (va_cwS 3 hts gX11_worth_X11_within rfl rfl rfl (by decide +kernel) ⟨Nat.le_of_ble_eq_true rfl, Nat.le_of_ble_eq_true rfl⟩) hK hP hD hS hA rfl hl.1 rfl (Nat.le_of_ble_eq_true rfl) dX11_worth_4 ⟨Nat.zero_le _, Nat.zero_le _⟩ (fun r_1 S_2 H locs hw hP hD hS => ?_)
  obtain ⟨hc_3t, hc_3f⟩ := hw
  refine lv_if_eq (tgt := 21) hx hb dX11_worth_7 (by decide) (fun c_3 => ?_) (fun c_3 => ?_)
  · have hw := hc_3t c_3
    clear hc_3t hc_3f
    refine lv_iconst (v := 0) hx hb dX11_worth_21 (by decide) ?_
    exact W.zret (v := 0) hx hb hr (by decide +kernel) (fun t ht hW => ⟨⟨0, S_2, rfl, hw, by rw [ht]; exact hP, va_K.moved hW.alike hK, hD⟩, hS.F ht⟩) hS.2.2 dX11_worth_22
  · have hw := hc_3f c_3
    clear hc_3t hc_3f
    refine lv_iload_n hx hb dX11_worth_10 rfl (lv_at hl 2 rfl) ?_
    refine lv_iconst (v := 0) hx hb dX11_worth_11 (by decide) ?_
    refine lv_sipush (v := 999) hx hb dX11_worth_12 (by decide) ?_
    refine e_callSi (As := [.int p2, .int 0, .int 999]) (rest := []) clE_stable hs ⟨hx, hb, hml, hown, hts⟩ (cC_X11_within l D h cy _ _ _ _ _ hw) (va_cwS 3 hts gX11_worth_X11_within rfl rfl rfl (by decide +kernel) ⟨Nat.le_of_ble_eq_true rfl, Nat.le_of_ble_eq_true rfl⟩) hK hP hD hS hA rfl hl.1 rfl (Nat.le_of_ble_eq_true rfl) dX11_worth_15 ⟨Nat.zero_le _, Nat.zero_le _⟩ (fun r_4 S_5 H locs hw hP hD hS => ?_)
    obtain ⟨hc_6t, hc_6f⟩ := hw
    refine lv_if_ne (tgt := 23) hx hb dX11_worth_18 (by decide) (fun c_6 => ?_) (fun c_6 => ?_)
    · have hw := hc_6f c_6
      clear hc_6t hc_6f
      refine lv_aload_n hx hb dX11_worth_23 rfl (lv_at hl 0 rfl) ?_
      refine va_get (D := D) (ci := 10) (v := .ref (h 1)) (C := RX11) (T := TX11) (N := 9) hx hb hts hin11 hown hK hP 0 rfl rfl 0 (by decide) w10 (fun _ h9 => h9) rfl dX11_worth_24 ?_
      refine va_get (D := D) (ci := 0) (v := .ref (h 20)) (C := RX0) (T := TX0) (N := 16) hx hb hts hin0 hown hK hP 1 rfl rfl 12 (by decide) w309 (fun _ h9 => h9) rfl dX11_worth_27 ?_
      refine lv_iload_n hx hb dX11_worth_30 rfl (lv_at hl 1 rfl) ?_
      refine lv_iload_n hx hb dX11_worth_31 rfl (lv_at hl 2 rfl) ?_
      refine e_callSv (As := [.ref (h 20), .int p1, .int p2]) (rest := []) clE_stable hs ⟨hx, hb, hml, hown, hts⟩ (cA_put l D clE (tyC cy) (wC h cy) cx_c_worths cx_set_c_worths S_5 20 8 _ _ 16 rfl (wCs_c_worths h cy S_5) rfl (by decide) _ _ (fun S0 => S0 = (cx_set_c_worths S_5 (k_put 16 (cx_c_worths S_5) p1 p2))) rfl) (va_cwS 3 hts gX11_worth_X11_put rfl rfl rfl (by decide +kernel) ⟨Nat.le_of_ble_eq_true rfl, Nat.le_of_ble_eq_true rfl⟩) hK hP hD hS hA rfl hl.1 rfl (Nat.le_of_ble_eq_true rfl) dX11_worth_32 ⟨Nat.zero_le _, Nat.zero_le _⟩ (fun S_7 H locs eS_7 hP hD hS => ?_)
      replace hw := hw S_7 eS_7
      refine lv_iconst (v := 1) hx hb dX11_worth_35 (by decide) ?_
      exact W.zret (v := 1) hx hb hr (by decide +kernel) (fun t ht hW => ⟨⟨1, S_7, rfl, hw, by rw [ht]; exact hP, va_K.moved hW.alike hK, hD⟩, hS.F ht⟩) hS.2.2 dX11_worth_36
    · have hw := hc_6t c_6
      clear hc_6t hc_6f
      refine lv_iconst (v := 0) hx hb dX11_worth_21 (by decide) ?_
      exact W.zret (v := 0) hx hb hr (by decide +kernel) (fun t ht hW => ⟨⟨0, S_5, rfl, hw, by rw [ht]; exact hP, va_K.moved hW.alike hK, hD⟩, hS.F ht⟩) hS.2.2 dX11_worth_22
def wC_X11_factorial_4 (post : Int32 → CS → Prop) : Nat → Int32 → Int32 → Int32 → CS → Prop
  | 0, _, _, _, _ => False
  | n + 1, x0, x1, x2, S => ((x0 < x2 → post x1 S) ∧ (¬ (x0 < x2) → ((4 < x2 → post x1 S) ∧ (¬ (4 < x2) → wC_X11_factorial_4 post n x0 (x1 * x2) (x2 + 1) S))))
def wC_X11_factorial (p1 : Int32) (S : CS) (post : Int32 → CS → Prop) : Prop := ∃ k_ : Nat, wC_X11_factorial_4 post k_ p1 1 2 S
set_option maxHeartbeats 4000000 in
set_option maxRecDepth 100000 in
theorem cC_X11_factorial (l : Launch) (D : va_G) (h : Nat → Nat) (cy : Nat → ClassId) (p1 : Int32) (S : CS) (post : Int32 → CS → Prop) (hw : wC_X11_factorial p1 S post) : e_Mi clE l yX11_factorial wsX11_factorial { frames := 0, cells := 0, slots := 0, locals := 0 } D (tyC cy) (wC h cy) [.int p1] S post := by
  intro sz
  refine Met.ofW (cc := cX11_factorial) (maxL := 3) (ret := (some .int)) (by decide) rfl ?_
  intro p e s m args below meth c s₁ B hml hv
  obtain ⟨rfl, hsz, hP, hK, hD0, hs⟩ := hv
  have hx := B.exec
  have hb := B.bytes
  have hr := B.returns
  have hts := atoms_spec (ws := wsX11_factorial) B.pre
  have hown : s.vm.findClass RX11 = some m.cls := findClass_of_methodNamed B.named
  have hlocks := B.notSynchronized
  subst hsz
  have hD := hD0.self (sz := s.heap.size)
  generalize hAe : va_A (wC h cy S) s.heap.size = A at hD hs ⊢
  have hA : ∀ q : Nat, s.heap.size ≤ q → A q := fun q h => by rw [← hAe]; exact Or.inr h
  have hS : va_S A s.heap s.heap [] := va_S.rf
  have hl := lv_entry ([.int p1]) (n := 3) (Nat.le_of_ble_eq_true rfl)
  rw [lg_entry_eq]
  generalize (lg_sl ([.int p1]) ++ List.replicate (3 - (lg_sl ([.int p1])).length) Slot.unset).toArray = ls at hl ⊢
  have hl : lv_has ls 3 [(0, .int p1)] := hl
  unfold wC_X11_factorial at hw
  clear hD0
  have L_4 : ∀ (n4 : Nat) (x0 : Int32) (x1 : Int32) (x2 : Int32) (S : CS) (H : Heap) (locs : List Loc) (ls : Array Slot), wC_X11_factorial_4 post n4 x0 x1 x2 S → va_P D vwCl (wC h cy S) H → va_D A (wC h cy S) → va_S A s.heap H locs → lv_has ls 3 [(0, .int x0), (1, .int x1), (2, .int x2)] → W p l e (headSpec wsX11_factorial { frames := 0, cells := 0, slots := 0, locals := 0 }).room s m (([.int p1] : List Value).toArray) below meth c H locs 0 0 (MQ below (va_Qi post (k_Post D (tyC cy) (wC h cy) A) A) (([.int p1] : List Value).toArray) s 0 0 A) (F0 m 4 ls []) := by
    intro n4
    induction n4 with
    | zero => intro x0 x1 x2 S H locs ls hw; exact False.elim hw
    | succ n4 ih_4 =>
      intro x0 x1 x2 S H locs ls hw hP hD hS hl
      unfold wC_X11_factorial_4 at hw
      refine lv_iload_n hx hb dX11_factorial_4 rfl (lv_at hl 2 rfl) ?_
      refine lv_iload_n hx hb dX11_factorial_5 rfl (lv_at hl 0 rfl) ?_
      obtain ⟨hc_1t, hc_1f⟩ := hw
      refine lv_icmp_gt (tgt := 24) hx hb dX11_factorial_6 (by decide) (fun c_1 => ?_) (fun c_1 => ?_)
      · have hw := hc_1t c_1
        clear hc_1t hc_1f
        refine lv_iload_n hx hb dX11_factorial_24 rfl (lv_at hl 1 rfl) ?_
        exact W.iret (v := x1) hx hb hr (fun t ht hW => ⟨⟨x1, S, rfl, hw, by rw [ht]; exact hP, va_K.moved hW.alike hK, hD⟩, hS.F ht⟩) hS.2.2 dX11_factorial_25
      · have hw := hc_1f c_1
        clear hc_1t hc_1f
        refine lv_iload_n hx hb dX11_factorial_9 rfl (lv_at hl 2 rfl) ?_
        refine lv_iconst (v := 4) hx hb dX11_factorial_10 (by decide) ?_
        obtain ⟨hc_2t, hc_2f⟩ := hw
        refine lv_icmp_gt (tgt := 24) hx hb dX11_factorial_11 (by decide) (fun c_2 => ?_) (fun c_2 => ?_)
        · have hw := hc_2t c_2
          clear hc_2t hc_2f
          refine lv_iload_n hx hb dX11_factorial_24 rfl (lv_at hl 1 rfl) ?_
          exact W.iret (v := x1) hx hb hr (fun t ht hW => ⟨⟨x1, S, rfl, hw, by rw [ht]; exact hP, va_K.moved hW.alike hK, hD⟩, hS.F ht⟩) hS.2.2 dX11_factorial_25
        · have hw := hc_2f c_2
          clear hc_2t hc_2f
          refine lv_iload_n hx hb dX11_factorial_14 rfl (lv_at hl 1 rfl) ?_
          refine lv_iload_n hx hb dX11_factorial_15 rfl (lv_at hl 2 rfl) ?_
          refine lv_imul hx hb dX11_factorial_16 ?_
          refine lv_istore_n (lv' := [(1, .int (x1 * x2)), (0, .int x0), (2, .int x2)]) hx hb dX11_factorial_17 rfl hl (by decide) rfl (fun ls hl => ?_)
          refine lv_iinc (v := x2 + 1) (lv' := [(2, .int (x2 + 1)), (1, .int (x1 * x2)), (0, .int x0)]) hx hb dX11_factorial_18 hl (k := 2) rfl (k_inc (by decide)) (by decide) rfl (fun ls hl => ?_)
          refine lv_goto (tgt := 4) hx hb dX11_factorial_21 (by decide) ?_
          exact ih_4 x0 (x1 * x2) (x2 + 1) S _ _ _ hw hP hD hS (lv_sub hl [2, 1, 0] rfl)
  refine lv_iconst (v := 1) hx hb dX11_factorial_0 (by decide) ?_
  refine lv_istore_n (lv' := [(1, .int 1), (0, .int p1)]) hx hb dX11_factorial_1 rfl hl (by decide) rfl (fun ls hl => ?_)
  refine lv_iconst (v := 2) hx hb dX11_factorial_2 (by decide) ?_
  refine lv_istore_n (lv' := [(2, .int 2), (1, .int 1), (0, .int p1)]) hx hb dX11_factorial_3 rfl hl (by decide) rfl (fun ls hl => ?_)
  obtain ⟨n_4, hw⟩ := hw
  exact L_4 n_4 p1 1 2 S _ _ _ hw hP hD hS (lv_sub hl [2, 1, 0] rfl)
def wC_X11_inLowestTerms_42 (post : Int32 → CS → Prop) (x0 : Int32) (x1 : Int32) (x2 : Int32) (x3 : Int32) (S : CS) : Prop := ((x3 = 0 → ((x2 = 0 → post x0 S) ∧ (¬ (x2 = 0) → post x1 S))) ∧ (¬ (x3 = 0) → ((x2 = 0 → (¬ x3 = 0 ∧ post (x0 / x3) S)) ∧ (¬ (x2 = 0) → (¬ x3 = 0 ∧ post (x1 / x3) S)))))
def wC_X11_inLowestTerms_11 (post : Int32 → CS → Prop) : Nat → Int32 → Int32 → Int32 → Int32 → Int32 → Int32 → CS → Prop
  | 0, _, _, _, _, _, _, _ => False
  | n + 1, x0, x1, x2, x3, x4, x5, S => ((100 ≤ x5 → wC_X11_inLowestTerms_42 post x0 x1 x2 x3 S) ∧ (¬ (100 ≤ x5) → ((x4 = 0 → wC_X11_inLowestTerms_42 post x0 x1 x2 x3 S) ∧ (¬ (x4 = 0) → (¬ x4 = 0 ∧ wC_X11_inLowestTerms_11 post n x0 x1 x2 x4 (k_rem x3 x4) (x5 + 1) S)))))
def wC_X11_inLowestTerms (p1 : Int32) (p2 : Int32) (p3 : Int32) (S : CS) (post : Int32 → CS → Prop) : Prop := ∃ k_ : Nat, wC_X11_inLowestTerms_11 post k_ p1 p2 p3 (if 0 ≤ p1 then p1 else 0 - p1) p2 0 S
set_option maxHeartbeats 4000000 in
set_option maxRecDepth 100000 in
theorem cC_X11_inLowestTerms (l : Launch) (D : va_G) (h : Nat → Nat) (cy : Nat → ClassId) (p1 : Int32) (p2 : Int32) (p3 : Int32) (S : CS) (post : Int32 → CS → Prop) (hw : wC_X11_inLowestTerms p1 p2 p3 S post) : e_Mi clE l yX11_inLowestTerms wsX11_inLowestTerms { frames := 1, cells := 0, slots := 0, locals := 21 } D (tyC cy) (wC h cy) [.int p1, .int p2, .int p3] S post := by
  intro sz
  refine Met.ofW (cc := cX11_inLowestTerms) (maxL := 7) (ret := (some .int)) (by decide) rfl ?_
  intro p e s m args below meth c s₁ B hml hv
  obtain ⟨rfl, hsz, hP, hK, hD0, hs⟩ := hv
  have hx := B.exec
  have hb := B.bytes
  have hr := B.returns
  have hts := atoms_spec (ws := wsX11_inLowestTerms) B.pre
  have hown : s.vm.findClass RX11 = some m.cls := findClass_of_methodNamed B.named
  have hlocks := B.notSynchronized
  subst hsz
  have hD := hD0.self (sz := s.heap.size)
  generalize hAe : va_A (wC h cy S) s.heap.size = A at hD hs ⊢
  have hA : ∀ q : Nat, s.heap.size ≤ q → A q := fun q h => by rw [← hAe]; exact Or.inr h
  have hS : va_S A s.heap s.heap [] := va_S.rf
  have wm304 := hts (.methodLink RX11 304 Lib.Math.abs.name) (List.mem_of_getElem? (i := 1) rfl)
  have wsabs := hts (.static Lib.Math.abs.name) (List.mem_of_getElem? (i := 2) rfl)
  have wcdabs := hts (.code Lib.Math.abs.name Lib.Math.abs.code 1 (some .int)) (List.mem_of_getElem? (i := 4) rfl)
  have wiM := hts (.initialized "java/lang/Math") (List.mem_of_getElem? (i := 3) rfl)
  have hl := lv_entry ([.int p1, .int p2, .int p3]) (n := 7) (Nat.le_of_ble_eq_true rfl)
  rw [lg_entry_eq]
  generalize (lg_sl ([.int p1, .int p2, .int p3]) ++ List.replicate (7 - (lg_sl ([.int p1, .int p2, .int p3])).length) Slot.unset).toArray = ls at hl ⊢
  have hl : lv_has ls 7 [(0, .int p1), (1, .int p2), (2, .int p3)] := hl
  unfold wC_X11_inLowestTerms at hw
  clear hD0
  have J_42 : ∀ (x0 : Int32) (x1 : Int32) (x2 : Int32) (x3 : Int32) (S : CS) (H : Heap) (locs : List Loc) (ls : Array Slot), wC_X11_inLowestTerms_42 post x0 x1 x2 x3 S → va_P D vwCl (wC h cy S) H → va_D A (wC h cy S) → va_S A s.heap H locs → lv_has ls 7 [(0, .int x0), (1, .int x1), (2, .int x2), (3, .int x3)] → W p l e (headSpec wsX11_inLowestTerms { frames := 1, cells := 0, slots := 0, locals := 21 }).room s m (([.int p1, .int p2, .int p3] : List Value).toArray) below meth c H locs 0 0 (MQ below (va_Qi post (k_Post D (tyC cy) (wC h cy) A) A) (([.int p1, .int p2, .int p3] : List Value).toArray) s 0 0 A) (F0 m 42 ls []) := by
    intro x0 x1 x2 x3 S H locs ls hw hP hD hS hl
    unfold wC_X11_inLowestTerms_42 at hw
    refine lv_iload_n hx hb dX11_inLowestTerms_42 rfl (lv_at hl 3 rfl) ?_
    obtain ⟨hc_1t, hc_1f⟩ := hw
    refine lv_if_ne (tgt := 56) hx hb dX11_inLowestTerms_43 (by decide) (fun c_1 => ?_) (fun c_1 => ?_)
    · have hw := hc_1f c_1
      clear hc_1t hc_1f
      refine lv_iload_n hx hb dX11_inLowestTerms_56 rfl (lv_at hl 2 rfl) ?_
      obtain ⟨hc_2t, hc_2f⟩ := hw
      refine lv_if_eq (tgt := 66) hx hb dX11_inLowestTerms_57 (by decide) (fun c_2 => ?_) (fun c_2 => ?_)
      · have hw := hc_2t c_2
        clear hc_2t hc_2f
        refine lv_iload_n hx hb dX11_inLowestTerms_66 rfl (lv_at hl 0 rfl) ?_
        refine lv_iload_n hx hb dX11_inLowestTerms_67 rfl (lv_at hl 3 rfl) ?_
        obtain ⟨hz_3, hw⟩ := hw
        refine lv_idiv hx hb dX11_inLowestTerms_68 hz_3 ?_
        exact W.iret (v := x0 / x3) hx hb hr (fun t ht hW => ⟨⟨x0 / x3, S, rfl, hw, by rw [ht]; exact hP, va_K.moved hW.alike hK, hD⟩, hS.F ht⟩) hS.2.2 dX11_inLowestTerms_69
      · have hw := hc_2f c_2
        clear hc_2t hc_2f
        refine lv_iload_n hx hb dX11_inLowestTerms_60 rfl (lv_at hl 1 rfl) ?_
        refine lv_iload_n hx hb dX11_inLowestTerms_61 rfl (lv_at hl 3 rfl) ?_
        obtain ⟨hz_4, hw⟩ := hw
        refine lv_idiv hx hb dX11_inLowestTerms_62 hz_4 ?_
        refine lv_goto (tgt := 69) hx hb dX11_inLowestTerms_63 (by decide) ?_
        exact W.iret (v := x1 / x3) hx hb hr (fun t ht hW => ⟨⟨x1 / x3, S, rfl, hw, by rw [ht]; exact hP, va_K.moved hW.alike hK, hD⟩, hS.F ht⟩) hS.2.2 dX11_inLowestTerms_69
    · have hw := hc_1t c_1
      clear hc_1t hc_1f
      refine lv_iload_n hx hb dX11_inLowestTerms_46 rfl (lv_at hl 2 rfl) ?_
      obtain ⟨hc_5t, hc_5f⟩ := hw
      refine lv_if_eq (tgt := 54) hx hb dX11_inLowestTerms_47 (by decide) (fun c_5 => ?_) (fun c_5 => ?_)
      · have hw := hc_5t c_5
        clear hc_5t hc_5f
        refine lv_iload_n hx hb dX11_inLowestTerms_54 rfl (lv_at hl 0 rfl) ?_
        exact W.iret (v := x0) hx hb hr (fun t ht hW => ⟨⟨x0, S, rfl, hw, by rw [ht]; exact hP, va_K.moved hW.alike hK, hD⟩, hS.F ht⟩) hS.2.2 dX11_inLowestTerms_55
      · have hw := hc_5f c_5
        clear hc_5t hc_5f
        refine lv_iload_n hx hb dX11_inLowestTerms_50 rfl (lv_at hl 1 rfl) ?_
        refine lv_goto (tgt := 55) hx hb dX11_inLowestTerms_51 (by decide) ?_
        exact W.iret (v := x1) hx hb hr (fun t ht hW => ⟨⟨x1, S, rfl, hw, by rw [ht]; exact hP, va_K.moved hW.alike hK, hD⟩, hS.F ht⟩) hS.2.2 dX11_inLowestTerms_55
  have L_11 : ∀ (n11 : Nat) (x0 : Int32) (x1 : Int32) (x2 : Int32) (x3 : Int32) (x4 : Int32) (x5 : Int32) (S : CS) (H : Heap) (locs : List Loc) (ls : Array Slot), wC_X11_inLowestTerms_11 post n11 x0 x1 x2 x3 x4 x5 S → va_P D vwCl (wC h cy S) H → va_D A (wC h cy S) → va_S A s.heap H locs → lv_has ls 7 [(0, .int x0), (1, .int x1), (2, .int x2), (3, .int x3), (4, .int x4), (5, .int x5)] → W p l e (headSpec wsX11_inLowestTerms { frames := 1, cells := 0, slots := 0, locals := 21 }).room s m (([.int p1, .int p2, .int p3] : List Value).toArray) below meth c H locs 0 0 (MQ below (va_Qi post (k_Post D (tyC cy) (wC h cy) A) A) (([.int p1, .int p2, .int p3] : List Value).toArray) s 0 0 A) (F0 m 11 ls []) := by
    intro n11
    induction n11 with
    | zero => intro x0 x1 x2 x3 x4 x5 S H locs ls hw; exact False.elim hw
    | succ n11 ih_11 =>
      intro x0 x1 x2 x3 x4 x5 S H locs ls hw hP hD hS hl
      unfold wC_X11_inLowestTerms_11 at hw
      refine lv_iload hx hb dX11_inLowestTerms_11 (lv_at hl 5 rfl) ?_
      refine lv_bipush (v := 100) hx hb dX11_inLowestTerms_13 (by decide) ?_
      obtain ⟨hc_6t, hc_6f⟩ := hw
      refine lv_icmp_ge (tgt := 42) hx hb dX11_inLowestTerms_15 (by decide) (fun c_6 => ?_) (fun c_6 => ?_)
      · have hw := hc_6t c_6
        clear hc_6t hc_6f
        exact J_42 x0 x1 x2 x3 S _ _ _ hw hP hD hS (lv_sub hl [0, 1, 2, 3] rfl)
      · have hw := hc_6f c_6
        clear hc_6t hc_6f
        refine lv_iload hx hb dX11_inLowestTerms_18 (lv_at hl 4 rfl) ?_
        obtain ⟨hc_7t, hc_7f⟩ := hw
        refine lv_if_eq (tgt := 42) hx hb dX11_inLowestTerms_20 (by decide) (fun c_7 => ?_) (fun c_7 => ?_)
        · have hw := hc_7t c_7
          clear hc_7t hc_7f
          exact J_42 x0 x1 x2 x3 S _ _ _ hw hP hD hS (lv_sub hl [0, 1, 2, 3] rfl)
        · have hw := hc_7f c_7
          clear hc_7t hc_7f
          refine lv_iload_n hx hb dX11_inLowestTerms_23 rfl (lv_at hl 3 rfl) ?_
          refine lv_iload hx hb dX11_inLowestTerms_24 (lv_at hl 4 rfl) ?_
          obtain ⟨hz_8, hw⟩ := hw
          refine k_irem hx hb dX11_inLowestTerms_26 hz_8 ?_
          refine lv_istore (lv' := [(6, .int (k_rem x3 x4)), (0, .int x0), (1, .int x1), (2, .int x2), (3, .int x3), (4, .int x4), (5, .int x5)]) hx hb dX11_inLowestTerms_27 hl (by decide) rfl (fun ls hl => ?_)
          refine lv_iload hx hb dX11_inLowestTerms_29 (lv_at hl 5 rfl) ?_
          refine lv_istore_n (lv' := [(3, .int x4), (6, .int (k_rem x3 x4)), (0, .int x0), (1, .int x1), (2, .int x2), (4, .int x4), (5, .int x5)]) hx hb dX11_inLowestTerms_31 rfl hl (by decide) rfl (fun ls hl => ?_)
          refine lv_iload hx hb dX11_inLowestTerms_32 (lv_at hl 1 rfl) ?_
          refine lv_istore (lv' := [(4, .int (k_rem x3 x4)), (3, .int x4), (6, .int (k_rem x3 x4)), (0, .int x0), (1, .int x1), (2, .int x2), (5, .int x5)]) hx hb dX11_inLowestTerms_34 hl (by decide) rfl (fun ls hl => ?_)
          refine lv_iinc (v := x5 + 1) (lv' := [(5, .int (x5 + 1)), (4, .int (k_rem x3 x4)), (3, .int x4), (6, .int (k_rem x3 x4)), (0, .int x0), (1, .int x1), (2, .int x2)]) hx hb dX11_inLowestTerms_36 hl (k := 6) rfl (k_inc (by decide)) (by decide) rfl (fun ls hl => ?_)
          refine lv_goto (tgt := 11) hx hb dX11_inLowestTerms_39 (by decide) ?_
          exact ih_11 x0 x1 x2 x4 (k_rem x3 x4) (x5 + 1) S _ _ _ hw hP hD hS (lv_sub hl [4, 5, 6, 2, 1, 0] rfl)
  refine lv_iload_n hx hb dX11_inLowestTerms_0 rfl (lv_at hl 0 rfl) ?_
  refine va_mabs (own := RX11) (index := 304) hx hb (hml.trans hl.1.symm) hown wm304 wsabs wiM wcdabs (Nat.le_of_ble_eq_true rfl) (Nat.le_of_ble_eq_true rfl) (Nat.zero_le _) (Nat.zero_le _) dX11_inLowestTerms_1 ?_
  refine lv_istore_n (lv' := [(3, .int (if 0 ≤ p1 then p1 else 0 - p1)), (0, .int p1), (1, .int p2), (2, .int p3)]) hx hb dX11_inLowestTerms_4 rfl hl (by decide) rfl (fun ls hl => ?_)
  refine lv_iload_n hx hb dX11_inLowestTerms_5 rfl (lv_at hl 2 rfl) ?_
  refine lv_istore (lv' := [(4, .int p2), (3, .int (if 0 ≤ p1 then p1 else 0 - p1)), (0, .int p1), (1, .int p2), (2, .int p3)]) hx hb dX11_inLowestTerms_6 hl (by decide) rfl (fun ls hl => ?_)
  refine lv_iconst (v := 0) hx hb dX11_inLowestTerms_8 (by decide) ?_
  refine lv_istore (lv' := [(5, .int 0), (4, .int p2), (3, .int (if 0 ≤ p1 then p1 else 0 - p1)), (0, .int p1), (1, .int p2), (2, .int p3)]) hx hb dX11_inLowestTerms_9 hl (by decide) rfl (fun ls hl => ?_)
  obtain ⟨n_11, hw⟩ := hw
  exact L_11 n_11 p1 p2 p3 (if 0 ≤ p1 then p1 else 0 - p1) p2 0 S _ _ _ hw hP hD hS (lv_sub hl [3, 4, 5, 2, 1, 0] rfl)
def wC_X11_share_28 (post : Int32 → CS → Prop) : Nat → Int32 → Int32 → Int32 → Int32 → Int32 → CS → Prop
  | 0, _, _, _, _, _, _ => False
  | n + 1, x1, x2, x3, x4, x5, S => (((k_shl 1 x2) ≤ x5 → wC_X11_factorial x2 S (fun r_2 S_3 => wC_X11_inLowestTerms x4 r_2 x3 S_3 (fun r_4 S_5 => post r_4 S_5))) ∧ (¬ ((k_shl 1 x2) ≤ x5) → ((((k_shr x5 x1) &&& 1) = 0 → wC_J6_bitCount_0f7a4 x5 S (fun r_7 S_8 => wC_X11_factorial r_7 S_8 (fun r_9 S_10 => wC_X11_factorial ((x2 - r_7) - 1) S_10 (fun r_11 S_12 => wC_X11_share_28 post n x1 x2 x3 (x4 + ((r_9 * r_11) * ((k_at 16 (cx_c_worths S_8) (x5 ||| (k_shl 1 x1))) - (k_at 16 (cx_c_worths S_8) x5)))) (x5 + 1) S_12)))) ∧ (¬ (((k_shr x5 x1) &&& 1) = 0) → wC_X11_share_28 post n x1 x2 x3 x4 (x5 + 1) S))))
def wC_X11_share (p1 : Int32) (p2 : Int32) (p3 : Int32) (S : CS) (post : Int32 → CS → Prop) : Prop := wC_X11_within p2 1 4 S (fun r_1 S_2 => ((r_1 = 0 → post (-1) S_2) ∧ (¬ (r_1 = 0) → wC_X11_within p1 0 (p2 - 1) S_2 (fun r_4 S_5 => ((r_4 = 0 → post (-1) S_5) ∧ (¬ (r_4 = 0) → ∃ k_ : Nat, wC_X11_share_28 post k_ p1 p2 p3 0 0 S_5))))))
set_option maxHeartbeats 4000000 in
set_option maxRecDepth 100000 in
theorem cC_X11_share (l : Launch) (D : va_G) (h : Nat → Nat) (cy : Nat → ClassId) (p1 : Int32) (p2 : Int32) (p3 : Int32) (S : CS) (post : Int32 → CS → Prop) (hw : wC_X11_share p1 p2 p3 S post) : e_Mi clE l yX11_share wsX11_share { frames := 2, cells := 0, slots := 0, locals := 47 } D (tyC cy) (wC h cy) [.ref (h 0), .int p1, .int p2, .int p3] S post := by
  intro sz
  refine Met.ofW (cc := cX11_share) (maxL := 8) (ret := (some .int)) (by decide) rfl ?_
  intro p e s m args below meth c s₁ B hml hv
  obtain ⟨rfl, hsz, hP, hK, hD0, hs⟩ := hv
  have hx := B.exec
  have hb := B.bytes
  have hr := B.returns
  have hts := atoms_spec (ws := wsX11_share) B.pre
  have hown : s.vm.findClass RX11 = some m.cls := findClass_of_methodNamed B.named
  have hlocks := B.notSynchronized
  subst hsz
  have hD := hD0.self (sz := s.heap.size)
  generalize hAe : va_A (wC h cy S) s.heap.size = A at hD hs ⊢
  have hA : ∀ q : Nat, s.heap.size ≤ q → A q := fun q h => by rw [← hAe]; exact Or.inr h
  have hS : va_S A s.heap s.heap [] := va_S.rf
  have hin11 : ∀ w ∈ wsX110, w ∈ wsX11_share := fun _ h => List.mem_cons_of_mem _ (List.mem_append_left _ (List.mem_append_right _ h))
  have hin0 : ∀ w ∈ wsX00, w ∈ wsX11_share := fun _ h => List.mem_cons_of_mem _ (List.mem_append_right _ h)
  have w10 := hts (.fieldLink RX11 10 "ClownsMourn" "city" "LClownsMourn$City;") (List.mem_of_getElem? (i := 1) rfl)
  have w309 := hts (.fieldLink RX11 309 "ClownsMourn$City" "worths" "[I") (List.mem_of_getElem? (i := 2) rfl)
  have hl := lv_entry ([.ref (h 0), .int p1, .int p2, .int p3]) (n := 8) (Nat.le_of_ble_eq_true rfl)
  rw [lg_entry_eq]
  generalize (lg_sl ([.ref (h 0), .int p1, .int p2, .int p3]) ++ List.replicate (8 - (lg_sl ([.ref (h 0), .int p1, .int p2, .int p3])).length) Slot.unset).toArray = ls at hl ⊢
  have hl : lv_has ls 8 [(0, .ref (h 0)), (1, .int p1), (2, .int p2), (3, .int p3)] := hl
  unfold wC_X11_share at hw
  clear hD0
  have L_28 : ∀ (n28 : Nat) (x1 : Int32) (x2 : Int32) (x3 : Int32) (x4 : Int32) (x5 : Int32) (S : CS) (H : Heap) (locs : List Loc) (ls : Array Slot), wC_X11_share_28 post n28 x1 x2 x3 x4 x5 S → va_P D vwCl (wC h cy S) H → va_D A (wC h cy S) → va_S A s.heap H locs → lv_has ls 8 [(0, .ref (h 0)), (1, .int x1), (2, .int x2), (3, .int x3), (4, .int x4), (5, .int x5)] → W p l e (headSpec wsX11_share { frames := 2, cells := 0, slots := 0, locals := 47 }).room s m (([.ref (h 0), .int p1, .int p2, .int p3] : List Value).toArray) below meth c H locs 0 0 (MQ below (va_Qi post (k_Post D (tyC cy) (wC h cy) A) A) (([.ref (h 0), .int p1, .int p2, .int p3] : List Value).toArray) s 0 0 A) (F0 m 28 ls []) := by
    intro n28
    induction n28 with
    | zero => intro x1 x2 x3 x4 x5 S H locs ls hw; exact False.elim hw
    | succ n28 ih_28 =>
      intro x1 x2 x3 x4 x5 S H locs ls hw hP hD hS hl
      unfold wC_X11_share_28 at hw
      refine lv_iload hx hb dX11_share_28 (lv_at hl 5 rfl) ?_
      refine lv_iconst (v := 1) hx hb dX11_share_30 (by decide) ?_
      refine lv_iload_n hx hb dX11_share_31 rfl (lv_at hl 2 rfl) ?_
      refine k_ishl hx hb dX11_share_32 ?_
      obtain ⟨hc_1t, hc_1f⟩ := hw
      refine lv_icmp_ge (tgt := 112) hx hb dX11_share_33 (by decide) (fun c_1 => ?_) (fun c_1 => ?_)
      · have hw := hc_1t c_1
        clear hc_1t hc_1f
        refine lv_iload hx hb dX11_share_112 (lv_at hl 4 rfl) ?_
        refine lv_iload_n hx hb dX11_share_114 rfl (lv_at hl 2 rfl) ?_
        refine e_callSi (As := [.int x2]) (rest := [.int x4]) clE_stable hs ⟨hx, hb, hml, hown, hts⟩ (cC_X11_factorial l D h cy _ _ _ hw) (va_cwS 1 hts gX11_share_X11_factorial rfl rfl rfl (by decide +kernel) ⟨Nat.le_of_ble_eq_true rfl, Nat.le_of_ble_eq_true rfl⟩) hK hP hD hS hA rfl hl.1 rfl (Nat.le_of_ble_eq_true rfl) dX11_share_115 ⟨Nat.zero_le _, Nat.zero_le _⟩ (fun r_2 S_3 H locs hw hP hD hS => ?_)
        refine lv_iload_n hx hb dX11_share_118 rfl (lv_at hl 3 rfl) ?_
        refine e_callSi (As := [.int x4, .int r_2, .int x3]) (rest := []) clE_stable hs ⟨hx, hb, hml, hown, hts⟩ (cC_X11_inLowestTerms l D h cy _ _ _ _ _ hw) (va_cwS 3 hts gX11_share_X11_inLowestTerms rfl rfl rfl (by decide +kernel) ⟨Nat.le_of_ble_eq_true rfl, Nat.le_of_ble_eq_true rfl⟩) hK hP hD hS hA rfl hl.1 rfl (Nat.le_of_ble_eq_true rfl) dX11_share_119 ⟨Nat.zero_le _, Nat.zero_le _⟩ (fun r_4 S_5 H locs hw hP hD hS => ?_)
        exact W.iret (v := r_4) hx hb hr (fun t ht hW => ⟨⟨r_4, S_5, rfl, hw, by rw [ht]; exact hP, va_K.moved hW.alike hK, hD⟩, hS.F ht⟩) hS.2.2 dX11_share_122
      · have hw := hc_1f c_1
        clear hc_1t hc_1f
        refine lv_iload hx hb dX11_share_36 (lv_at hl 5 rfl) ?_
        refine lv_iload_n hx hb dX11_share_38 rfl (lv_at hl 1 rfl) ?_
        refine k_ishr hx hb dX11_share_39 ?_
        refine lv_iconst (v := 1) hx hb dX11_share_40 (by decide) ?_
        refine lv_iand hx hb dX11_share_41 ?_
        obtain ⟨hc_6t, hc_6f⟩ := hw
        refine lv_if_ne (tgt := 106) hx hb dX11_share_42 (by decide) (fun c_6 => ?_) (fun c_6 => ?_)
        · have hw := hc_6f c_6
          clear hc_6t hc_6f
          refine lv_iinc (v := x5 + 1) (lv' := [(5, .int (x5 + 1)), (0, .ref (h 0)), (1, .int x1), (2, .int x2), (3, .int x3), (4, .int x4)]) hx hb dX11_share_106 hl (k := 5) rfl (k_inc (by decide)) (by decide) rfl (fun ls hl => ?_)
          refine lv_goto (tgt := 28) hx hb dX11_share_109 (by decide) ?_
          exact ih_28 x1 x2 x3 x4 (x5 + 1) S _ _ _ hw hP hD hS (lv_sub hl [1, 2, 3, 4, 5, 0] rfl)
        · have hw := hc_6t c_6
          clear hc_6t hc_6f
          refine lv_iload hx hb dX11_share_45 (lv_at hl 5 rfl) ?_
          refine e_callSi (As := [.int x5]) (rest := []) clE_stable hs ⟨hx, hb, hml, hown, hts⟩ (cC_J6_bitCount_0f7a4 l D h cy _ _ _ hw) (va_cwS 1 hts gX11_share_J6_bitCount_0f7a4 rfl rfl rfl (by decide +kernel) ⟨Nat.le_of_ble_eq_true rfl, Nat.le_of_ble_eq_true rfl⟩) hK hP hD hS hA rfl hl.1 rfl (Nat.le_of_ble_eq_true rfl) dX11_share_47 ⟨Nat.zero_le _, Nat.zero_le _⟩ (fun r_7 S_8 H locs hw hP hD hS => ?_)
          refine lv_istore (lv' := [(6, .int r_7), (0, .ref (h 0)), (1, .int x1), (2, .int x2), (3, .int x3), (4, .int x4), (5, .int x5)]) hx hb dX11_share_50 hl (by decide) rfl (fun ls hl => ?_)
          refine lv_aload_n hx hb dX11_share_52 rfl (lv_at hl 1 rfl) ?_
          refine va_get (D := D) (ci := 10) (v := .ref (h 1)) (C := RX11) (T := TX11) (N := 9) hx hb hts hin11 hown hK hP 0 rfl rfl 0 (by decide) w10 (fun _ h9 => h9) rfl dX11_share_53 ?_
          refine va_get (D := D) (ci := 0) (v := .ref (h 20)) (C := RX0) (T := TX0) (N := 16) hx hb hts hin0 hown hK hP 1 rfl rfl 12 (by decide) w309 (fun _ h9 => h9) rfl dX11_share_56 ?_
          refine lv_iload hx hb dX11_share_59 (lv_at hl 6 rfl) ?_
          refine lv_iconst (v := 1) hx hb dX11_share_61 (by decide) ?_
          refine lv_iload_n hx hb dX11_share_62 rfl (lv_at hl 2 rfl) ?_
          refine k_ishl hx hb dX11_share_63 ?_
          refine lv_ior hx hb dX11_share_64 ?_
          refine e_callSi (As := [.ref (h 20), .int (x5 ||| (k_shl 1 x1))]) (rest := []) clE_stable hs ⟨hx, hb, hml, hown, hts⟩ (cA_at l D clE (tyC cy) (wC h cy) S_8 20 8 _ _ 16 (cx_c_worths S_8) rfl rfl (by decide) _ (fun r S0 => r = k_at 16 (cx_c_worths S_8) (x5 ||| (k_shl 1 x1)) ∧ S_8 = S0) ⟨rfl, rfl⟩) (va_cwS 2 hts gX11_share_X11_at rfl rfl rfl (by decide +kernel) ⟨Nat.le_of_ble_eq_true rfl, Nat.le_of_ble_eq_true rfl⟩) hK hP hD hS hA rfl hl.1 rfl (Nat.le_of_ble_eq_true rfl) dX11_share_65 ⟨Nat.zero_le _, Nat.zero_le _⟩ (fun r_ S_ H locs hq hP hD hS => ?_)
          obtain ⟨rfl, rfl⟩ := hq
          refine lv_aload_n hx hb dX11_share_68 rfl (lv_at hl 1 rfl) ?_
          refine va_get (D := D) (ci := 10) (v := .ref (h 1)) (C := RX11) (T := TX11) (N := 9) hx hb hts hin11 hown hK hP 0 rfl rfl 0 (by decide) w10 (fun _ h9 => h9) rfl dX11_share_69 ?_
          refine va_get (D := D) (ci := 0) (v := .ref (h 20)) (C := RX0) (T := TX0) (N := 16) hx hb hts hin0 hown hK hP 1 rfl rfl 12 (by decide) w309 (fun _ h9 => h9) rfl dX11_share_72 ?_
          refine lv_iload hx hb dX11_share_75 (lv_at hl 6 rfl) ?_
          refine e_callSi (As := [.ref (h 20), .int x5]) (rest := [.int (k_at 16 (cx_c_worths S_8) (x5 ||| (k_shl 1 x1)))]) clE_stable hs ⟨hx, hb, hml, hown, hts⟩ (cA_at l D clE (tyC cy) (wC h cy) S_8 20 8 _ _ 16 (cx_c_worths S_8) rfl rfl (by decide) _ (fun r S0 => r = k_at 16 (cx_c_worths S_8) x5 ∧ S_8 = S0) ⟨rfl, rfl⟩) (va_cwS 2 hts gX11_share_X11_at rfl rfl rfl (by decide +kernel) ⟨Nat.le_of_ble_eq_true rfl, Nat.le_of_ble_eq_true rfl⟩) hK hP hD hS hA rfl hl.1 rfl (Nat.le_of_ble_eq_true rfl) dX11_share_77 ⟨Nat.zero_le _, Nat.zero_le _⟩ (fun r_ S_ H locs hq hP hD hS => ?_)
          obtain ⟨rfl, rfl⟩ := hq
          refine lv_isub hx hb dX11_share_80 ?_
          refine lv_istore (lv' := [(7, .int ((k_at 16 (cx_c_worths S_8) (x5 ||| (k_shl 1 x1))) - (k_at 16 (cx_c_worths S_8) x5))), (6, .int r_7), (0, .ref (h 0)), (1, .int x1), (2, .int x2), (3, .int x3), (4, .int x4), (5, .int x5)]) hx hb dX11_share_81 hl (by decide) rfl (fun ls hl => ?_)
          refine lv_iload hx hb dX11_share_83 (lv_at hl 6 rfl) ?_
          refine lv_iload hx hb dX11_share_85 (lv_at hl 1 rfl) ?_
          refine e_callSi (As := [.int r_7]) (rest := [.int x4]) clE_stable hs ⟨hx, hb, hml, hown, hts⟩ (cC_X11_factorial l D h cy _ _ _ hw) (va_cwS 1 hts gX11_share_X11_factorial rfl rfl rfl (by decide +kernel) ⟨Nat.le_of_ble_eq_true rfl, Nat.le_of_ble_eq_true rfl⟩) hK hP hD hS hA rfl hl.1 rfl (Nat.le_of_ble_eq_true rfl) dX11_share_87 ⟨Nat.zero_le _, Nat.zero_le _⟩ (fun r_9 S_10 H locs hw hP hD hS => ?_)
          refine lv_iload_n hx hb dX11_share_90 rfl (lv_at hl 4 rfl) ?_
          refine lv_iload hx hb dX11_share_91 (lv_at hl 1 rfl) ?_
          refine lv_isub hx hb dX11_share_93 ?_
          refine lv_iconst (v := 1) hx hb dX11_share_94 (by decide) ?_
          refine lv_isub hx hb dX11_share_95 ?_
          refine e_callSi (As := [.int ((x2 - r_7) - 1)]) (rest := [.int r_9, .int x4]) clE_stable hs ⟨hx, hb, hml, hown, hts⟩ (cC_X11_factorial l D h cy _ _ _ hw) (va_cwS 1 hts gX11_share_X11_factorial rfl rfl rfl (by decide +kernel) ⟨Nat.le_of_ble_eq_true rfl, Nat.le_of_ble_eq_true rfl⟩) hK hP hD hS hA rfl hl.1 rfl (Nat.le_of_ble_eq_true rfl) dX11_share_96 ⟨Nat.zero_le _, Nat.zero_le _⟩ (fun r_11 S_12 H locs hw hP hD hS => ?_)
          refine lv_imul hx hb dX11_share_99 ?_
          refine lv_iload hx hb dX11_share_100 (lv_at hl 0 rfl) ?_
          refine lv_imul hx hb dX11_share_102 ?_
          refine lv_iadd hx hb dX11_share_103 ?_
          refine lv_istore (lv' := [(4, .int (x4 + ((r_9 * r_11) * ((k_at 16 (cx_c_worths S_8) (x5 ||| (k_shl 1 x1))) - (k_at 16 (cx_c_worths S_8) x5))))), (7, .int ((k_at 16 (cx_c_worths S_8) (x5 ||| (k_shl 1 x1))) - (k_at 16 (cx_c_worths S_8) x5))), (6, .int r_7), (0, .ref (h 0)), (1, .int x1), (2, .int x2), (3, .int x3), (5, .int x5)]) hx hb dX11_share_104 hl (by decide) rfl (fun ls hl => ?_)
          refine lv_iinc (v := x5 + 1) (lv' := [(5, .int (x5 + 1)), (4, .int (x4 + ((r_9 * r_11) * ((k_at 16 (cx_c_worths S_8) (x5 ||| (k_shl 1 x1))) - (k_at 16 (cx_c_worths S_8) x5))))), (7, .int ((k_at 16 (cx_c_worths S_8) (x5 ||| (k_shl 1 x1))) - (k_at 16 (cx_c_worths S_8) x5))), (6, .int r_7), (0, .ref (h 0)), (1, .int x1), (2, .int x2), (3, .int x3)]) hx hb dX11_share_106 hl (k := 7) rfl (k_inc (by decide)) (by decide) rfl (fun ls hl => ?_)
          refine lv_goto (tgt := 28) hx hb dX11_share_109 (by decide) ?_
          exact ih_28 x1 x2 x3 (x4 + ((r_9 * r_11) * ((k_at 16 (cx_c_worths S_8) (x5 ||| (k_shl 1 x1))) - (k_at 16 (cx_c_worths S_8) x5)))) (x5 + 1) S_12 _ _ _ hw hP hD hS (lv_sub hl [4, 5, 6, 7, 1, 0] rfl)
  refine lv_iload_n hx hb dX11_share_0 rfl (lv_at hl 2 rfl) ?_
  refine lv_iconst (v := 1) hx hb dX11_share_1 (by decide) ?_
  refine lv_iconst (v := 4) hx hb dX11_share_2 (by decide) ?_
  refine e_callSi (As := [.int p2, .int 1, .int 4]) (rest := []) clE_stable hs ⟨hx, hb, hml, hown, hts⟩ (cC_X11_within l D h cy _ _ _ _ _ hw) (va_cwS 3 hts gX11_share_X11_within rfl rfl rfl (by decide +kernel) ⟨Nat.le_of_ble_eq_true rfl, Nat.le_of_ble_eq_true rfl⟩) hK hP hD hS hA rfl hl.1 rfl (Nat.le_of_ble_eq_true rfl) dX11_share_3 ⟨Nat.zero_le _, Nat.zero_le _⟩ (fun r_13 S_14 H locs hw hP hD hS => ?_)
  obtain ⟨hc_15t, hc_15f⟩ := hw
  refine lv_if_eq (tgt := 20) hx hb dX11_share_6 (by decide) (fun c_15 => ?_) (fun c_15 => ?_)
  · have hw := hc_15t c_15
    clear hc_15t hc_15f
    refine lv_iconst (v := (-1)) hx hb dX11_share_20 (by decide) ?_
    exact W.iret (v := (-1)) hx hb hr (fun t ht hW => ⟨⟨(-1), S_14, rfl, hw, by rw [ht]; exact hP, va_K.moved hW.alike hK, hD⟩, hS.F ht⟩) hS.2.2 dX11_share_21
  · have hw := hc_15f c_15
    clear hc_15t hc_15f
    refine lv_iload_n hx hb dX11_share_9 rfl (lv_at hl 1 rfl) ?_
    refine lv_iconst (v := 0) hx hb dX11_share_10 (by decide) ?_
    refine lv_iload_n hx hb dX11_share_11 rfl (lv_at hl 2 rfl) ?_
    refine lv_iconst (v := 1) hx hb dX11_share_12 (by decide) ?_
    refine lv_isub hx hb dX11_share_13 ?_
    refine e_callSi (As := [.int p1, .int 0, .int (p2 - 1)]) (rest := []) clE_stable hs ⟨hx, hb, hml, hown, hts⟩ (cC_X11_within l D h cy _ _ _ _ _ hw) (va_cwS 3 hts gX11_share_X11_within rfl rfl rfl (by decide +kernel) ⟨Nat.le_of_ble_eq_true rfl, Nat.le_of_ble_eq_true rfl⟩) hK hP hD hS hA rfl hl.1 rfl (Nat.le_of_ble_eq_true rfl) dX11_share_14 ⟨Nat.zero_le _, Nat.zero_le _⟩ (fun r_16 S_17 H locs hw hP hD hS => ?_)
    obtain ⟨hc_18t, hc_18f⟩ := hw
    refine lv_if_ne (tgt := 22) hx hb dX11_share_17 (by decide) (fun c_18 => ?_) (fun c_18 => ?_)
    · have hw := hc_18f c_18
      clear hc_18t hc_18f
      refine lv_iconst (v := 0) hx hb dX11_share_22 (by decide) ?_
      refine lv_istore (lv' := [(4, .int 0), (0, .ref (h 0)), (1, .int p1), (2, .int p2), (3, .int p3)]) hx hb dX11_share_23 hl (by decide) rfl (fun ls hl => ?_)
      refine lv_iconst (v := 0) hx hb dX11_share_25 (by decide) ?_
      refine lv_istore (lv' := [(5, .int 0), (4, .int 0), (0, .ref (h 0)), (1, .int p1), (2, .int p2), (3, .int p3)]) hx hb dX11_share_26 hl (by decide) rfl (fun ls hl => ?_)
      obtain ⟨n_28, hw⟩ := hw
      exact L_28 n_28 p1 p2 p3 0 0 S_17 _ _ _ hw hP hD hS (lv_sub hl [2, 3, 4, 5, 1, 0] rfl)
    · have hw := hc_18t c_18
      clear hc_18t hc_18f
      refine lv_iconst (v := (-1)) hx hb dX11_share_20 (by decide) ?_
      exact W.iret (v := (-1)) hx hb hr (fun t ht hW => ⟨⟨(-1), S_17, rfl, hw, by rw [ht]; exact hP, va_K.moved hW.alike hK, hD⟩, hS.F ht⟩) hS.2.2 dX11_share_21
def wC_X11_stays_103 (post : Int32 → CS → Prop) (K62 : Int32 → Int32 → Int32 → Int32 → Int32 → Int32 → Int32 → Int32 → Int32 → CS → Prop) (x1 : Int32) (x2 : Int32) (x3 : Int32) (x4 : Int32) (x5 : Int32) (x6 : Int32) (x7 : Int32) (x8 : Int32) (x9 : Int32) (S : CS) : Prop := K62 x1 x2 x3 x4 x5 x6 x7 ((x8 * (10 - x1)) / 10) (x9 + 1) S
def wC_X11_stays_62 (post : Int32 → CS → Prop) : Nat → Int32 → Int32 → Int32 → Int32 → Int32 → Int32 → Int32 → Int32 → Int32 → CS → Prop
  | 0, _, _, _, _, _, _, _, _, _, _ => False
  | n + 1, x1, x2, x3, x4, x5, x6, x7, x8, x9, S => ((6 < x9 → ((x4 = 0 → post x5 S) ∧ (¬ (x4 = 0) → ((x4 = 2 → wC_X11_inLowestTerms x6 1000000 1 S (fun r_6 S_7 => post r_6 S_7)) ∧ (¬ (x4 = 2) → wC_X11_inLowestTerms x6 1000000 0 S (fun r_4 S_5 => post r_4 S_5)))))) ∧ (¬ (6 < x9) → (((x7 + (x8 * ((x1 * x2) - ((10 * x9) * x3)))) ≤ x6 → wC_X11_stays_103 post (wC_X11_stays_62 post n) x1 x2 x3 x4 x5 x6 (x7 + (x8 * ((x1 * x2) - ((10 * x9) * x3)))) x8 x9 S) ∧ (¬ ((x7 + (x8 * ((x1 * x2) - ((10 * x9) * x3)))) ≤ x6) → wC_X11_stays_103 post (wC_X11_stays_62 post n) x1 x2 x3 x4 x9 (x7 + (x8 * ((x1 * x2) - ((10 * x9) * x3)))) (x7 + (x8 * ((x1 * x2) - ((10 * x9) * x3)))) x8 x9 S))))
def wC_X11_stays (p1 : Int32) (p2 : Int32) (p3 : Int32) (p4 : Int32) (S : CS) (post : Int32 → CS → Prop) : Prop := wC_X11_within p1 0 10 S (fun r_1 S_2 => ((r_1 = 0 → post (-100000) S_2) ∧ (¬ (r_1 = 0) → wC_X11_within p2 0 999 S_2 (fun r_4 S_5 => ((r_4 = 0 → post (-100000) S_5) ∧ (¬ (r_4 = 0) → wC_X11_within p3 0 99 S_5 (fun r_7 S_8 => ((r_7 = 0 → post (-100000) S_8) ∧ (¬ (r_7 = 0) → wC_X11_within p4 0 2 S_8 (fun r_10 S_11 => ((r_10 = 0 → post (-100000) S_11) ∧ (¬ (r_10 = 0) → ∃ k_ : Nat, wC_X11_stays_62 post k_ p1 p2 p3 p4 0 0 0 100000 1 S_11))))))))))))
set_option maxHeartbeats 4000000 in
set_option maxRecDepth 100000 in
theorem cC_X11_stays (l : Launch) (D : va_G) (h : Nat → Nat) (cy : Nat → ClassId) (p1 : Int32) (p2 : Int32) (p3 : Int32) (p4 : Int32) (S : CS) (post : Int32 → CS → Prop) (hw : wC_X11_stays p1 p2 p3 p4 S post) : e_Mi clE l yX11_stays wsX11_stays { frames := 2, cells := 0, slots := 0, locals := 47 } D (tyC cy) (wC h cy) [.ref (h 0), .int p1, .int p2, .int p3, .int p4] S post := by
  intro sz
  refine Met.ofW (cc := cX11_stays) (maxL := 10) (ret := (some .int)) (by decide) rfl ?_
  intro p e s m args below meth c s₁ B hml hv
  obtain ⟨rfl, hsz, hP, hK, hD0, hs⟩ := hv
  have hx := B.exec
  have hb := B.bytes
  have hr := B.returns
  have hts := atoms_spec (ws := wsX11_stays) B.pre
  have hown : s.vm.findClass RX11 = some m.cls := findClass_of_methodNamed B.named
  have hlocks := B.notSynchronized
  subst hsz
  have hD := hD0.self (sz := s.heap.size)
  generalize hAe : va_A (wC h cy S) s.heap.size = A at hD hs ⊢
  have hA : ∀ q : Nat, s.heap.size ≤ q → A q := fun q h => by rw [← hAe]; exact Or.inr h
  have hS : va_S A s.heap s.heap [] := va_S.rf
  have wc324 := hts (.constant RX11 324 (-100000)) (List.mem_of_getElem? (i := 1) rfl)
  have wc325 := hts (.constant RX11 325 (100000)) (List.mem_of_getElem? (i := 2) rfl)
  have wc326 := hts (.constant RX11 326 (1000000)) (List.mem_of_getElem? (i := 3) rfl)
  have hl := lv_entry ([.ref (h 0), .int p1, .int p2, .int p3, .int p4]) (n := 10) (Nat.le_of_ble_eq_true rfl)
  rw [lg_entry_eq]
  generalize (lg_sl ([.ref (h 0), .int p1, .int p2, .int p3, .int p4]) ++ List.replicate (10 - (lg_sl ([.ref (h 0), .int p1, .int p2, .int p3, .int p4])).length) Slot.unset).toArray = ls at hl ⊢
  have hl : lv_has ls 10 [(0, .ref (h 0)), (1, .int p1), (2, .int p2), (3, .int p3), (4, .int p4)] := hl
  unfold wC_X11_stays at hw
  clear hD0
  have L_62 : ∀ (n62 : Nat) (x1 : Int32) (x2 : Int32) (x3 : Int32) (x4 : Int32) (x5 : Int32) (x6 : Int32) (x7 : Int32) (x8 : Int32) (x9 : Int32) (S : CS) (H : Heap) (locs : List Loc) (ls : Array Slot), wC_X11_stays_62 post n62 x1 x2 x3 x4 x5 x6 x7 x8 x9 S → va_P D vwCl (wC h cy S) H → va_D A (wC h cy S) → va_S A s.heap H locs → lv_has ls 10 [(1, .int x1), (2, .int x2), (3, .int x3), (4, .int x4), (5, .int x5), (6, .int x6), (7, .int x7), (8, .int x8), (9, .int x9)] → W p l e (headSpec wsX11_stays { frames := 2, cells := 0, slots := 0, locals := 47 }).room s m (([.ref (h 0), .int p1, .int p2, .int p3, .int p4] : List Value).toArray) below meth c H locs 0 0 (MQ below (va_Qi post (k_Post D (tyC cy) (wC h cy) A) A) (([.ref (h 0), .int p1, .int p2, .int p3, .int p4] : List Value).toArray) s 0 0 A) (F0 m 62 ls []) := by
    intro n62
    induction n62 with
    | zero => intro x1 x2 x3 x4 x5 x6 x7 x8 x9 S H locs ls hw; exact False.elim hw
    | succ n62 ih_62 =>
      have J_103 : ∀ (x1 : Int32) (x2 : Int32) (x3 : Int32) (x4 : Int32) (x5 : Int32) (x6 : Int32) (x7 : Int32) (x8 : Int32) (x9 : Int32) (S : CS) (H : Heap) (locs : List Loc) (ls : Array Slot), wC_X11_stays_103 post (wC_X11_stays_62 post n62) x1 x2 x3 x4 x5 x6 x7 x8 x9 S → va_P D vwCl (wC h cy S) H → va_D A (wC h cy S) → va_S A s.heap H locs → lv_has ls 10 [(1, .int x1), (2, .int x2), (3, .int x3), (4, .int x4), (5, .int x5), (6, .int x6), (7, .int x7), (8, .int x8), (9, .int x9)] → W p l e (headSpec wsX11_stays { frames := 2, cells := 0, slots := 0, locals := 47 }).room s m (([.ref (h 0), .int p1, .int p2, .int p3, .int p4] : List Value).toArray) below meth c H locs 0 0 (MQ below (va_Qi post (k_Post D (tyC cy) (wC h cy) A) A) (([.ref (h 0), .int p1, .int p2, .int p3, .int p4] : List Value).toArray) s 0 0 A) (F0 m 103 ls []) := by
        intro x1 x2 x3 x4 x5 x6 x7 x8 x9 S H locs ls hw hP hD hS hl
        unfold wC_X11_stays_103 at hw
        refine lv_iload hx hb dX11_stays_103 (lv_at hl 7 rfl) ?_
        refine lv_bipush (v := 10) hx hb dX11_stays_105 (by decide) ?_
        refine lv_iload_n hx hb dX11_stays_107 rfl (lv_at hl 0 rfl) ?_
        refine lv_isub hx hb dX11_stays_108 ?_
        refine lv_imul hx hb dX11_stays_109 ?_
        refine lv_bipush (v := 10) hx hb dX11_stays_110 (by decide) ?_
        refine lv_idiv hx hb dX11_stays_112 (by decide) ?_
        refine lv_istore (lv' := [(8, .int ((x8 * (10 - x1)) / 10)), (1, .int x1), (2, .int x2), (3, .int x3), (4, .int x4), (5, .int x5), (6, .int x6), (7, .int x7), (9, .int x9)]) hx hb dX11_stays_113 hl (by decide) rfl (fun ls hl => ?_)
        refine lv_iinc (v := x9 + 1) (lv' := [(9, .int (x9 + 1)), (8, .int ((x8 * (10 - x1)) / 10)), (1, .int x1), (2, .int x2), (3, .int x3), (4, .int x4), (5, .int x5), (6, .int x6), (7, .int x7)]) hx hb dX11_stays_115 hl (k := 8) rfl (k_inc (by decide)) (by decide) rfl (fun ls hl => ?_)
        refine lv_goto (tgt := 62) hx hb dX11_stays_118 (by decide) ?_
        exact ih_62 x1 x2 x3 x4 x5 x6 x7 ((x8 * (10 - x1)) / 10) (x9 + 1) S _ _ _ hw hP hD hS (lv_sub hl [2, 3, 4, 5, 6, 7, 8, 1, 0] rfl)
      intro x1 x2 x3 x4 x5 x6 x7 x8 x9 S H locs ls hw hP hD hS hl
      unfold wC_X11_stays_62 at hw
      refine lv_iload hx hb dX11_stays_62 (lv_at hl 8 rfl) ?_
      refine lv_bipush (v := 6) hx hb dX11_stays_64 (by decide) ?_
      obtain ⟨hc_1t, hc_1f⟩ := hw
      refine lv_icmp_gt (tgt := 121) hx hb dX11_stays_66 (by decide) (fun c_1 => ?_) (fun c_1 => ?_)
      · have hw := hc_1t c_1
        clear hc_1t hc_1f
        refine lv_iload hx hb dX11_stays_121 (lv_at hl 3 rfl) ?_
        obtain ⟨hc_2t, hc_2f⟩ := hw
        refine lv_if_ne (tgt := 131) hx hb dX11_stays_123 (by decide) (fun c_2 => ?_) (fun c_2 => ?_)
        · have hw := hc_2f c_2
          clear hc_2t hc_2f
          refine lv_iload hx hb dX11_stays_131 (lv_at hl 5 rfl) ?_
          refine lv_ldcw (v := 1000000) hx hb hown wc326 dX11_stays_133 ?_
          refine lv_iload hx hb dX11_stays_136 (lv_at hl 3 rfl) ?_
          refine lv_iconst (v := 2) hx hb dX11_stays_138 (by decide) ?_
          obtain ⟨hc_3t, hc_3f⟩ := hw
          refine lv_icmp_ne (tgt := 146) hx hb dX11_stays_139 (by decide) (fun c_3 => ?_) (fun c_3 => ?_)
          · have hw := hc_3f c_3
            clear hc_3t hc_3f
            refine lv_iconst (v := 0) hx hb dX11_stays_146 (by decide) ?_
            refine e_callSi (As := [.int x6, .int 1000000, .int 0]) (rest := []) clE_stable hs ⟨hx, hb, hml, hown, hts⟩ (cC_X11_inLowestTerms l D h cy _ _ _ _ _ hw) (va_cwS 3 hts gX11_stays_X11_inLowestTerms rfl rfl rfl (by decide +kernel) ⟨Nat.le_of_ble_eq_true rfl, Nat.le_of_ble_eq_true rfl⟩) hK hP hD hS hA rfl hl.1 rfl (Nat.le_of_ble_eq_true rfl) dX11_stays_147 ⟨Nat.zero_le _, Nat.zero_le _⟩ (fun r_4 S_5 H locs hw hP hD hS => ?_)
            exact W.iret (v := r_4) hx hb hr (fun t ht hW => ⟨⟨r_4, S_5, rfl, hw, by rw [ht]; exact hP, va_K.moved hW.alike hK, hD⟩, hS.F ht⟩) hS.2.2 dX11_stays_150
          · have hw := hc_3t c_3
            clear hc_3t hc_3f
            refine lv_iconst (v := 1) hx hb dX11_stays_142 (by decide) ?_
            refine lv_goto (tgt := 147) hx hb dX11_stays_143 (by decide) ?_
            refine e_callSi (As := [.int x6, .int 1000000, .int 1]) (rest := []) clE_stable hs ⟨hx, hb, hml, hown, hts⟩ (cC_X11_inLowestTerms l D h cy _ _ _ _ _ hw) (va_cwS 3 hts gX11_stays_X11_inLowestTerms rfl rfl rfl (by decide +kernel) ⟨Nat.le_of_ble_eq_true rfl, Nat.le_of_ble_eq_true rfl⟩) hK hP hD hS hA rfl hl.1 rfl (Nat.le_of_ble_eq_true rfl) dX11_stays_147 ⟨Nat.zero_le _, Nat.zero_le _⟩ (fun r_6 S_7 H locs hw hP hD hS => ?_)
            exact W.iret (v := r_6) hx hb hr (fun t ht hW => ⟨⟨r_6, S_7, rfl, hw, by rw [ht]; exact hP, va_K.moved hW.alike hK, hD⟩, hS.F ht⟩) hS.2.2 dX11_stays_150
        · have hw := hc_2t c_2
          clear hc_2t hc_2f
          refine lv_iload hx hb dX11_stays_126 (lv_at hl 4 rfl) ?_
          refine lv_goto (tgt := 150) hx hb dX11_stays_128 (by decide) ?_
          exact W.iret (v := x5) hx hb hr (fun t ht hW => ⟨⟨x5, S, rfl, hw, by rw [ht]; exact hP, va_K.moved hW.alike hK, hD⟩, hS.F ht⟩) hS.2.2 dX11_stays_150
      · have hw := hc_1f c_1
        clear hc_1t hc_1f
        refine lv_iload hx hb dX11_stays_69 (lv_at hl 6 rfl) ?_
        refine lv_iload hx hb dX11_stays_71 (lv_at hl 7 rfl) ?_
        refine lv_iload_n hx hb dX11_stays_73 rfl (lv_at hl 0 rfl) ?_
        refine lv_iload_n hx hb dX11_stays_74 rfl (lv_at hl 1 rfl) ?_
        refine lv_imul hx hb dX11_stays_75 ?_
        refine lv_bipush (v := 10) hx hb dX11_stays_76 (by decide) ?_
        refine lv_iload hx hb dX11_stays_78 (lv_at hl 8 rfl) ?_
        refine lv_imul hx hb dX11_stays_80 ?_
        refine lv_iload_n hx hb dX11_stays_81 rfl (lv_at hl 2 rfl) ?_
        refine lv_imul hx hb dX11_stays_82 ?_
        refine lv_isub hx hb dX11_stays_83 ?_
        refine lv_imul hx hb dX11_stays_84 ?_
        refine lv_iadd hx hb dX11_stays_85 ?_
        refine lv_istore (lv' := [(7, .int (x7 + (x8 * ((x1 * x2) - ((10 * x9) * x3))))), (1, .int x1), (2, .int x2), (3, .int x3), (4, .int x4), (5, .int x5), (6, .int x6), (8, .int x8), (9, .int x9)]) hx hb dX11_stays_86 hl (by decide) rfl (fun ls hl => ?_)
        refine lv_iload hx hb dX11_stays_88 (lv_at hl 0 rfl) ?_
        refine lv_iload hx hb dX11_stays_90 (lv_at hl 6 rfl) ?_
        obtain ⟨hc_8t, hc_8f⟩ := hw
        refine lv_icmp_le (tgt := 103) hx hb dX11_stays_92 (by decide) (fun c_8 => ?_) (fun c_8 => ?_)
        · have hw := hc_8t c_8
          clear hc_8t hc_8f
          exact J_103 x1 x2 x3 x4 x5 x6 (x7 + (x8 * ((x1 * x2) - ((10 * x9) * x3)))) x8 x9 S _ _ _ hw hP hD hS (lv_sub hl [1, 2, 3, 4, 5, 6, 0, 7, 8] rfl)
        · have hw := hc_8f c_8
          clear hc_8t hc_8f
          refine lv_iload hx hb dX11_stays_95 (lv_at hl 0 rfl) ?_
          refine lv_istore (lv' := [(6, .int (x7 + (x8 * ((x1 * x2) - ((10 * x9) * x3))))), (7, .int (x7 + (x8 * ((x1 * x2) - ((10 * x9) * x3))))), (1, .int x1), (2, .int x2), (3, .int x3), (4, .int x4), (5, .int x5), (8, .int x8), (9, .int x9)]) hx hb dX11_stays_97 hl (by decide) rfl (fun ls hl => ?_)
          refine lv_iload hx hb dX11_stays_99 (lv_at hl 8 rfl) ?_
          refine lv_istore (lv' := [(5, .int x9), (6, .int (x7 + (x8 * ((x1 * x2) - ((10 * x9) * x3))))), (7, .int (x7 + (x8 * ((x1 * x2) - ((10 * x9) * x3))))), (1, .int x1), (2, .int x2), (3, .int x3), (4, .int x4), (8, .int x8), (9, .int x9)]) hx hb dX11_stays_101 hl (by decide) rfl (fun ls hl => ?_)
          exact J_103 x1 x2 x3 x4 x9 (x7 + (x8 * ((x1 * x2) - ((10 * x9) * x3)))) (x7 + (x8 * ((x1 * x2) - ((10 * x9) * x3)))) x8 x9 S _ _ _ hw hP hD hS (lv_sub hl [3, 4, 5, 6, 0, 1, 2, 7, 8] rfl)
  refine lv_iload_n hx hb dX11_stays_0 rfl (lv_at hl 1 rfl) ?_
  refine lv_iconst (v := 0) hx hb dX11_stays_1 (by decide) ?_
  refine lv_bipush (v := 10) hx hb dX11_stays_2 (by decide) ?_
  refine e_callSi (As := [.int p1, .int 0, .int 10]) (rest := []) clE_stable hs ⟨hx, hb, hml, hown, hts⟩ (cC_X11_within l D h cy _ _ _ _ _ hw) (va_cwS 3 hts gX11_stays_X11_within rfl rfl rfl (by decide +kernel) ⟨Nat.le_of_ble_eq_true rfl, Nat.le_of_ble_eq_true rfl⟩) hK hP hD hS hA rfl hl.1 rfl (Nat.le_of_ble_eq_true rfl) dX11_stays_4 ⟨Nat.zero_le _, Nat.zero_le _⟩ (fun r_9 S_10 H locs hw hP hD hS => ?_)
  obtain ⟨hc_11t, hc_11f⟩ := hw
  refine lv_if_eq (tgt := 41) hx hb dX11_stays_7 (by decide) (fun c_11 => ?_) (fun c_11 => ?_)
  · have hw := hc_11t c_11
    clear hc_11t hc_11f
    refine lv_ldcw (v := (-100000)) hx hb hown wc324 dX11_stays_41 ?_
    exact W.iret (v := (-100000)) hx hb hr (fun t ht hW => ⟨⟨(-100000), S_10, rfl, hw, by rw [ht]; exact hP, va_K.moved hW.alike hK, hD⟩, hS.F ht⟩) hS.2.2 dX11_stays_44
  · have hw := hc_11f c_11
    clear hc_11t hc_11f
    refine lv_iload_n hx hb dX11_stays_10 rfl (lv_at hl 2 rfl) ?_
    refine lv_iconst (v := 0) hx hb dX11_stays_11 (by decide) ?_
    refine lv_sipush (v := 999) hx hb dX11_stays_12 (by decide) ?_
    refine e_callSi (As := [.int p2, .int 0, .int 999]) (rest := []) clE_stable hs ⟨hx, hb, hml, hown, hts⟩ (cC_X11_within l D h cy _ _ _ _ _ hw) (va_cwS 3 hts gX11_stays_X11_within rfl rfl rfl (by decide +kernel) ⟨Nat.le_of_ble_eq_true rfl, Nat.le_of_ble_eq_true rfl⟩) hK hP hD hS hA rfl hl.1 rfl (Nat.le_of_ble_eq_true rfl) dX11_stays_15 ⟨Nat.zero_le _, Nat.zero_le _⟩ (fun r_12 S_13 H locs hw hP hD hS => ?_)
    obtain ⟨hc_14t, hc_14f⟩ := hw
    refine lv_if_eq (tgt := 41) hx hb dX11_stays_18 (by decide) (fun c_14 => ?_) (fun c_14 => ?_)
    · have hw := hc_14t c_14
      clear hc_14t hc_14f
      refine lv_ldcw (v := (-100000)) hx hb hown wc324 dX11_stays_41 ?_
      exact W.iret (v := (-100000)) hx hb hr (fun t ht hW => ⟨⟨(-100000), S_13, rfl, hw, by rw [ht]; exact hP, va_K.moved hW.alike hK, hD⟩, hS.F ht⟩) hS.2.2 dX11_stays_44
    · have hw := hc_14f c_14
      clear hc_14t hc_14f
      refine lv_iload_n hx hb dX11_stays_21 rfl (lv_at hl 3 rfl) ?_
      refine lv_iconst (v := 0) hx hb dX11_stays_22 (by decide) ?_
      refine lv_bipush (v := 99) hx hb dX11_stays_23 (by decide) ?_
      refine e_callSi (As := [.int p3, .int 0, .int 99]) (rest := []) clE_stable hs ⟨hx, hb, hml, hown, hts⟩ (cC_X11_within l D h cy _ _ _ _ _ hw) (va_cwS 3 hts gX11_stays_X11_within rfl rfl rfl (by decide +kernel) ⟨Nat.le_of_ble_eq_true rfl, Nat.le_of_ble_eq_true rfl⟩) hK hP hD hS hA rfl hl.1 rfl (Nat.le_of_ble_eq_true rfl) dX11_stays_25 ⟨Nat.zero_le _, Nat.zero_le _⟩ (fun r_15 S_16 H locs hw hP hD hS => ?_)
      obtain ⟨hc_17t, hc_17f⟩ := hw
      refine lv_if_eq (tgt := 41) hx hb dX11_stays_28 (by decide) (fun c_17 => ?_) (fun c_17 => ?_)
      · have hw := hc_17t c_17
        clear hc_17t hc_17f
        refine lv_ldcw (v := (-100000)) hx hb hown wc324 dX11_stays_41 ?_
        exact W.iret (v := (-100000)) hx hb hr (fun t ht hW => ⟨⟨(-100000), S_16, rfl, hw, by rw [ht]; exact hP, va_K.moved hW.alike hK, hD⟩, hS.F ht⟩) hS.2.2 dX11_stays_44
      · have hw := hc_17f c_17
        clear hc_17t hc_17f
        refine lv_iload hx hb dX11_stays_31 (lv_at hl 4 rfl) ?_
        refine lv_iconst (v := 0) hx hb dX11_stays_33 (by decide) ?_
        refine lv_iconst (v := 2) hx hb dX11_stays_34 (by decide) ?_
        refine e_callSi (As := [.int p4, .int 0, .int 2]) (rest := []) clE_stable hs ⟨hx, hb, hml, hown, hts⟩ (cC_X11_within l D h cy _ _ _ _ _ hw) (va_cwS 3 hts gX11_stays_X11_within rfl rfl rfl (by decide +kernel) ⟨Nat.le_of_ble_eq_true rfl, Nat.le_of_ble_eq_true rfl⟩) hK hP hD hS hA rfl hl.1 rfl (Nat.le_of_ble_eq_true rfl) dX11_stays_35 ⟨Nat.zero_le _, Nat.zero_le _⟩ (fun r_18 S_19 H locs hw hP hD hS => ?_)
        obtain ⟨hc_20t, hc_20f⟩ := hw
        refine lv_if_ne (tgt := 45) hx hb dX11_stays_38 (by decide) (fun c_20 => ?_) (fun c_20 => ?_)
        · have hw := hc_20f c_20
          clear hc_20t hc_20f
          refine lv_iconst (v := 0) hx hb dX11_stays_45 (by decide) ?_
          refine lv_istore (lv' := [(5, .int 0), (0, .ref (h 0)), (1, .int p1), (2, .int p2), (3, .int p3), (4, .int p4)]) hx hb dX11_stays_46 hl (by decide) rfl (fun ls hl => ?_)
          refine lv_iconst (v := 0) hx hb dX11_stays_48 (by decide) ?_
          refine lv_istore (lv' := [(6, .int 0), (5, .int 0), (0, .ref (h 0)), (1, .int p1), (2, .int p2), (3, .int p3), (4, .int p4)]) hx hb dX11_stays_49 hl (by decide) rfl (fun ls hl => ?_)
          refine lv_iconst (v := 0) hx hb dX11_stays_51 (by decide) ?_
          refine lv_istore (lv' := [(7, .int 0), (6, .int 0), (5, .int 0), (0, .ref (h 0)), (1, .int p1), (2, .int p2), (3, .int p3), (4, .int p4)]) hx hb dX11_stays_52 hl (by decide) rfl (fun ls hl => ?_)
          refine lv_ldcw (v := 100000) hx hb hown wc325 dX11_stays_54 ?_
          refine lv_istore (lv' := [(8, .int 100000), (7, .int 0), (6, .int 0), (5, .int 0), (0, .ref (h 0)), (1, .int p1), (2, .int p2), (3, .int p3), (4, .int p4)]) hx hb dX11_stays_57 hl (by decide) rfl (fun ls hl => ?_)
          refine lv_iconst (v := 1) hx hb dX11_stays_59 (by decide) ?_
          refine lv_istore (lv' := [(9, .int 1), (8, .int 100000), (7, .int 0), (6, .int 0), (5, .int 0), (0, .ref (h 0)), (1, .int p1), (2, .int p2), (3, .int p3), (4, .int p4)]) hx hb dX11_stays_60 hl (by decide) rfl (fun ls hl => ?_)
          obtain ⟨n_62, hw⟩ := hw
          exact L_62 n_62 p1 p2 p3 p4 0 0 0 100000 1 S_19 _ _ _ hw hP hD hS (lv_sub hl [6, 7, 8, 9, 4, 3, 2, 1, 0] rfl)
        · have hw := hc_20t c_20
          clear hc_20t hc_20f
          refine lv_ldcw (v := (-100000)) hx hb hown wc324 dX11_stays_41 ?_
          exact W.iret (v := (-100000)) hx hb hr (fun t ht hW => ⟨⟨(-100000), S_19, rfl, hw, by rw [ht]; exact hP, va_K.moved hW.alike hK, hD⟩, hS.F ht⟩) hS.2.2 dX11_stays_44
def wC_X11_behind (p1 : Int32) (p2 : Int32) (S : CS) (post : Int32 → CS → Prop) : Prop := wC_X11_isFall p1 S (fun r_1 S_2 => ((r_1 = 0 → post 0 S_2) ∧ (¬ (r_1 = 0) → wC_X11_isFall p2 S_2 (fun r_4 S_5 => ((r_4 = 0 → post 0 S_5) ∧ (¬ (r_4 = 0) → ((p1 = p2 → post 0 S_5) ∧ (¬ (p1 = p2) → (∀ S_8 : CS, S_8 = (cx_set_c_aheads S_5 (k_put 5 (cx_c_aheads S_5) p1 ((k_at 5 (cx_c_aheads S_5) p1) ||| (k_shl 1 p2)))) → ((((k_shr (k_at 5 (cx_c_aheads S_5) p1) p2) &&& 1) = 0 → post 1 S_8) ∧ (¬ (((k_shr (k_at 5 (cx_c_aheads S_5) p1) p2) &&& 1) = 0) → post 0 S_8)))))))))))
set_option maxHeartbeats 4000000 in
set_option maxRecDepth 100000 in
theorem cC_X11_behind (l : Launch) (D : va_G) (h : Nat → Nat) (cy : Nat → ClassId) (p1 : Int32) (p2 : Int32) (S : CS) (post : Int32 → CS → Prop) (hw : wC_X11_behind p1 p2 S post) : e_Mi clE l yX11_behind wsX11_behind { frames := 2, cells := 0, slots := 0, locals := 42 } D (tyC cy) (wC h cy) [.ref (h 0), .int p1, .int p2] S post := by
  intro sz
  refine Met.ofW (cc := cX11_behind) (maxL := 4) (ret := (some .boolean)) (by decide) rfl ?_
  intro p e s m args below meth c s₁ B hml hv
  obtain ⟨rfl, hsz, hP, hK, hD0, hs⟩ := hv
  have hx := B.exec
  have hb := B.bytes
  have hr := B.returns
  have hts := atoms_spec (ws := wsX11_behind) B.pre
  have hown : s.vm.findClass RX11 = some m.cls := findClass_of_methodNamed B.named
  have hlocks := B.notSynchronized
  subst hsz
  have hD := hD0.self (sz := s.heap.size)
  generalize hAe : va_A (wC h cy S) s.heap.size = A at hD hs ⊢
  have hA : ∀ q : Nat, s.heap.size ≤ q → A q := fun q h => by rw [← hAe]; exact Or.inr h
  have hS : va_S A s.heap s.heap [] := va_S.rf
  have hin11 : ∀ w ∈ wsX110, w ∈ wsX11_behind := fun _ h => List.mem_cons_of_mem _ (List.mem_append_left _ (List.mem_append_right _ h))
  have hin0 : ∀ w ∈ wsX00, w ∈ wsX11_behind := fun _ h => List.mem_cons_of_mem _ (List.mem_append_right _ h)
  have w10 := hts (.fieldLink RX11 10 "ClownsMourn" "city" "LClownsMourn$City;") (List.mem_of_getElem? (i := 1) rfl)
  have w327 := hts (.fieldLink RX11 327 "ClownsMourn$City" "aheads" "[I") (List.mem_of_getElem? (i := 2) rfl)
  have hl := lv_entry ([.ref (h 0), .int p1, .int p2]) (n := 4) (Nat.le_of_ble_eq_true rfl)
  rw [lg_entry_eq]
  generalize (lg_sl ([.ref (h 0), .int p1, .int p2]) ++ List.replicate (4 - (lg_sl ([.ref (h 0), .int p1, .int p2])).length) Slot.unset).toArray = ls at hl ⊢
  have hl : lv_has ls 4 [(0, .ref (h 0)), (1, .int p1), (2, .int p2)] := hl
  unfold wC_X11_behind at hw
  clear hD0
  refine lv_iload_n hx hb dX11_behind_0 rfl (lv_at hl 1 rfl) ?_
  refine e_callSi (As := [.int p1]) (rest := []) clE_stable hs ⟨hx, hb, hml, hown, hts⟩ (cC_X11_isFall l D h cy _ _ _ hw) (va_cwS 1 hts gX11_behind_X11_isFall rfl rfl rfl (by decide +kernel) ⟨Nat.le_of_ble_eq_true rfl, Nat.le_of_ble_eq_true rfl⟩) hK hP hD hS hA rfl hl.1 rfl (Nat.le_of_ble_eq_true rfl) dX11_behind_1 ⟨Nat.zero_le _, Nat.zero_le _⟩ (fun r_1 S_2 H locs hw hP hD hS => ?_)
  obtain ⟨hc_3t, hc_3f⟩ := hw
  refine lv_if_eq (tgt := 19) hx hb dX11_behind_4 (by decide) (fun c_3 => ?_) (fun c_3 => ?_)
  · have hw := hc_3t c_3
    clear hc_3t hc_3f
    refine lv_iconst (v := 0) hx hb dX11_behind_19 (by decide) ?_
    exact W.zret (v := 0) hx hb hr (by decide +kernel) (fun t ht hW => ⟨⟨0, S_2, rfl, hw, by rw [ht]; exact hP, va_K.moved hW.alike hK, hD⟩, hS.F ht⟩) hS.2.2 dX11_behind_20
  · have hw := hc_3f c_3
    clear hc_3t hc_3f
    refine lv_iload_n hx hb dX11_behind_7 rfl (lv_at hl 2 rfl) ?_
    refine e_callSi (As := [.int p2]) (rest := []) clE_stable hs ⟨hx, hb, hml, hown, hts⟩ (cC_X11_isFall l D h cy _ _ _ hw) (va_cwS 1 hts gX11_behind_X11_isFall rfl rfl rfl (by decide +kernel) ⟨Nat.le_of_ble_eq_true rfl, Nat.le_of_ble_eq_true rfl⟩) hK hP hD hS hA rfl hl.1 rfl (Nat.le_of_ble_eq_true rfl) dX11_behind_8 ⟨Nat.zero_le _, Nat.zero_le _⟩ (fun r_4 S_5 H locs hw hP hD hS => ?_)
    obtain ⟨hc_6t, hc_6f⟩ := hw
    refine lv_if_eq (tgt := 19) hx hb dX11_behind_11 (by decide) (fun c_6 => ?_) (fun c_6 => ?_)
    · have hw := hc_6t c_6
      clear hc_6t hc_6f
      refine lv_iconst (v := 0) hx hb dX11_behind_19 (by decide) ?_
      exact W.zret (v := 0) hx hb hr (by decide +kernel) (fun t ht hW => ⟨⟨0, S_5, rfl, hw, by rw [ht]; exact hP, va_K.moved hW.alike hK, hD⟩, hS.F ht⟩) hS.2.2 dX11_behind_20
    · have hw := hc_6f c_6
      clear hc_6t hc_6f
      refine lv_iload_n hx hb dX11_behind_14 rfl (lv_at hl 1 rfl) ?_
      refine lv_iload_n hx hb dX11_behind_15 rfl (lv_at hl 2 rfl) ?_
      obtain ⟨hc_7t, hc_7f⟩ := hw
      refine lv_icmp_ne (tgt := 21) hx hb dX11_behind_16 (by decide) (fun c_7 => ?_) (fun c_7 => ?_)
      · have hw := hc_7f c_7
        clear hc_7t hc_7f
        refine lv_aload_n hx hb dX11_behind_21 rfl (lv_at hl 0 rfl) ?_
        refine va_get (D := D) (ci := 10) (v := .ref (h 1)) (C := RX11) (T := TX11) (N := 9) hx hb hts hin11 hown hK hP 0 rfl rfl 0 (by decide) w10 (fun _ h9 => h9) rfl dX11_behind_22 ?_
        refine va_get (D := D) (ci := 0) (v := .ref (h 21)) (C := RX0) (T := TX0) (N := 16) hx hb hts hin0 hown hK hP 1 rfl rfl 13 (by decide) w327 (fun _ h9 => h9) rfl dX11_behind_25 ?_
        refine lv_iload_n hx hb dX11_behind_28 rfl (lv_at hl 1 rfl) ?_
        refine e_callSi (As := [.ref (h 21), .int p1]) (rest := []) clE_stable hs ⟨hx, hb, hml, hown, hts⟩ (cA_at l D clE (tyC cy) (wC h cy) S_5 21 9 _ _ 5 (cx_c_aheads S_5) rfl rfl (by decide) _ (fun r S0 => r = k_at 5 (cx_c_aheads S_5) p1 ∧ S_5 = S0) ⟨rfl, rfl⟩) (va_cwS 2 hts gX11_behind_X11_at rfl rfl rfl (by decide +kernel) ⟨Nat.le_of_ble_eq_true rfl, Nat.le_of_ble_eq_true rfl⟩) hK hP hD hS hA rfl hl.1 rfl (Nat.le_of_ble_eq_true rfl) dX11_behind_29 ⟨Nat.zero_le _, Nat.zero_le _⟩ (fun r_ S_ H locs hq hP hD hS => ?_)
        obtain ⟨rfl, rfl⟩ := hq
        refine lv_istore_n (lv' := [(3, .int (k_at 5 (cx_c_aheads S_5) p1)), (0, .ref (h 0)), (1, .int p1), (2, .int p2)]) hx hb dX11_behind_32 rfl hl (by decide) rfl (fun ls hl => ?_)
        refine lv_aload_n hx hb dX11_behind_33 rfl (lv_at hl 1 rfl) ?_
        refine va_get (D := D) (ci := 10) (v := .ref (h 1)) (C := RX11) (T := TX11) (N := 9) hx hb hts hin11 hown hK hP 0 rfl rfl 0 (by decide) w10 (fun _ h9 => h9) rfl dX11_behind_34 ?_
        refine va_get (D := D) (ci := 0) (v := .ref (h 21)) (C := RX0) (T := TX0) (N := 16) hx hb hts hin0 hown hK hP 1 rfl rfl 13 (by decide) w327 (fun _ h9 => h9) rfl dX11_behind_37 ?_
        refine lv_iload_n hx hb dX11_behind_40 rfl (lv_at hl 2 rfl) ?_
        refine lv_iload_n hx hb dX11_behind_41 rfl (lv_at hl 0 rfl) ?_
        refine lv_iconst (v := 1) hx hb dX11_behind_42 (by decide) ?_
        refine lv_iload_n hx hb dX11_behind_43 rfl (lv_at hl 3 rfl) ?_
        refine k_ishl hx hb dX11_behind_44 ?_
        refine lv_ior hx hb dX11_behind_45 ?_
        refine e_callSv (As := [.ref (h 21), .int p1, .int ((k_at 5 (cx_c_aheads S_5) p1) ||| (k_shl 1 p2))]) (rest := []) clE_stable hs ⟨hx, hb, hml, hown, hts⟩ (cA_put l D clE (tyC cy) (wC h cy) cx_c_aheads cx_set_c_aheads S_5 21 9 _ _ 5 rfl (wCs_c_aheads h cy S_5) rfl (by decide) _ _ (fun S0 => S0 = (cx_set_c_aheads S_5 (k_put 5 (cx_c_aheads S_5) p1 ((k_at 5 (cx_c_aheads S_5) p1) ||| (k_shl 1 p2))))) rfl) (va_cwS 3 hts gX11_behind_X11_put rfl rfl rfl (by decide +kernel) ⟨Nat.le_of_ble_eq_true rfl, Nat.le_of_ble_eq_true rfl⟩) hK hP hD hS hA rfl hl.1 rfl (Nat.le_of_ble_eq_true rfl) dX11_behind_46 ⟨Nat.zero_le _, Nat.zero_le _⟩ (fun S_8 H locs eS_8 hP hD hS => ?_)
        replace hw := hw S_8 eS_8
        refine lv_iload_n hx hb dX11_behind_49 rfl (lv_at hl 0 rfl) ?_
        refine lv_iload_n hx hb dX11_behind_50 rfl (lv_at hl 3 rfl) ?_
        refine k_ishr hx hb dX11_behind_51 ?_
        refine lv_iconst (v := 1) hx hb dX11_behind_52 (by decide) ?_
        refine lv_iand hx hb dX11_behind_53 ?_
        obtain ⟨hc_9t, hc_9f⟩ := hw
        refine lv_if_ne (tgt := 61) hx hb dX11_behind_54 (by decide) (fun c_9 => ?_) (fun c_9 => ?_)
        · have hw := hc_9f c_9
          clear hc_9t hc_9f
          refine lv_iconst (v := 0) hx hb dX11_behind_61 (by decide) ?_
          exact W.zret (v := 0) hx hb hr (by decide +kernel) (fun t ht hW => ⟨⟨0, S_8, rfl, hw, by rw [ht]; exact hP, va_K.moved hW.alike hK, hD⟩, hS.F ht⟩) hS.2.2 dX11_behind_62
        · have hw := hc_9t c_9
          clear hc_9t hc_9f
          refine lv_iconst (v := 1) hx hb dX11_behind_57 (by decide) ?_
          refine lv_goto (tgt := 62) hx hb dX11_behind_58 (by decide) ?_
          exact W.zret (v := 1) hx hb hr (by decide +kernel) (fun t ht hW => ⟨⟨1, S_8, rfl, hw, by rw [ht]; exact hP, va_K.moved hW.alike hK, hD⟩, hS.F ht⟩) hS.2.2 dX11_behind_62
      · have hw := hc_7t c_7
        clear hc_7t hc_7f
        refine lv_iconst (v := 0) hx hb dX11_behind_19 (by decide) ?_
        exact W.zret (v := 0) hx hb hr (by decide +kernel) (fun t ht hW => ⟨⟨0, S_5, rfl, hw, by rw [ht]; exact hP, va_K.moved hW.alike hK, hD⟩, hS.F ht⟩) hS.2.2 dX11_behind_20
def wC_X11_canLearn_city_aheads (p2 : Int32) (p3 : Int32) (S : CS) (post : Int32 → CS → Prop) : Prop := ((((k_shr p2 p3) &&& 1) = 0 → ((((k_at 5 (cx_c_aheads S) p3) &&& (p2 ^^^ (-1))) = 0 → post 1 S) ∧ (¬ (((k_at 5 (cx_c_aheads S) p3) &&& (p2 ^^^ (-1))) = 0) → post 0 S))) ∧ (¬ (((k_shr p2 p3) &&& 1) = 0) → post 0 S))
set_option maxHeartbeats 4000000 in
set_option maxRecDepth 100000 in
theorem cC_X11_canLearn_city_aheads (l : Launch) (D : va_G) (h : Nat → Nat) (cy : Nat → ClassId) (p2 : Int32) (p3 : Int32) (S : CS) (post : Int32 → CS → Prop) (hw : wC_X11_canLearn_city_aheads p2 p3 S post) : e_Mi clE l yX11_canLearn wsX11_canLearn { frames := 1, cells := 0, slots := 0, locals := 21 } D (tyC cy) (wC h cy) [.ref (h 21), .int p2, .int p3] S post := by
  intro sz
  refine Met.ofW (cc := cX11_canLearn) (maxL := 3) (ret := (some .boolean)) (by decide) rfl ?_
  intro p e s m args below meth c s₁ B hml hv
  obtain ⟨rfl, hsz, hP, hK, hD0, hs⟩ := hv
  have hx := B.exec
  have hb := B.bytes
  have hr := B.returns
  have hts := atoms_spec (ws := wsX11_canLearn) B.pre
  have hown : s.vm.findClass RX11 = some m.cls := findClass_of_methodNamed B.named
  have hlocks := B.notSynchronized
  subst hsz
  have hD := hD0.self (sz := s.heap.size)
  generalize hAe : va_A (wC h cy S) s.heap.size = A at hD hs ⊢
  have hA : ∀ q : Nat, s.heap.size ≤ q → A q := fun q h => by rw [← hAe]; exact Or.inr h
  have hS : va_S A s.heap s.heap [] := va_S.rf
  have hl := lv_entry ([.ref (h 21), .int p2, .int p3]) (n := 3) (Nat.le_of_ble_eq_true rfl)
  rw [lg_entry_eq]
  generalize (lg_sl ([.ref (h 21), .int p2, .int p3]) ++ List.replicate (3 - (lg_sl ([.ref (h 21), .int p2, .int p3])).length) Slot.unset).toArray = ls at hl ⊢
  have hl : lv_has ls 3 [(0, .ref (h 21)), (1, .int p2), (2, .int p3)] := hl
  unfold wC_X11_canLearn_city_aheads at hw
  clear hD0
  refine lv_iload_n hx hb dX11_canLearn_0 rfl (lv_at hl 1 rfl) ?_
  refine lv_iload_n hx hb dX11_canLearn_1 rfl (lv_at hl 2 rfl) ?_
  refine k_ishr hx hb dX11_canLearn_2 ?_
  refine lv_iconst (v := 1) hx hb dX11_canLearn_3 (by decide) ?_
  refine lv_iand hx hb dX11_canLearn_4 ?_
  obtain ⟨hc_1t, hc_1f⟩ := hw
  refine lv_if_ne (tgt := 24) hx hb dX11_canLearn_5 (by decide) (fun c_1 => ?_) (fun c_1 => ?_)
  · have hw := hc_1f c_1
    clear hc_1t hc_1f
    refine lv_iconst (v := 0) hx hb dX11_canLearn_24 (by decide) ?_
    exact W.zret (v := 0) hx hb hr (by decide +kernel) (fun t ht hW => ⟨⟨0, S, rfl, hw, by rw [ht]; exact hP, va_K.moved hW.alike hK, hD⟩, hS.F ht⟩) hS.2.2 dX11_canLearn_25
  · have hw := hc_1t c_1
    clear hc_1t hc_1f
    refine lv_aload_n hx hb dX11_canLearn_8 rfl (lv_at hl 0 rfl) ?_
    refine lv_iload_n hx hb dX11_canLearn_9 rfl (lv_at hl 2 rfl) ?_
    refine e_callSi (As := [.ref (h 21), .int p3]) (rest := []) clE_stable hs ⟨hx, hb, hml, hown, hts⟩ (cA_at l D clE (tyC cy) (wC h cy) S 21 9 _ _ 5 (cx_c_aheads S) rfl rfl (by decide) _ (fun r S0 => r = k_at 5 (cx_c_aheads S) p3 ∧ S = S0) ⟨rfl, rfl⟩) (va_cwS 2 hts gX11_canLearn_X11_at rfl rfl rfl (by decide +kernel) ⟨Nat.le_of_ble_eq_true rfl, Nat.le_of_ble_eq_true rfl⟩) hK hP hD hS hA rfl hl.1 rfl (Nat.le_of_ble_eq_true rfl) dX11_canLearn_10 ⟨Nat.zero_le _, Nat.zero_le _⟩ (fun r_ S_ H locs hq hP hD hS => ?_)
    obtain ⟨rfl, rfl⟩ := hq
    refine lv_iload_n hx hb dX11_canLearn_13 rfl (lv_at hl 1 rfl) ?_
    refine lv_iconst (v := (-1)) hx hb dX11_canLearn_14 (by decide) ?_
    refine lv_ixor hx hb dX11_canLearn_15 ?_
    refine lv_iand hx hb dX11_canLearn_16 ?_
    obtain ⟨hc_2t, hc_2f⟩ := hw
    refine lv_if_ne (tgt := 24) hx hb dX11_canLearn_17 (by decide) (fun c_2 => ?_) (fun c_2 => ?_)
    · have hw := hc_2f c_2
      clear hc_2t hc_2f
      refine lv_iconst (v := 0) hx hb dX11_canLearn_24 (by decide) ?_
      exact W.zret (v := 0) hx hb hr (by decide +kernel) (fun t ht hW => ⟨⟨0, S, rfl, hw, by rw [ht]; exact hP, va_K.moved hW.alike hK, hD⟩, hS.F ht⟩) hS.2.2 dX11_canLearn_25
    · have hw := hc_2t c_2
      clear hc_2t hc_2f
      refine lv_iconst (v := 1) hx hb dX11_canLearn_20 (by decide) ?_
      refine lv_goto (tgt := 25) hx hb dX11_canLearn_21 (by decide) ?_
      exact W.zret (v := 1) hx hb hr (by decide +kernel) (fun t ht hW => ⟨⟨1, S, rfl, hw, by rw [ht]; exact hP, va_K.moved hW.alike hK, hD⟩, hS.F ht⟩) hS.2.2 dX11_canLearn_25
def wC_X11_ordersFrom_city_aheads_12 (Rc : Int32 → CS → (Int32 → CS → Prop) → Prop) (post : Int32 → CS → Prop) : Nat → Int32 → Int32 → Int32 → CS → Prop
  | 0, _, _, _, _ => False
  | n + 1, x1, x2, x3, S => ((5 ≤ x3 → post x2 S) ∧ (¬ (5 ≤ x3) → wC_X11_canLearn_city_aheads x1 x3 S (fun r_2 S_3 => ((r_2 = 0 → wC_X11_ordersFrom_city_aheads_12 Rc post n x1 x2 (x3 + 1) S_3) ∧ (¬ (r_2 = 0) → Rc (x1 ||| (k_shl 1 x3)) S_3 (fun r_5 S_6 => wC_X11_ordersFrom_city_aheads_12 Rc post n x1 (x2 + r_5) (x3 + 1) S_6))))))
def wB_X11_ordersFrom_city_aheads (Rc : Int32 → CS → (Int32 → CS → Prop) → Prop) (p2 : Int32) (S : CS) (post : Int32 → CS → Prop) : Prop := ((p2 = 31 → post 1 S) ∧ (¬ (p2 = 31) → ∃ k_ : Nat, wC_X11_ordersFrom_city_aheads_12 Rc post k_ p2 0 0 S))
set_option maxHeartbeats 4000000 in
set_option maxRecDepth 100000 in
theorem cB_X11_ordersFrom_city_aheads (l : Launch) (D : va_G) (h : Nat → Nat) (cy : Nat → ClassId) (d : Nat) (Rc : Int32 → CS → (Int32 → CS → Prop) → Prop) (hR0 : ∀ (p2 : Int32) (S : CS) (post : Int32 → CS → Prop), Rc p2 S post → e_Mi clE l yX11_ordersFrom wsX11_ordersFrom { frames := 2 + d, cells := 0, slots := 0, locals := 43 + d * 23 } D (tyC cy) (wC h cy) [.ref (h 21), .int p2] S post) (p2 : Int32) (S : CS) (post : Int32 → CS → Prop) (hw : wB_X11_ordersFrom_city_aheads Rc p2 S post) : e_Mi clE l yX11_ordersFrom wsX11_ordersFrom { frames := 2 + (d + 1), cells := 0, slots := 0, locals := 43 + (d + 1) * 23 } D (tyC cy) (wC h cy) [.ref (h 21), .int p2] S post := by
  intro sz
  refine Met.ofW (cc := cX11_ordersFrom) (maxL := 4) (ret := (some .int)) (by decide) rfl ?_
  intro p e s m args below meth c s₁ B hml hv
  obtain ⟨rfl, hsz, hP, hK, hD0, hs⟩ := hv
  have hx := B.exec
  have hb := B.bytes
  have hr := B.returns
  have hts := atoms_spec (ws := wsX11_ordersFrom) B.pre
  have hown : s.vm.findClass RX11 = some m.cls := findClass_of_methodNamed B.named
  have hlocks := B.notSynchronized
  subst hsz
  have hD := hD0.self (sz := s.heap.size)
  generalize hAe : va_A (wC h cy S) s.heap.size = A at hD hs ⊢
  have hA : ∀ q : Nat, s.heap.size ≤ q → A q := fun q h => by rw [← hAe]; exact Or.inr h
  have hS : va_S A s.heap s.heap [] := va_S.rf
  have hl := lv_entry ([.ref (h 21), .int p2]) (n := 4) (Nat.le_of_ble_eq_true rfl)
  rw [lg_entry_eq]
  generalize (lg_sl ([.ref (h 21), .int p2]) ++ List.replicate (4 - (lg_sl ([.ref (h 21), .int p2])).length) Slot.unset).toArray = ls at hl ⊢
  have hl : lv_has ls 4 [(0, .ref (h 21)), (1, .int p2)] := hl
  unfold wB_X11_ordersFrom_city_aheads at hw
  clear hD0
  have L_12 : ∀ (n12 : Nat) (x1 : Int32) (x2 : Int32) (x3 : Int32) (S : CS) (H : Heap) (locs : List Loc) (ls : Array Slot), wC_X11_ordersFrom_city_aheads_12 Rc post n12 x1 x2 x3 S → va_P D vwCl (wC h cy S) H → va_D A (wC h cy S) → va_S A s.heap H locs → lv_has ls 4 [(0, .ref (h 21)), (1, .int x1), (2, .int x2), (3, .int x3)] → W p l e (headSpec wsX11_ordersFrom { frames := 2 + (d + 1), cells := 0, slots := 0, locals := 43 + (d + 1) * 23 }).room s m (([.ref (h 21), .int p2] : List Value).toArray) below meth c H locs 0 0 (MQ below (va_Qi post (k_Post D (tyC cy) (wC h cy) A) A) (([.ref (h 21), .int p2] : List Value).toArray) s 0 0 A) (F0 m 12 ls []) := by
    intro n12
    induction n12 with
    | zero => intro x1 x2 x3 S H locs ls hw; exact False.elim hw
    | succ n12 ih_12 =>
      intro x1 x2 x3 S H locs ls hw hP hD hS hl
      unfold wC_X11_ordersFrom_city_aheads_12 at hw
      refine lv_iload_n hx hb dX11_ordersFrom_12 rfl (lv_at hl 3 rfl) ?_
      refine lv_iconst (v := 5) hx hb dX11_ordersFrom_13 (by decide) ?_
      obtain ⟨hc_1t, hc_1f⟩ := hw
      refine lv_icmp_ge (tgt := 44) hx hb dX11_ordersFrom_14 (by decide) (fun c_1 => ?_) (fun c_1 => ?_)
      · have hw := hc_1t c_1
        clear hc_1t hc_1f
        refine lv_iload_n hx hb dX11_ordersFrom_44 rfl (lv_at hl 2 rfl) ?_
        exact W.iret (v := x2) hx hb hr (fun t ht hW => ⟨⟨x2, S, rfl, hw, by rw [ht]; exact hP, va_K.moved hW.alike hK, hD⟩, hS.F ht⟩) hS.2.2 dX11_ordersFrom_45
      · have hw := hc_1f c_1
        clear hc_1t hc_1f
        refine lv_aload_n hx hb dX11_ordersFrom_17 rfl (lv_at hl 0 rfl) ?_
        refine lv_iload_n hx hb dX11_ordersFrom_18 rfl (lv_at hl 1 rfl) ?_
        refine lv_iload_n hx hb dX11_ordersFrom_19 rfl (lv_at hl 3 rfl) ?_
        refine e_callSi (As := [.ref (h 21), .int x1, .int x3]) (rest := []) clE_stable hs ⟨hx, hb, hml, hown, hts⟩ (cC_X11_canLearn_city_aheads l D h cy _ _ _ _ hw) (va_cwS 3 hts gX11_ordersFrom_X11_canLearn rfl rfl rfl (by decide +kernel) ⟨by show 1 + 1 ≤ 2 + (d + 1); omega, by show 8 + (3 + 11) + 21 ≤ 43 + (d + 1) * 23; omega⟩) hK hP hD hS hA rfl hl.1 rfl (Nat.le_of_ble_eq_true rfl) dX11_ordersFrom_20 ⟨Nat.zero_le _, Nat.zero_le _⟩ (fun r_2 S_3 H locs hw hP hD hS => ?_)
        obtain ⟨hc_4t, hc_4f⟩ := hw
        refine lv_if_eq (tgt := 38) hx hb dX11_ordersFrom_23 (by decide) (fun c_4 => ?_) (fun c_4 => ?_)
        · have hw := hc_4t c_4
          clear hc_4t hc_4f
          refine lv_iinc (v := x3 + 1) (lv' := [(3, .int (x3 + 1)), (0, .ref (h 21)), (1, .int x1), (2, .int x2)]) hx hb dX11_ordersFrom_38 hl (k := 3) rfl (k_inc (by decide)) (by decide) rfl (fun ls hl => ?_)
          refine lv_goto (tgt := 12) hx hb dX11_ordersFrom_41 (by decide) ?_
          exact ih_12 x1 x2 (x3 + 1) S_3 _ _ _ hw hP hD hS (lv_sub hl [1, 2, 3, 0] rfl)
        · have hw := hc_4f c_4
          clear hc_4t hc_4f
          refine lv_iload_n hx hb dX11_ordersFrom_26 rfl (lv_at hl 2 rfl) ?_
          refine lv_aload_n hx hb dX11_ordersFrom_27 rfl (lv_at hl 0 rfl) ?_
          refine lv_iload_n hx hb dX11_ordersFrom_28 rfl (lv_at hl 1 rfl) ?_
          refine lv_iconst (v := 1) hx hb dX11_ordersFrom_29 (by decide) ?_
          refine lv_iload_n hx hb dX11_ordersFrom_30 rfl (lv_at hl 3 rfl) ?_
          refine k_ishl hx hb dX11_ordersFrom_31 ?_
          refine lv_ior hx hb dX11_ordersFrom_32 ?_
          refine e_callSi (As := [.ref (h 21), .int (x1 ||| (k_shl 1 x3))]) (rest := [.int x2]) clE_stable hs ⟨hx, hb, hml, hown, hts⟩ (hR0 _ _ _ hw) (va_cwS 2 hts gX11_ordersFrom_X11_ordersFrom rfl rfl rfl (by decide +kernel) ⟨by show 2 + d + 1 ≤ 2 + (d + 1); omega, by show 8 + (4 + 11) + (43 + d * 23) ≤ 43 + (d + 1) * 23; omega⟩) hK hP hD hS hA rfl hl.1 rfl (Nat.le_of_ble_eq_true rfl) dX11_ordersFrom_33 ⟨Nat.zero_le _, Nat.zero_le _⟩ (fun r_5 S_6 H locs hw hP hD hS => ?_)
          refine lv_iadd hx hb dX11_ordersFrom_36 ?_
          refine lv_istore_n (lv' := [(2, .int (x2 + r_5)), (0, .ref (h 21)), (1, .int x1), (3, .int x3)]) hx hb dX11_ordersFrom_37 rfl hl (by decide) rfl (fun ls hl => ?_)
          refine lv_iinc (v := x3 + 1) (lv' := [(3, .int (x3 + 1)), (2, .int (x2 + r_5)), (0, .ref (h 21)), (1, .int x1)]) hx hb dX11_ordersFrom_38 hl (k := 3) rfl (k_inc (by decide)) (by decide) rfl (fun ls hl => ?_)
          refine lv_goto (tgt := 12) hx hb dX11_ordersFrom_41 (by decide) ?_
          exact ih_12 x1 (x2 + r_5) (x3 + 1) S_6 _ _ _ hw hP hD hS (lv_sub hl [2, 3, 1, 0] rfl)
  refine lv_iload_n hx hb dX11_ordersFrom_0 rfl (lv_at hl 1 rfl) ?_
  refine lv_bipush (v := 31) hx hb dX11_ordersFrom_1 (by decide) ?_
  obtain ⟨hc_7t, hc_7f⟩ := hw
  refine lv_icmp_ne (tgt := 8) hx hb dX11_ordersFrom_3 (by decide) (fun c_7 => ?_) (fun c_7 => ?_)
  · have hw := hc_7f c_7
    clear hc_7t hc_7f
    refine lv_iconst (v := 0) hx hb dX11_ordersFrom_8 (by decide) ?_
    refine lv_istore_n (lv' := [(2, .int 0), (0, .ref (h 21)), (1, .int p2)]) hx hb dX11_ordersFrom_9 rfl hl (by decide) rfl (fun ls hl => ?_)
    refine lv_iconst (v := 0) hx hb dX11_ordersFrom_10 (by decide) ?_
    refine lv_istore_n (lv' := [(3, .int 0), (2, .int 0), (0, .ref (h 21)), (1, .int p2)]) hx hb dX11_ordersFrom_11 rfl hl (by decide) rfl (fun ls hl => ?_)
    obtain ⟨n_12, hw⟩ := hw
    exact L_12 n_12 p2 0 0 S _ _ _ hw hP hD hS (lv_sub hl [2, 3, 1, 0] rfl)
  · have hw := hc_7t c_7
    clear hc_7t hc_7f
    refine lv_iconst (v := 1) hx hb dX11_ordersFrom_6 (by decide) ?_
    exact W.iret (v := 1) hx hb hr (fun t ht hW => ⟨⟨1, S, rfl, hw, by rw [ht]; exact hP, va_K.moved hW.alike hK, hD⟩, hS.F ht⟩) hS.2.2 dX11_ordersFrom_7
def wD_X11_ordersFrom_city_aheads : Nat → Int32 → CS → (Int32 → CS → Prop) → Prop
  | 0, _, _, _ => False
  | d + 1, p2, S, post => wB_X11_ordersFrom_city_aheads (wD_X11_ordersFrom_city_aheads d) p2 S post
theorem cD_X11_ordersFrom_city_aheads (l : Launch) (D : va_G) (h : Nat → Nat) (cy : Nat → ClassId) (d : Nat) : ∀ (p2 : Int32) (S : CS) (post : Int32 → CS → Prop), wD_X11_ordersFrom_city_aheads d p2 S post → e_Mi clE l yX11_ordersFrom wsX11_ordersFrom { frames := 2 + d, cells := 0, slots := 0, locals := 43 + d * 23 } D (tyC cy) (wC h cy) [.ref (h 21), .int p2] S post := by
  induction d with
  | zero => intro p2 S post hw; exact False.elim hw
  | succ d ih => intro p2 S post hw; exact cB_X11_ordersFrom_city_aheads l D h cy d (wD_X11_ordersFrom_city_aheads d) ih p2 S post hw
def wC_X11_ordersFrom_city_aheads (p2 : Int32) (S : CS) (post : Int32 → CS → Prop) : Prop := wD_X11_ordersFrom_city_aheads 8 p2 S post
theorem cC_X11_ordersFrom_city_aheads (l : Launch) (D : va_G) (h : Nat → Nat) (cy : Nat → ClassId) (p2 : Int32) (S : CS) (post : Int32 → CS → Prop) (hw : wC_X11_ordersFrom_city_aheads p2 S post) : e_Mi clE l yX11_ordersFrom wsX11_ordersFrom { frames := 10, cells := 0, slots := 0, locals := 227 } D (tyC cy) (wC h cy) [.ref (h 21), .int p2] S post := cD_X11_ordersFrom_city_aheads l D h cy 8 p2 S post hw
def wC_X11_lowestLesson_18 (post : Int32 → CS → Prop) (K7 : Int32 → Int32 → Int32 → Int32 → CS → Prop) : Nat → Int32 → Int32 → Int32 → Int32 → Int32 → CS → Prop
  | 0, _, _, _, _, _, _ => False
  | n + 1, x1, x2, x3, x4, x5, S => ((x5 < 0 → ((x3 = (-1) → K7 x1 (x2 ||| 0) x3 (x4 + 1) S) ∧ (¬ (x3 = (-1)) → K7 x1 (x2 ||| (k_shl 1 x3)) x3 (x4 + 1) S))) ∧ (¬ (x5 < 0) → wC_X11_canLearn_city_aheads x2 x5 S (fun r_3 S_4 => ((r_3 = 0 → wC_X11_lowestLesson_18 post K7 n x1 x2 x3 x4 (x5 + (-1)) S_4) ∧ (¬ (r_3 = 0) → wC_X11_lowestLesson_18 post K7 n x1 x2 x5 x4 (x5 + (-1)) S_4)))))
def wC_X11_lowestLesson_7 (post : Int32 → CS → Prop) : Nat → Int32 → Int32 → Int32 → Int32 → CS → Prop
  | 0, _, _, _, _, _ => False
  | n + 1, x1, x2, x3, x4, S => ((x1 < x4 → post x3 S) ∧ (¬ (x1 < x4) → ∃ k_ : Nat, wC_X11_lowestLesson_18 post (wC_X11_lowestLesson_7 post n) k_ x1 x2 (-1) x4 4 S))
def wC_X11_lowestLesson (p1 : Int32) (S : CS) (post : Int32 → CS → Prop) : Prop := ∃ k_ : Nat, wC_X11_lowestLesson_7 post k_ p1 0 (-1) 0 S
set_option maxHeartbeats 4000000 in
set_option maxRecDepth 100000 in
theorem cC_X11_lowestLesson (l : Launch) (D : va_G) (h : Nat → Nat) (cy : Nat → ClassId) (p1 : Int32) (S : CS) (post : Int32 → CS → Prop) (hw : wC_X11_lowestLesson p1 S post) : e_Mi clE l yX11_lowestLesson wsX11_lowestLesson { frames := 2, cells := 0, slots := 0, locals := 43 } D (tyC cy) (wC h cy) [.ref (h 0), .int p1] S post := by
  intro sz
  refine Met.ofW (cc := cX11_lowestLesson) (maxL := 6) (ret := (some .int)) (by decide) rfl ?_
  intro p e s m args below meth c s₁ B hml hv
  obtain ⟨rfl, hsz, hP, hK, hD0, hs⟩ := hv
  have hx := B.exec
  have hb := B.bytes
  have hr := B.returns
  have hts := atoms_spec (ws := wsX11_lowestLesson) B.pre
  have hown : s.vm.findClass RX11 = some m.cls := findClass_of_methodNamed B.named
  have hlocks := B.notSynchronized
  subst hsz
  have hD := hD0.self (sz := s.heap.size)
  generalize hAe : va_A (wC h cy S) s.heap.size = A at hD hs ⊢
  have hA : ∀ q : Nat, s.heap.size ≤ q → A q := fun q h => by rw [← hAe]; exact Or.inr h
  have hS : va_S A s.heap s.heap [] := va_S.rf
  have hin11 : ∀ w ∈ wsX110, w ∈ wsX11_lowestLesson := fun _ h => List.mem_cons_of_mem _ (List.mem_append_left _ (List.mem_append_right _ h))
  have hin0 : ∀ w ∈ wsX00, w ∈ wsX11_lowestLesson := fun _ h => List.mem_cons_of_mem _ (List.mem_append_right _ h)
  have w10 := hts (.fieldLink RX11 10 "ClownsMourn" "city" "LClownsMourn$City;") (List.mem_of_getElem? (i := 1) rfl)
  have w327 := hts (.fieldLink RX11 327 "ClownsMourn$City" "aheads" "[I") (List.mem_of_getElem? (i := 2) rfl)
  have hl := lv_entry ([.ref (h 0), .int p1]) (n := 6) (Nat.le_of_ble_eq_true rfl)
  rw [lg_entry_eq]
  generalize (lg_sl ([.ref (h 0), .int p1]) ++ List.replicate (6 - (lg_sl ([.ref (h 0), .int p1])).length) Slot.unset).toArray = ls at hl ⊢
  have hl : lv_has ls 6 [(0, .ref (h 0)), (1, .int p1)] := hl
  unfold wC_X11_lowestLesson at hw
  clear hD0
  have L_7 : ∀ (n7 : Nat) (x1 : Int32) (x2 : Int32) (x3 : Int32) (x4 : Int32) (S : CS) (H : Heap) (locs : List Loc) (ls : Array Slot), wC_X11_lowestLesson_7 post n7 x1 x2 x3 x4 S → va_P D vwCl (wC h cy S) H → va_D A (wC h cy S) → va_S A s.heap H locs → lv_has ls 6 [(0, .ref (h 0)), (1, .int x1), (2, .int x2), (3, .int x3), (4, .int x4)] → W p l e (headSpec wsX11_lowestLesson { frames := 2, cells := 0, slots := 0, locals := 43 }).room s m (([.ref (h 0), .int p1] : List Value).toArray) below meth c H locs 0 0 (MQ below (va_Qi post (k_Post D (tyC cy) (wC h cy) A) A) (([.ref (h 0), .int p1] : List Value).toArray) s 0 0 A) (F0 m 7 ls []) := by
    intro n7
    induction n7 with
    | zero => intro x1 x2 x3 x4 S H locs ls hw; exact False.elim hw
    | succ n7 ih_7 =>
      have L_18 : ∀ (n18 : Nat) (x1 : Int32) (x2 : Int32) (x3 : Int32) (x4 : Int32) (x5 : Int32) (S : CS) (H : Heap) (locs : List Loc) (ls : Array Slot), wC_X11_lowestLesson_18 post (wC_X11_lowestLesson_7 post n7) n18 x1 x2 x3 x4 x5 S → va_P D vwCl (wC h cy S) H → va_D A (wC h cy S) → va_S A s.heap H locs → lv_has ls 6 [(0, .ref (h 0)), (1, .int x1), (2, .int x2), (3, .int x3), (4, .int x4), (5, .int x5)] → W p l e (headSpec wsX11_lowestLesson { frames := 2, cells := 0, slots := 0, locals := 43 }).room s m (([.ref (h 0), .int p1] : List Value).toArray) below meth c H locs 0 0 (MQ below (va_Qi post (k_Post D (tyC cy) (wC h cy) A) A) (([.ref (h 0), .int p1] : List Value).toArray) s 0 0 A) (F0 m 18 ls []) := by
        intro n18
        induction n18 with
        | zero => intro x1 x2 x3 x4 x5 S H locs ls hw; exact False.elim hw
        | succ n18 ih_18 =>
          intro x1 x2 x3 x4 x5 S H locs ls hw hP hD hS hl
          unfold wC_X11_lowestLesson_18 at hw
          refine lv_iload hx hb dX11_lowestLesson_18 (lv_at hl 5 rfl) ?_
          obtain ⟨hc_1t, hc_1f⟩ := hw
          refine lv_if_lt (tgt := 48) hx hb dX11_lowestLesson_20 (by decide) (fun c_1 => ?_) (fun c_1 => ?_)
          · have hw := hc_1t c_1
            clear hc_1t hc_1f
            refine lv_iload_n hx hb dX11_lowestLesson_48 rfl (lv_at hl 2 rfl) ?_
            refine lv_iload_n hx hb dX11_lowestLesson_49 rfl (lv_at hl 3 rfl) ?_
            refine lv_iconst (v := (-1)) hx hb dX11_lowestLesson_50 (by decide) ?_
            obtain ⟨hc_2t, hc_2f⟩ := hw
            refine lv_icmp_ne (tgt := 58) hx hb dX11_lowestLesson_51 (by decide) (fun c_2 => ?_) (fun c_2 => ?_)
            · have hw := hc_2f c_2
              clear hc_2t hc_2f
              refine lv_iconst (v := 1) hx hb dX11_lowestLesson_58 (by decide) ?_
              refine lv_iload_n hx hb dX11_lowestLesson_59 rfl (lv_at hl 3 rfl) ?_
              refine k_ishl hx hb dX11_lowestLesson_60 ?_
              refine lv_ior hx hb dX11_lowestLesson_61 ?_
              refine lv_istore_n (lv' := [(2, .int (x2 ||| (k_shl 1 x3))), (0, .ref (h 0)), (1, .int x1), (3, .int x3), (4, .int x4), (5, .int x5)]) hx hb dX11_lowestLesson_62 rfl hl (by decide) rfl (fun ls hl => ?_)
              refine lv_iinc (v := x4 + 1) (lv' := [(4, .int (x4 + 1)), (2, .int (x2 ||| (k_shl 1 x3))), (0, .ref (h 0)), (1, .int x1), (3, .int x3), (5, .int x5)]) hx hb dX11_lowestLesson_63 hl (k := 4) rfl (k_inc (by decide)) (by decide) rfl (fun ls hl => ?_)
              refine lv_goto (tgt := 7) hx hb dX11_lowestLesson_66 (by decide) ?_
              exact ih_7 x1 (x2 ||| (k_shl 1 x3)) x3 (x4 + 1) S _ _ _ hw hP hD hS (lv_sub hl [2, 3, 1, 4, 0] rfl)
            · have hw := hc_2t c_2
              clear hc_2t hc_2f
              refine lv_iconst (v := 0) hx hb dX11_lowestLesson_54 (by decide) ?_
              refine lv_goto (tgt := 61) hx hb dX11_lowestLesson_55 (by decide) ?_
              refine lv_ior hx hb dX11_lowestLesson_61 ?_
              refine lv_istore_n (lv' := [(2, .int (x2 ||| 0)), (0, .ref (h 0)), (1, .int x1), (3, .int x3), (4, .int x4), (5, .int x5)]) hx hb dX11_lowestLesson_62 rfl hl (by decide) rfl (fun ls hl => ?_)
              refine lv_iinc (v := x4 + 1) (lv' := [(4, .int (x4 + 1)), (2, .int (x2 ||| 0)), (0, .ref (h 0)), (1, .int x1), (3, .int x3), (5, .int x5)]) hx hb dX11_lowestLesson_63 hl (k := 4) rfl (k_inc (by decide)) (by decide) rfl (fun ls hl => ?_)
              refine lv_goto (tgt := 7) hx hb dX11_lowestLesson_66 (by decide) ?_
              exact ih_7 x1 (x2 ||| 0) x3 (x4 + 1) S _ _ _ hw hP hD hS (lv_sub hl [2, 3, 1, 4, 0] rfl)
          · have hw := hc_1f c_1
            clear hc_1t hc_1f
            refine lv_aload_n hx hb dX11_lowestLesson_23 rfl (lv_at hl 0 rfl) ?_
            refine va_get (D := D) (ci := 10) (v := .ref (h 1)) (C := RX11) (T := TX11) (N := 9) hx hb hts hin11 hown hK hP 0 rfl rfl 0 (by decide) w10 (fun _ h9 => h9) rfl dX11_lowestLesson_24 ?_
            refine va_get (D := D) (ci := 0) (v := .ref (h 21)) (C := RX0) (T := TX0) (N := 16) hx hb hts hin0 hown hK hP 1 rfl rfl 13 (by decide) w327 (fun _ h9 => h9) rfl dX11_lowestLesson_27 ?_
            refine lv_iload_n hx hb dX11_lowestLesson_30 rfl (lv_at hl 2 rfl) ?_
            refine lv_iload hx hb dX11_lowestLesson_31 (lv_at hl 5 rfl) ?_
            refine e_callSi (As := [.ref (h 21), .int x2, .int x5]) (rest := []) clE_stable hs ⟨hx, hb, hml, hown, hts⟩ (cC_X11_canLearn_city_aheads l D h cy _ _ _ _ hw) (va_cwS 3 hts gX11_lowestLesson_X11_canLearn rfl rfl rfl (by decide +kernel) ⟨Nat.le_of_ble_eq_true rfl, Nat.le_of_ble_eq_true rfl⟩) hK hP hD hS hA rfl hl.1 rfl (Nat.le_of_ble_eq_true rfl) dX11_lowestLesson_33 ⟨Nat.zero_le _, Nat.zero_le _⟩ (fun r_3 S_4 H locs hw hP hD hS => ?_)
            obtain ⟨hc_5t, hc_5f⟩ := hw
            refine lv_if_eq (tgt := 42) hx hb dX11_lowestLesson_36 (by decide) (fun c_5 => ?_) (fun c_5 => ?_)
            · have hw := hc_5t c_5
              clear hc_5t hc_5f
              refine lv_iinc (v := x5 + (-1)) (lv' := [(5, .int (x5 + (-1))), (0, .ref (h 0)), (1, .int x1), (2, .int x2), (3, .int x3), (4, .int x4)]) hx hb dX11_lowestLesson_42 hl (k := 5) rfl (k_inc (by decide)) (by decide) rfl (fun ls hl => ?_)
              refine lv_goto (tgt := 18) hx hb dX11_lowestLesson_45 (by decide) ?_
              exact ih_18 x1 x2 x3 x4 (x5 + (-1)) S_4 _ _ _ hw hP hD hS (lv_sub hl [1, 2, 3, 4, 5, 0] rfl)
            · have hw := hc_5f c_5
              clear hc_5t hc_5f
              refine lv_iload hx hb dX11_lowestLesson_39 (lv_at hl 5 rfl) ?_
              refine lv_istore_n (lv' := [(3, .int x5), (0, .ref (h 0)), (1, .int x1), (2, .int x2), (4, .int x4), (5, .int x5)]) hx hb dX11_lowestLesson_41 rfl hl (by decide) rfl (fun ls hl => ?_)
              refine lv_iinc (v := x5 + (-1)) (lv' := [(5, .int (x5 + (-1))), (3, .int x5), (0, .ref (h 0)), (1, .int x1), (2, .int x2), (4, .int x4)]) hx hb dX11_lowestLesson_42 hl (k := 5) rfl (k_inc (by decide)) (by decide) rfl (fun ls hl => ?_)
              refine lv_goto (tgt := 18) hx hb dX11_lowestLesson_45 (by decide) ?_
              exact ih_18 x1 x2 x5 x4 (x5 + (-1)) S_4 _ _ _ hw hP hD hS (lv_sub hl [2, 3, 4, 1, 5, 0] rfl)
      intro x1 x2 x3 x4 S H locs ls hw hP hD hS hl
      unfold wC_X11_lowestLesson_7 at hw
      refine lv_iload hx hb dX11_lowestLesson_7 (lv_at hl 4 rfl) ?_
      refine lv_iload_n hx hb dX11_lowestLesson_9 rfl (lv_at hl 1 rfl) ?_
      obtain ⟨hc_6t, hc_6f⟩ := hw
      refine lv_icmp_gt (tgt := 69) hx hb dX11_lowestLesson_10 (by decide) (fun c_6 => ?_) (fun c_6 => ?_)
      · have hw := hc_6t c_6
        clear hc_6t hc_6f
        refine lv_iload_n hx hb dX11_lowestLesson_69 rfl (lv_at hl 3 rfl) ?_
        exact W.iret (v := x3) hx hb hr (fun t ht hW => ⟨⟨x3, S, rfl, hw, by rw [ht]; exact hP, va_K.moved hW.alike hK, hD⟩, hS.F ht⟩) hS.2.2 dX11_lowestLesson_70
      · have hw := hc_6f c_6
        clear hc_6t hc_6f
        refine lv_iconst (v := (-1)) hx hb dX11_lowestLesson_13 (by decide) ?_
        refine lv_istore_n (lv' := [(3, .int (-1)), (0, .ref (h 0)), (1, .int x1), (2, .int x2), (4, .int x4)]) hx hb dX11_lowestLesson_14 rfl hl (by decide) rfl (fun ls hl => ?_)
        refine lv_iconst (v := 4) hx hb dX11_lowestLesson_15 (by decide) ?_
        refine lv_istore (lv' := [(5, .int 4), (3, .int (-1)), (0, .ref (h 0)), (1, .int x1), (2, .int x2), (4, .int x4)]) hx hb dX11_lowestLesson_16 hl (by decide) rfl (fun ls hl => ?_)
        obtain ⟨n_18, hw⟩ := hw
        exact L_18 n_18 x1 x2 (-1) x4 4 S _ _ _ hw hP hD hS (lv_sub hl [2, 3, 4, 1, 5, 0] rfl)
  refine lv_iconst (v := 0) hx hb dX11_lowestLesson_0 (by decide) ?_
  refine lv_istore_n (lv' := [(2, .int 0), (0, .ref (h 0)), (1, .int p1)]) hx hb dX11_lowestLesson_1 rfl hl (by decide) rfl (fun ls hl => ?_)
  refine lv_iconst (v := (-1)) hx hb dX11_lowestLesson_2 (by decide) ?_
  refine lv_istore_n (lv' := [(3, .int (-1)), (2, .int 0), (0, .ref (h 0)), (1, .int p1)]) hx hb dX11_lowestLesson_3 rfl hl (by decide) rfl (fun ls hl => ?_)
  refine lv_iconst (v := 0) hx hb dX11_lowestLesson_4 (by decide) ?_
  refine lv_istore (lv' := [(4, .int 0), (3, .int (-1)), (2, .int 0), (0, .ref (h 0)), (1, .int p1)]) hx hb dX11_lowestLesson_5 hl (by decide) rfl (fun ls hl => ?_)
  obtain ⟨n_7, hw⟩ := hw
  exact L_7 n_7 p1 0 (-1) 0 S _ _ _ hw hP hD hS (lv_sub hl [3, 4, 2, 1, 0] rfl)
def wC_X11_lessons (p1 : Int32) (S : CS) (post : Int32 → CS → Prop) : Prop := wC_X11_ordersFrom_city_aheads 0 S (fun r_1 S_2 => ((p1 = (-1) → post r_1 S_2) ∧ (¬ (p1 = (-1)) → ((r_1 ≤ 0 → post (-2) S_2) ∧ (¬ (r_1 ≤ 0) → wC_X11_within p1 0 4 S_2 (fun r_5 S_6 => ((r_5 = 0 → post (-2) S_6) ∧ (¬ (r_5 = 0) → wC_X11_lowestLesson p1 S_6 (fun r_8 S_9 => post r_8 S_9)))))))))
set_option maxHeartbeats 4000000 in
set_option maxRecDepth 100000 in
theorem cC_X11_lessons (l : Launch) (D : va_G) (h : Nat → Nat) (cy : Nat → ClassId) (p1 : Int32) (S : CS) (post : Int32 → CS → Prop) (hw : wC_X11_lessons p1 S post) : e_Mi clE l yX11_lessons wsX11_lessons { frames := 11, cells := 0, slots := 0, locals := 250 } D (tyC cy) (wC h cy) [.ref (h 0), .int p1] S post := by
  intro sz
  refine Met.ofW (cc := cX11_lessons) (maxL := 3) (ret := (some .int)) (by decide) rfl ?_
  intro p e s m args below meth c s₁ B hml hv
  obtain ⟨rfl, hsz, hP, hK, hD0, hs⟩ := hv
  have hx := B.exec
  have hb := B.bytes
  have hr := B.returns
  have hts := atoms_spec (ws := wsX11_lessons) B.pre
  have hown : s.vm.findClass RX11 = some m.cls := findClass_of_methodNamed B.named
  have hlocks := B.notSynchronized
  subst hsz
  have hD := hD0.self (sz := s.heap.size)
  generalize hAe : va_A (wC h cy S) s.heap.size = A at hD hs ⊢
  have hA : ∀ q : Nat, s.heap.size ≤ q → A q := fun q h => by rw [← hAe]; exact Or.inr h
  have hS : va_S A s.heap s.heap [] := va_S.rf
  have hin11 : ∀ w ∈ wsX110, w ∈ wsX11_lessons := fun _ h => List.mem_cons_of_mem _ (List.mem_append_left _ (List.mem_append_right _ h))
  have hin0 : ∀ w ∈ wsX00, w ∈ wsX11_lessons := fun _ h => List.mem_cons_of_mem _ (List.mem_append_right _ h)
  have w10 := hts (.fieldLink RX11 10 "ClownsMourn" "city" "LClownsMourn$City;") (List.mem_of_getElem? (i := 1) rfl)
  have w327 := hts (.fieldLink RX11 327 "ClownsMourn$City" "aheads" "[I") (List.mem_of_getElem? (i := 2) rfl)
  have hl := lv_entry ([.ref (h 0), .int p1]) (n := 3) (Nat.le_of_ble_eq_true rfl)
  rw [lg_entry_eq]
  generalize (lg_sl ([.ref (h 0), .int p1]) ++ List.replicate (3 - (lg_sl ([.ref (h 0), .int p1])).length) Slot.unset).toArray = ls at hl ⊢
  have hl : lv_has ls 3 [(0, .ref (h 0)), (1, .int p1)] := hl
  unfold wC_X11_lessons at hw
  clear hD0
  refine lv_aload_n hx hb dX11_lessons_0 rfl (lv_at hl 0 rfl) ?_
  refine va_get (D := D) (ci := 10) (v := .ref (h 1)) (C := RX11) (T := TX11) (N := 9) hx hb hts hin11 hown hK hP 0 rfl rfl 0 (by decide) w10 (fun _ h9 => h9) rfl dX11_lessons_1 ?_
  refine va_get (D := D) (ci := 0) (v := .ref (h 21)) (C := RX0) (T := TX0) (N := 16) hx hb hts hin0 hown hK hP 1 rfl rfl 13 (by decide) w327 (fun _ h9 => h9) rfl dX11_lessons_4 ?_
  refine lv_iconst (v := 0) hx hb dX11_lessons_7 (by decide) ?_
  refine e_callSi (As := [.ref (h 21), .int 0]) (rest := []) clE_stable hs ⟨hx, hb, hml, hown, hts⟩ (cC_X11_ordersFrom_city_aheads l D h cy _ _ _ hw) (va_cwS 2 hts gX11_lessons_X11_ordersFrom rfl rfl rfl (by decide +kernel) ⟨Nat.le_of_ble_eq_true rfl, Nat.le_of_ble_eq_true rfl⟩) hK hP hD hS hA rfl hl.1 rfl (Nat.le_of_ble_eq_true rfl) dX11_lessons_8 ⟨Nat.zero_le _, Nat.zero_le _⟩ (fun r_1 S_2 H locs hw hP hD hS => ?_)
  refine lv_istore_n (lv' := [(2, .int r_1), (0, .ref (h 0)), (1, .int p1)]) hx hb dX11_lessons_11 rfl hl (by decide) rfl (fun ls hl => ?_)
  refine lv_iload_n hx hb dX11_lessons_12 rfl (lv_at hl 2 rfl) ?_
  refine lv_iconst (v := (-1)) hx hb dX11_lessons_13 (by decide) ?_
  obtain ⟨hc_3t, hc_3f⟩ := hw
  refine lv_icmp_ne (tgt := 19) hx hb dX11_lessons_14 (by decide) (fun c_3 => ?_) (fun c_3 => ?_)
  · have hw := hc_3f c_3
    clear hc_3t hc_3f
    refine lv_iload_n hx hb dX11_lessons_19 rfl (lv_at hl 0 rfl) ?_
    obtain ⟨hc_4t, hc_4f⟩ := hw
    refine lv_if_le (tgt := 40) hx hb dX11_lessons_20 (by decide) (fun c_4 => ?_) (fun c_4 => ?_)
    · have hw := hc_4t c_4
      clear hc_4t hc_4f
      refine lv_bipush (v := (-2)) hx hb dX11_lessons_40 (by decide) ?_
      exact W.iret (v := (-2)) hx hb hr (fun t ht hW => ⟨⟨(-2), S_2, rfl, hw, by rw [ht]; exact hP, va_K.moved hW.alike hK, hD⟩, hS.F ht⟩) hS.2.2 dX11_lessons_42
    · have hw := hc_4f c_4
      clear hc_4t hc_4f
      refine lv_iload_n hx hb dX11_lessons_23 rfl (lv_at hl 2 rfl) ?_
      refine lv_iconst (v := 0) hx hb dX11_lessons_24 (by decide) ?_
      refine lv_iconst (v := 4) hx hb dX11_lessons_25 (by decide) ?_
      refine e_callSi (As := [.int p1, .int 0, .int 4]) (rest := []) clE_stable hs ⟨hx, hb, hml, hown, hts⟩ (cC_X11_within l D h cy _ _ _ _ _ hw) (va_cwS 3 hts gX11_lessons_X11_within rfl rfl rfl (by decide +kernel) ⟨Nat.le_of_ble_eq_true rfl, Nat.le_of_ble_eq_true rfl⟩) hK hP hD hS hA rfl hl.1 rfl (Nat.le_of_ble_eq_true rfl) dX11_lessons_26 ⟨Nat.zero_le _, Nat.zero_le _⟩ (fun r_5 S_6 H locs hw hP hD hS => ?_)
      obtain ⟨hc_7t, hc_7f⟩ := hw
      refine lv_if_eq (tgt := 40) hx hb dX11_lessons_29 (by decide) (fun c_7 => ?_) (fun c_7 => ?_)
      · have hw := hc_7t c_7
        clear hc_7t hc_7f
        refine lv_bipush (v := (-2)) hx hb dX11_lessons_40 (by decide) ?_
        exact W.iret (v := (-2)) hx hb hr (fun t ht hW => ⟨⟨(-2), S_6, rfl, hw, by rw [ht]; exact hP, va_K.moved hW.alike hK, hD⟩, hS.F ht⟩) hS.2.2 dX11_lessons_42
      · have hw := hc_7f c_7
        clear hc_7t hc_7f
        refine lv_aload_n hx hb dX11_lessons_32 rfl (lv_at hl 1 rfl) ?_
        refine lv_iload_n hx hb dX11_lessons_33 rfl (lv_at hl 2 rfl) ?_
        refine e_callVi (As := [.int p1]) (rest := []) clE_stable hs ⟨hx, hb, hml, hown, hts⟩ (cC_X11_lowestLesson l D h cy _ _ _ hw) (cwV 1 hts gX11_lessons_X11_lowestLesson rfl rfl rfl (by decide +kernel) ⟨Nat.le_of_ble_eq_true rfl, Nat.le_of_ble_eq_true rfl⟩) (va_recv hK hP (ci := 10) (q0 := 0) rfl rfl) hK hP hD hS hA rfl hl.1 rfl (Nat.le_of_ble_eq_true rfl) dX11_lessons_34 ⟨Nat.zero_le _, Nat.zero_le _⟩ (fun r_8 S_9 H locs hw hP hD hS => ?_)
        refine lv_goto (tgt := 42) hx hb dX11_lessons_37 (by decide) ?_
        exact W.iret (v := r_8) hx hb hr (fun t ht hW => ⟨⟨r_8, S_9, rfl, hw, by rw [ht]; exact hP, va_K.moved hW.alike hK, hD⟩, hS.F ht⟩) hS.2.2 dX11_lessons_42
  · have hw := hc_3t c_3
    clear hc_3t hc_3f
    refine lv_iload_n hx hb dX11_lessons_17 rfl (lv_at hl 0 rfl) ?_
    exact W.iret (v := r_1) hx hb hr (fun t ht hW => ⟨⟨r_1, S_2, rfl, hw, by rw [ht]; exact hP, va_K.moved hW.alike hK, hD⟩, hS.F ht⟩) hS.2.2 dX11_lessons_18
def wC_X11_grown (p1 : Int32) (p2 : Int32) (S : CS) (post : Int32 → CS → Prop) : Prop := ((p1 = (-1) → (∀ S_11 : CS, S_11 = (cx_set_c_grownCount S 0) → post 0 S_11)) ∧ (¬ (p1 = (-1)) → wC_X0_hasHouse p1 S (fun r_2 S_3 => ((r_2 = 0 → post (-2) S_3) ∧ (¬ (r_2 = 0) → wC_X11_within p2 0 9 S_3 (fun r_5 S_6 => ((r_5 = 0 → post (-2) S_6) ∧ (¬ (r_5 = 0) → (((cx_c_grownCount S_6) < 8 → (∀ S_9 : CS, S_9 = (cx_set_c_growns S_6 (k_put 8 (cx_c_growns S_6) (cx_c_grownCount S_6) ((p1 * 10) + p2))) → (∀ S_10 : CS, S_10 = (cx_set_c_grownCount S_9 ((cx_c_grownCount S_9) + 1)) → post (cx_c_grownCount S_10) S_10))) ∧ (¬ ((cx_c_grownCount S_6) < 8) → post (-2) S_6))))))))))
set_option maxHeartbeats 4000000 in
set_option maxRecDepth 100000 in
theorem cC_X11_grown (l : Launch) (D : va_G) (h : Nat → Nat) (cy : Nat → ClassId) (p1 : Int32) (p2 : Int32) (S : CS) (post : Int32 → CS → Prop) (hw : wC_X11_grown p1 p2 S post) : e_Mi clE l yX11_grown wsX11_grown { frames := 2, cells := 0, slots := 0, locals := 42 } D (tyC cy) (wC h cy) [.ref (h 0), .int p1, .int p2] S post := by
  intro sz
  refine Met.ofW (cc := cX11_grown) (maxL := 3) (ret := (some .int)) (by decide) rfl ?_
  intro p e s m args below meth c s₁ B hml hv
  obtain ⟨rfl, hsz, hP, hK, hD0, hs⟩ := hv
  have hx := B.exec
  have hb := B.bytes
  have hr := B.returns
  have hts := atoms_spec (ws := wsX11_grown) B.pre
  have hown : s.vm.findClass RX11 = some m.cls := findClass_of_methodNamed B.named
  have hlocks := B.notSynchronized
  subst hsz
  have hD := hD0.self (sz := s.heap.size)
  generalize hAe : va_A (wC h cy S) s.heap.size = A at hD hs ⊢
  have hA : ∀ q : Nat, s.heap.size ≤ q → A q := fun q h => by rw [← hAe]; exact Or.inr h
  have hS : va_S A s.heap s.heap [] := va_S.rf
  have hin11 : ∀ w ∈ wsX110, w ∈ wsX11_grown := fun _ h => List.mem_cons_of_mem _ (List.mem_append_left _ (List.mem_append_right _ h))
  have hin0 : ∀ w ∈ wsX00, w ∈ wsX11_grown := fun _ h => List.mem_cons_of_mem _ (List.mem_append_right _ h)
  have w10 := hts (.fieldLink RX11 10 "ClownsMourn" "city" "LClownsMourn$City;") (List.mem_of_getElem? (i := 1) rfl)
  have w336 := hts (.fieldLink RX11 336 "ClownsMourn$City" "grownCount" "I") (List.mem_of_getElem? (i := 2) rfl)
  have w339 := hts (.fieldLink RX11 339 "ClownsMourn$City" "growns" "[I") (List.mem_of_getElem? (i := 3) rfl)
  have hl := lv_entry ([.ref (h 0), .int p1, .int p2]) (n := 3) (Nat.le_of_ble_eq_true rfl)
  rw [lg_entry_eq]
  generalize (lg_sl ([.ref (h 0), .int p1, .int p2]) ++ List.replicate (3 - (lg_sl ([.ref (h 0), .int p1, .int p2])).length) Slot.unset).toArray = ls at hl ⊢
  have hl : lv_has ls 3 [(0, .ref (h 0)), (1, .int p1), (2, .int p2)] := hl
  unfold wC_X11_grown at hw
  clear hD0
  refine lv_iload_n hx hb dX11_grown_0 rfl (lv_at hl 1 rfl) ?_
  refine lv_iconst (v := (-1)) hx hb dX11_grown_1 (by decide) ?_
  obtain ⟨hc_1t, hc_1f⟩ := hw
  refine lv_icmp_ne (tgt := 15) hx hb dX11_grown_2 (by decide) (fun c_1 => ?_) (fun c_1 => ?_)
  · have hw := hc_1f c_1
    clear hc_1t hc_1f
    refine lv_aload_n hx hb dX11_grown_15 rfl (lv_at hl 0 rfl) ?_
    refine va_get (D := D) (ci := 10) (v := .ref (h 1)) (C := RX11) (T := TX11) (N := 9) hx hb hts hin11 hown hK hP 0 rfl rfl 0 (by decide) w10 (fun _ h9 => h9) rfl dX11_grown_16 ?_
    refine lv_iload_n hx hb dX11_grown_19 rfl (lv_at hl 1 rfl) ?_
    refine e_callVi (As := [.int p1]) (rest := []) clE_stable hs ⟨hx, hb, hml, hown, hts⟩ (cC_X0_hasHouse l D h cy _ _ _ hw) (cwV 1 hts gX11_grown_X0_hasHouse rfl rfl rfl (by decide +kernel) ⟨Nat.le_of_ble_eq_true rfl, Nat.le_of_ble_eq_true rfl⟩) (va_recv hK hP (ci := 0) (q0 := 1) rfl rfl) hK hP hD hS hA rfl hl.1 rfl (Nat.le_of_ble_eq_true rfl) dX11_grown_20 ⟨Nat.zero_le _, Nat.zero_le _⟩ (fun r_2 S_3 H locs hw hP hD hS => ?_)
    obtain ⟨hc_4t, hc_4f⟩ := hw
    refine lv_if_eq (tgt := 48) hx hb dX11_grown_23 (by decide) (fun c_4 => ?_) (fun c_4 => ?_)
    · have hw := hc_4t c_4
      clear hc_4t hc_4f
      refine lv_bipush (v := (-2)) hx hb dX11_grown_48 (by decide) ?_
      exact W.iret (v := (-2)) hx hb hr (fun t ht hW => ⟨⟨(-2), S_3, rfl, hw, by rw [ht]; exact hP, va_K.moved hW.alike hK, hD⟩, hS.F ht⟩) hS.2.2 dX11_grown_50
    · have hw := hc_4f c_4
      clear hc_4t hc_4f
      refine lv_iload_n hx hb dX11_grown_26 rfl (lv_at hl 2 rfl) ?_
      refine lv_iconst (v := 0) hx hb dX11_grown_27 (by decide) ?_
      refine lv_bipush (v := 9) hx hb dX11_grown_28 (by decide) ?_
      refine e_callSi (As := [.int p2, .int 0, .int 9]) (rest := []) clE_stable hs ⟨hx, hb, hml, hown, hts⟩ (cC_X11_within l D h cy _ _ _ _ _ hw) (va_cwS 3 hts gX11_grown_X11_within rfl rfl rfl (by decide +kernel) ⟨Nat.le_of_ble_eq_true rfl, Nat.le_of_ble_eq_true rfl⟩) hK hP hD hS hA rfl hl.1 rfl (Nat.le_of_ble_eq_true rfl) dX11_grown_30 ⟨Nat.zero_le _, Nat.zero_le _⟩ (fun r_5 S_6 H locs hw hP hD hS => ?_)
      obtain ⟨hc_7t, hc_7f⟩ := hw
      refine lv_if_eq (tgt := 48) hx hb dX11_grown_33 (by decide) (fun c_7 => ?_) (fun c_7 => ?_)
      · have hw := hc_7t c_7
        clear hc_7t hc_7f
        refine lv_bipush (v := (-2)) hx hb dX11_grown_48 (by decide) ?_
        exact W.iret (v := (-2)) hx hb hr (fun t ht hW => ⟨⟨(-2), S_6, rfl, hw, by rw [ht]; exact hP, va_K.moved hW.alike hK, hD⟩, hS.F ht⟩) hS.2.2 dX11_grown_50
      · have hw := hc_7f c_7
        clear hc_7t hc_7f
        refine lv_aload_n hx hb dX11_grown_36 rfl (lv_at hl 0 rfl) ?_
        refine va_get (D := D) (ci := 10) (v := .ref (h 1)) (C := RX11) (T := TX11) (N := 9) hx hb hts hin11 hown hK hP 0 rfl rfl 0 (by decide) w10 (fun _ h9 => h9) rfl dX11_grown_37 ?_
        refine va_get (D := D) (ci := 0) (v := .int (cx_c_grownCount S_6)) (C := RX0) (T := TX0) (N := 16) hx hb hts hin0 hown hK hP 1 rfl rfl 15 (by decide) w336 (fun _ h9 => h9) rfl dX11_grown_40 ?_
        refine lv_bipush (v := 8) hx hb dX11_grown_43 (by decide) ?_
        obtain ⟨hc_8t, hc_8f⟩ := hw
        refine lv_icmp_lt (tgt := 51) hx hb dX11_grown_45 (by decide) (fun c_8 => ?_) (fun c_8 => ?_)
        · have hw := hc_8t c_8
          clear hc_8t hc_8f
          refine lv_aload_n hx hb dX11_grown_51 rfl (lv_at hl 0 rfl) ?_
          refine va_get (D := D) (ci := 10) (v := .ref (h 1)) (C := RX11) (T := TX11) (N := 9) hx hb hts hin11 hown hK hP 0 rfl rfl 0 (by decide) w10 (fun _ h9 => h9) rfl dX11_grown_52 ?_
          refine va_get (D := D) (ci := 0) (v := .ref (h 22)) (C := RX0) (T := TX0) (N := 16) hx hb hts hin0 hown hK hP 1 rfl rfl 14 (by decide) w339 (fun _ h9 => h9) rfl dX11_grown_55 ?_
          refine lv_aload_n hx hb dX11_grown_58 rfl (lv_at hl 0 rfl) ?_
          refine va_get (D := D) (ci := 10) (v := .ref (h 1)) (C := RX11) (T := TX11) (N := 9) hx hb hts hin11 hown hK hP 0 rfl rfl 0 (by decide) w10 (fun _ h9 => h9) rfl dX11_grown_59 ?_
          refine va_get (D := D) (ci := 0) (v := .int (cx_c_grownCount S_6)) (C := RX0) (T := TX0) (N := 16) hx hb hts hin0 hown hK hP 1 rfl rfl 15 (by decide) w336 (fun _ h9 => h9) rfl dX11_grown_62 ?_
          refine lv_iload_n hx hb dX11_grown_65 rfl (lv_at hl 1 rfl) ?_
          refine lv_bipush (v := 10) hx hb dX11_grown_66 (by decide) ?_
          refine lv_imul hx hb dX11_grown_68 ?_
          refine lv_iload_n hx hb dX11_grown_69 rfl (lv_at hl 2 rfl) ?_
          refine lv_iadd hx hb dX11_grown_70 ?_
          refine e_callSv (As := [.ref (h 22), .int (cx_c_grownCount S_6), .int ((p1 * 10) + p2)]) (rest := []) clE_stable hs ⟨hx, hb, hml, hown, hts⟩ (cA_put l D clE (tyC cy) (wC h cy) cx_c_growns cx_set_c_growns S_6 22 10 _ _ 8 rfl (wCs_c_growns h cy S_6) rfl (by decide) _ _ (fun S0 => S0 = (cx_set_c_growns S_6 (k_put 8 (cx_c_growns S_6) (cx_c_grownCount S_6) ((p1 * 10) + p2)))) rfl) (va_cwS 3 hts gX11_grown_X11_put rfl rfl rfl (by decide +kernel) ⟨Nat.le_of_ble_eq_true rfl, Nat.le_of_ble_eq_true rfl⟩) hK hP hD hS hA rfl hl.1 rfl (Nat.le_of_ble_eq_true rfl) dX11_grown_71 ⟨Nat.zero_le _, Nat.zero_le _⟩ (fun S_9 H locs eS_9 hP hD hS => ?_)
          replace hw := hw S_9 eS_9
          refine lv_aload_n hx hb dX11_grown_74 rfl (lv_at hl 0 rfl) ?_
          refine va_get (D := D) (ci := 10) (v := .ref (h 1)) (C := RX11) (T := TX11) (N := 9) hx hb hts hin11 hown hK hP 0 rfl rfl 0 (by decide) w10 (fun _ h9 => h9) rfl dX11_grown_75 ?_
          refine lv_dup hx hb dX11_grown_78 rfl ?_
          refine va_get (D := D) (ci := 0) (v := .int (cx_c_grownCount S_9)) (C := RX0) (T := TX0) (N := 16) hx hb hts hin0 hown hK hP 1 rfl rfl 15 (by decide) w336 (fun _ h9 => h9) rfl dX11_grown_79 ?_
          refine lv_iconst (v := 1) hx hb dX11_grown_82 (by decide) ?_
          refine lv_iadd hx hb dX11_grown_83 ?_
          refine va_put (D := D) (ci := 0) (v := .int ((cx_c_grownCount S_9) + 1)) (ty := .int) (C := RX0) (T := TX0) (N := 16) hx hb hts hin0 tyX0 tyX0_ok nmX0 hown hK hP hD hS 1 rfl rfl 15 (by decide) w336 (fun _ h9 => h9) rfl (tyX0_ok 15 (by decide)) rfl rfl (Nat.le_of_ble_eq_true rfl) dX11_grown_84 (fun H locs hP hD hS => ?_)
          obtain ⟨S_10, eS_10⟩ : ∃ z : CS, z = (cx_set_c_grownCount S_9 ((cx_c_grownCount S_9) + 1)) := ⟨_, rfl⟩
          replace hw := hw S_10 eS_10
          have hP : va_P D vwCl (wC h cy S_10) H := by rw [eS_10, ← wCp_c_grownCount]; exact hP
          have hD : va_D A (wC h cy S_10) := by rw [eS_10, ← wCp_c_grownCount]; exact hD
          refine lv_aload_n hx hb dX11_grown_87 rfl (lv_at hl 0 rfl) ?_
          refine va_get (D := D) (ci := 10) (v := .ref (h 1)) (C := RX11) (T := TX11) (N := 9) hx hb hts hin11 hown hK hP 0 rfl rfl 0 (by decide) w10 (fun _ h9 => h9) rfl dX11_grown_88 ?_
          refine va_get (D := D) (ci := 0) (v := .int (cx_c_grownCount S_10)) (C := RX0) (T := TX0) (N := 16) hx hb hts hin0 hown hK hP 1 rfl rfl 15 (by decide) w336 (fun _ h9 => h9) rfl dX11_grown_91 ?_
          exact W.iret (v := (cx_c_grownCount S_10)) hx hb hr (fun t ht hW => ⟨⟨(cx_c_grownCount S_10), S_10, rfl, hw, by rw [ht]; exact hP, va_K.moved hW.alike hK, hD⟩, hS.F ht⟩) hS.2.2 dX11_grown_94
        · have hw := hc_8f c_8
          clear hc_8t hc_8f
          refine lv_bipush (v := (-2)) hx hb dX11_grown_48 (by decide) ?_
          exact W.iret (v := (-2)) hx hb hr (fun t ht hW => ⟨⟨(-2), S_6, rfl, hw, by rw [ht]; exact hP, va_K.moved hW.alike hK, hD⟩, hS.F ht⟩) hS.2.2 dX11_grown_50
  · have hw := hc_1t c_1
    clear hc_1t hc_1f
    refine lv_aload_n hx hb dX11_grown_5 rfl (lv_at hl 0 rfl) ?_
    refine va_get (D := D) (ci := 10) (v := .ref (h 1)) (C := RX11) (T := TX11) (N := 9) hx hb hts hin11 hown hK hP 0 rfl rfl 0 (by decide) w10 (fun _ h9 => h9) rfl dX11_grown_6 ?_
    refine lv_iconst (v := 0) hx hb dX11_grown_9 (by decide) ?_
    refine va_put (D := D) (ci := 0) (v := .int 0) (ty := .int) (C := RX0) (T := TX0) (N := 16) hx hb hts hin0 tyX0 tyX0_ok nmX0 hown hK hP hD hS 1 rfl rfl 15 (by decide) w336 (fun _ h9 => h9) rfl (tyX0_ok 15 (by decide)) rfl rfl (Nat.le_of_ble_eq_true rfl) dX11_grown_10 (fun H locs hP hD hS => ?_)
    obtain ⟨S_11, eS_11⟩ : ∃ z : CS, z = (cx_set_c_grownCount S 0) := ⟨_, rfl⟩
    replace hw := hw S_11 eS_11
    have hP : va_P D vwCl (wC h cy S_11) H := by rw [eS_11, ← wCp_c_grownCount]; exact hP
    have hD : va_D A (wC h cy S_11) := by rw [eS_11, ← wCp_c_grownCount]; exact hD
    refine lv_iconst (v := 0) hx hb dX11_grown_13 (by decide) ?_
    exact W.iret (v := 0) hx hb hr (fun t ht hW => ⟨⟨0, S_11, rfl, hw, by rw [ht]; exact hP, va_K.moved hW.alike hK, hD⟩, hS.F ht⟩) hS.2.2 dX11_grown_14
