def wC_X11_back (S : CS) (post : Int32 → CS → Prop) : Prop := wC_X0_becomes_kept S (fun S_2 => wC_X0_today S_2 (fun r_3 S_4 => post r_3 S_4))
set_option maxHeartbeats 4000000 in
set_option maxRecDepth 100000 in
theorem cC_X11_back (l : Launch) (D : va_G) (h : Nat → Nat) (cy : Nat → ClassId) (S : CS) (post : Int32 → CS → Prop) (hw : wC_X11_back S post) : e_Mi nxE l yX11_back wsX11_back { frames := 5, cells := 0, slots := 0, locals := 148 } D (tyC cy) (wC h cy) [.ref (h 0)] S post := by
  intro sz
  refine Met.ofW (cc := cX11_back) (maxL := 1) (ret := (some .int)) (by decide) rfl ?_
  intro p e s m args below meth c s₁ B hml hv
  obtain ⟨rfl, hsz, hP, hK, hD0, hs⟩ := hv
  have hx := B.exec
  have hb := B.bytes
  have hr := B.returns
  have hts := atoms_spec (ws := wsX11_back) B.pre
  have hown : s.vm.findClass RX11 = some m.cls := findClass_of_methodNamed B.named
  have hlocks := B.notSynchronized
  subst hsz
  have hD := hD0.self (sz := s.heap.size)
  generalize hAe : va_A (wC h cy S) s.heap.size = A at hD ⊢
  have hA : ∀ q : Nat, s.heap.size ≤ q → A q := fun q h => by rw [← hAe]; exact Or.inr h
  have hS : va_S A s.heap s.heap [] := va_S.rf
  have hin11 : ∀ w ∈ wsX110, w ∈ wsX11_back := fun _ h => List.mem_cons_of_mem _ (List.mem_append_left _ (List.mem_append_left _ (List.mem_append_right _ h)))
  have hin0 : ∀ w ∈ wsX00, w ∈ wsX11_back := fun _ h => List.mem_cons_of_mem _ (List.mem_append_left _ (List.mem_append_right _ h))
  have hin8 : ∀ w ∈ wsX80, w ∈ wsX11_back := fun _ h => List.mem_cons_of_mem _ (List.mem_append_right _ h)
  have w10 := hts (.fieldLink RX11 10 "ClownsMourn" "city" "LClownsMourn$City;") (List.mem_of_getElem? (i := 1) rfl)
  have w16 := hts (.fieldLink RX11 16 "ClownsMourn" "kept" "LClownsMourn$City;") (List.mem_of_getElem? (i := 2) rfl)
  have hl := lv_entry ([.ref (h 0)]) (n := 1) (Nat.le_of_ble_eq_true rfl)
  rw [lg_entry_eq]
  generalize (lg_sl ([.ref (h 0)]) ++ List.replicate (1 - (lg_sl ([.ref (h 0)])).length) Slot.unset).toArray = ls at hl ⊢
  have hl : lv_has ls 1 [(0, .ref (h 0))] := hl
  unfold wC_X11_back at hw
  clear hD0
  refine lv_aload_n hx hb dX11_back_0 rfl (lv_at hl 0 rfl) ?_
  refine va_get (D := D) (ci := 10) (v := .ref (h 1)) (C := RX11) (T := TX11) (N := 9) hx hb hts hin11 hown hK hP 0 rfl rfl 0 (by decide) w10 (fun _ h9 => h9) rfl dX11_back_1 ?_
  refine lv_aload_n hx hb dX11_back_4 rfl (lv_at hl 0 rfl) ?_
  refine va_get (D := D) (ci := 10) (v := .ref (h 3)) (C := RX11) (T := TX11) (N := 9) hx hb hts hin11 hown hK hP 0 rfl rfl 1 (by decide) w16 (fun _ h9 => h9) rfl dX11_back_5 ?_
  refine e_callVv (As := [.ref (h 3)]) (rest := []) nxE_stable hs ⟨hx, hb, hml, hown, hts⟩ (cC_X0_becomes_kept l D h cy _ _ hw) (cwV 1 hts gX11_back_X0_becomes rfl rfl rfl (by decide +kernel) ⟨Nat.le_of_ble_eq_true rfl, Nat.le_of_ble_eq_true rfl⟩) (va_recv hK hP (ci := 0) (q0 := 1) rfl rfl) hK hP hD hS hA rfl hl.1 rfl (Nat.le_of_ble_eq_true rfl) dX11_back_8 ⟨Nat.zero_le _, Nat.zero_le _⟩ (fun S_2 H locs hw hP hD hS => ?_)
  refine lv_aload_n hx hb dX11_back_11 rfl (lv_at hl 0 rfl) ?_
  refine va_get (D := D) (ci := 10) (v := .ref (h 1)) (C := RX11) (T := TX11) (N := 9) hx hb hts hin11 hown hK hP 0 rfl rfl 0 (by decide) w10 (fun _ h9 => h9) rfl dX11_back_12 ?_
  refine e_callVi (As := []) (rest := []) nxE_stable hs ⟨hx, hb, hml, hown, hts⟩ (cC_X0_today l D h cy _ _ hw) (cwV 0 hts gX11_back_X0_today rfl rfl rfl (by decide +kernel) ⟨Nat.le_of_ble_eq_true rfl, Nat.le_of_ble_eq_true rfl⟩) (va_recv hK hP (ci := 0) (q0 := 1) rfl rfl) hK hP hD hS hA rfl hl.1 rfl (Nat.le_of_ble_eq_true rfl) dX11_back_15 ⟨Nat.zero_le _, Nat.zero_le _⟩ (fun r_3 S_4 H locs hw hP hD hS => ?_)
  exact W.iret (v := r_3) hx hb hr (fun t ht hW => ⟨⟨r_3, S_4, rfl, hw, by rw [ht]; exact hP, va_K.moved hW.alike hK, hD⟩, hS.F ht⟩) hS.2.2 dX11_back_18
def wC_X11_about (p1 : Int32) (S : CS) (post : Int32 → CS → Prop) : Prop := ((p1 = 0 → wC_X0_houseCount S (fun r_1 S_2 => post r_1 S_2)) ∧ (p1 = 1 → wC_X0_clownCount S (fun r_4 S_5 => post r_4 S_5)) ∧ (p1 = 2 → post (cx_c_textCount S) S) ∧ (p1 = 3 → post (cx_c_ruling S) S) ∧ (p1 = 4 → post (cx_cs_count S) S) ∧ (p1 = 5 → post (cx_c_trialCount S) S) ∧ (p1 = 6 → post (cx_c_grownCount S) S) ∧ (p1 = 7 → post (cx_r_length S) S) ∧ (¬ p1 = 0 → ¬ p1 = 1 → ¬ p1 = 2 → ¬ p1 = 3 → ¬ p1 = 4 → ¬ p1 = 5 → ¬ p1 = 6 → ¬ p1 = 7 → post (-2) S))
set_option maxHeartbeats 4000000 in
set_option maxRecDepth 100000 in
theorem cC_X11_about (l : Launch) (D : va_G) (h : Nat → Nat) (cy : Nat → ClassId) (p1 : Int32) (S : CS) (post : Int32 → CS → Prop) (hw : wC_X11_about p1 S post) : e_Mi nxE l yX11_about wsX11_about { frames := 2, cells := 0, slots := 0, locals := 41 } D (tyC cy) (wC h cy) [.ref (h 0), .int p1] S post := by
  intro sz
  refine Met.ofW (cc := cX11_about) (maxL := 2) (ret := (some .int)) (by decide) rfl ?_
  intro p e s m args below meth c s₁ B hml hv
  obtain ⟨rfl, hsz, hP, hK, hD0, hs⟩ := hv
  have hx := B.exec
  have hb := B.bytes
  have hr := B.returns
  have hts := atoms_spec (ws := wsX11_about) B.pre
  have hown : s.vm.findClass RX11 = some m.cls := findClass_of_methodNamed B.named
  have hlocks := B.notSynchronized
  subst hsz
  have hD := hD0.self (sz := s.heap.size)
  generalize hAe : va_A (wC h cy S) s.heap.size = A at hD ⊢
  have hA : ∀ q : Nat, s.heap.size ≤ q → A q := fun q h => by rw [← hAe]; exact Or.inr h
  have hS : va_S A s.heap s.heap [] := va_S.rf
  have hin11 : ∀ w ∈ wsX110, w ∈ wsX11_about := fun _ h => List.mem_cons_of_mem _ (List.mem_append_left _ (List.mem_append_left _ (List.mem_append_left _ (List.mem_append_right _ h))))
  have hin0 : ∀ w ∈ wsX00, w ∈ wsX11_about := fun _ h => List.mem_cons_of_mem _ (List.mem_append_left _ (List.mem_append_left _ (List.mem_append_right _ h)))
  have hin8 : ∀ w ∈ wsX80, w ∈ wsX11_about := fun _ h => List.mem_cons_of_mem _ (List.mem_append_left _ (List.mem_append_right _ h))
  have hin6 : ∀ w ∈ wsX60, w ∈ wsX11_about := fun _ h => List.mem_cons_of_mem _ (List.mem_append_right _ h)
  have w10 := hts (.fieldLink RX11 10 "ClownsMourn" "city" "LClownsMourn$City;") (List.mem_of_getElem? (i := 1) rfl)
  have w106 := hts (.fieldLink RX11 106 "ClownsMourn$Reader" "length" "I") (List.mem_of_getElem? (i := 9) rfl)
  have w110 := hts (.fieldLink RX11 110 "ClownsMourn$City" "textCount" "I") (List.mem_of_getElem? (i := 2) rfl)
  have w127 := hts (.fieldLink RX11 127 "ClownsMourn$City" "ruling" "I") (List.mem_of_getElem? (i := 3) rfl)
  have w134 := hts (.fieldLink RX11 134 "ClownsMourn$City" "steps" "LClownsMourn$Steps;") (List.mem_of_getElem? (i := 4) rfl)
  have w191 := hts (.fieldLink RX11 191 "ClownsMourn$Steps" "count" "I") (List.mem_of_getElem? (i := 5) rfl)
  have w22 := hts (.fieldLink RX11 22 "ClownsMourn" "reader" "LClownsMourn$Reader;") (List.mem_of_getElem? (i := 8) rfl)
  have w286 := hts (.fieldLink RX11 286 "ClownsMourn$City" "trialCount" "I") (List.mem_of_getElem? (i := 6) rfl)
  have w336 := hts (.fieldLink RX11 336 "ClownsMourn$City" "grownCount" "I") (List.mem_of_getElem? (i := 7) rfl)
  have hl := lv_entry ([.ref (h 0), .int p1]) (n := 2) (Nat.le_of_ble_eq_true rfl)
  rw [lg_entry_eq]
  generalize (lg_sl ([.ref (h 0), .int p1]) ++ List.replicate (2 - (lg_sl ([.ref (h 0), .int p1])).length) Slot.unset).toArray = ls at hl ⊢
  have hl : lv_has ls 2 [(0, .ref (h 0)), (1, .int p1)] := hl
  unfold wC_X11_about at hw
  clear hD0
  refine lv_iload_n hx hb dX11_about_0 rfl (lv_at hl 1 rfl) ?_
  obtain ⟨hc_3, hw⟩ := hw
  by_cases c_3 : p1 = 0
  · have hw := hc_3 c_3
    refine lv_tableIn (off := 47) (tgt := 48) hx hb dX11_about_1 (by rw [c_3]; decide) (by rw [c_3]; decide) (by rw [c_3]; rfl) (by decide) ?_
    refine lv_aload_n hx hb dX11_about_48 rfl (lv_at hl 0 rfl) ?_
    refine va_get (D := D) (ci := 10) (v := .ref (h 1)) (C := RX11) (T := TX11) (N := 9) hx hb hts hin11 hown hK hP 0 rfl rfl 0 (by decide) w10 (fun _ h9 => h9) rfl dX11_about_49 ?_
    refine e_callVi (As := []) (rest := []) nxE_stable hs ⟨hx, hb, hml, hown, hts⟩ (cC_X0_houseCount l D h cy _ _ hw) (cwV 0 hts gX11_about_X0_houseCount rfl rfl rfl (by decide +kernel) ⟨Nat.le_of_ble_eq_true rfl, Nat.le_of_ble_eq_true rfl⟩) (va_recv hK hP (ci := 0) (q0 := 1) rfl rfl) hK hP hD hS hA rfl hl.1 rfl (Nat.le_of_ble_eq_true rfl) dX11_about_52 ⟨Nat.zero_le _, Nat.zero_le _⟩ (fun r_1 S_2 H locs hw hP hD hS => ?_)
    exact W.iret (v := r_1) hx hb hr (fun t ht hW => ⟨⟨r_1, S_2, rfl, hw, by rw [ht]; exact hP, va_K.moved hW.alike hK, hD⟩, hS.F ht⟩) hS.2.2 dX11_about_55
  obtain ⟨hc_6, hw⟩ := hw
  by_cases c_6 : p1 = 1
  · have hw := hc_6 c_6
    refine lv_tableIn (off := 55) (tgt := 56) hx hb dX11_about_1 (by rw [c_6]; decide) (by rw [c_6]; decide) (by rw [c_6]; rfl) (by decide) ?_
    refine lv_aload_n hx hb dX11_about_56 rfl (lv_at hl 0 rfl) ?_
    refine va_get (D := D) (ci := 10) (v := .ref (h 1)) (C := RX11) (T := TX11) (N := 9) hx hb hts hin11 hown hK hP 0 rfl rfl 0 (by decide) w10 (fun _ h9 => h9) rfl dX11_about_57 ?_
    refine e_callVi (As := []) (rest := []) nxE_stable hs ⟨hx, hb, hml, hown, hts⟩ (cC_X0_clownCount l D h cy _ _ hw) (cwV 0 hts gX11_about_X0_clownCount rfl rfl rfl (by decide +kernel) ⟨Nat.le_of_ble_eq_true rfl, Nat.le_of_ble_eq_true rfl⟩) (va_recv hK hP (ci := 0) (q0 := 1) rfl rfl) hK hP hD hS hA rfl hl.1 rfl (Nat.le_of_ble_eq_true rfl) dX11_about_60 ⟨Nat.zero_le _, Nat.zero_le _⟩ (fun r_4 S_5 H locs hw hP hD hS => ?_)
    exact W.iret (v := r_4) hx hb hr (fun t ht hW => ⟨⟨r_4, S_5, rfl, hw, by rw [ht]; exact hP, va_K.moved hW.alike hK, hD⟩, hS.F ht⟩) hS.2.2 dX11_about_63
  obtain ⟨hc_7, hw⟩ := hw
  by_cases c_7 : p1 = 2
  · have hw := hc_7 c_7
    refine lv_tableIn (off := 63) (tgt := 64) hx hb dX11_about_1 (by rw [c_7]; decide) (by rw [c_7]; decide) (by rw [c_7]; rfl) (by decide) ?_
    refine lv_aload_n hx hb dX11_about_64 rfl (lv_at hl 0 rfl) ?_
    refine va_get (D := D) (ci := 10) (v := .ref (h 1)) (C := RX11) (T := TX11) (N := 9) hx hb hts hin11 hown hK hP 0 rfl rfl 0 (by decide) w10 (fun _ h9 => h9) rfl dX11_about_65 ?_
    refine va_get (D := D) (ci := 0) (v := .int (cx_c_textCount S)) (C := RX0) (T := TX0) (N := 16) hx hb hts hin0 hown hK hP 1 rfl rfl 7 (by decide) w110 (fun _ h9 => h9) rfl dX11_about_68 ?_
    exact W.iret (v := (cx_c_textCount S)) hx hb hr (fun t ht hW => ⟨⟨(cx_c_textCount S), S, rfl, hw, by rw [ht]; exact hP, va_K.moved hW.alike hK, hD⟩, hS.F ht⟩) hS.2.2 dX11_about_71
  obtain ⟨hc_8, hw⟩ := hw
  by_cases c_8 : p1 = 3
  · have hw := hc_8 c_8
    refine lv_tableIn (off := 71) (tgt := 72) hx hb dX11_about_1 (by rw [c_8]; decide) (by rw [c_8]; decide) (by rw [c_8]; rfl) (by decide) ?_
    refine lv_aload_n hx hb dX11_about_72 rfl (lv_at hl 0 rfl) ?_
    refine va_get (D := D) (ci := 10) (v := .ref (h 1)) (C := RX11) (T := TX11) (N := 9) hx hb hts hin11 hown hK hP 0 rfl rfl 0 (by decide) w10 (fun _ h9 => h9) rfl dX11_about_73 ?_
    refine va_get (D := D) (ci := 0) (v := .int (cx_c_ruling S)) (C := RX0) (T := TX0) (N := 16) hx hb hts hin0 hown hK hP 1 rfl rfl 8 (by decide) w127 (fun _ h9 => h9) rfl dX11_about_76 ?_
    exact W.iret (v := (cx_c_ruling S)) hx hb hr (fun t ht hW => ⟨⟨(cx_c_ruling S), S, rfl, hw, by rw [ht]; exact hP, va_K.moved hW.alike hK, hD⟩, hS.F ht⟩) hS.2.2 dX11_about_79
  obtain ⟨hc_9, hw⟩ := hw
  by_cases c_9 : p1 = 4
  · have hw := hc_9 c_9
    refine lv_tableIn (off := 79) (tgt := 80) hx hb dX11_about_1 (by rw [c_9]; decide) (by rw [c_9]; decide) (by rw [c_9]; rfl) (by decide) ?_
    refine lv_aload_n hx hb dX11_about_80 rfl (lv_at hl 0 rfl) ?_
    refine va_get (D := D) (ci := 10) (v := .ref (h 1)) (C := RX11) (T := TX11) (N := 9) hx hb hts hin11 hown hK hP 0 rfl rfl 0 (by decide) w10 (fun _ h9 => h9) rfl dX11_about_81 ?_
    refine va_get (D := D) (ci := 0) (v := .ref (h 2)) (C := RX0) (T := TX0) (N := 16) hx hb hts hin0 hown hK hP 1 rfl rfl 1 (by decide) w134 (fun _ h9 => h9) rfl dX11_about_84 ?_
    refine va_get (D := D) (ci := 8) (v := .int (cx_cs_count S)) (C := RX8) (T := TX8) (N := 3) hx hb hts hin8 hown hK hP 2 rfl rfl 2 (by decide) w191 (fun _ h9 => h9) rfl dX11_about_87 ?_
    exact W.iret (v := (cx_cs_count S)) hx hb hr (fun t ht hW => ⟨⟨(cx_cs_count S), S, rfl, hw, by rw [ht]; exact hP, va_K.moved hW.alike hK, hD⟩, hS.F ht⟩) hS.2.2 dX11_about_90
  obtain ⟨hc_10, hw⟩ := hw
  by_cases c_10 : p1 = 5
  · have hw := hc_10 c_10
    refine lv_tableIn (off := 90) (tgt := 91) hx hb dX11_about_1 (by rw [c_10]; decide) (by rw [c_10]; decide) (by rw [c_10]; rfl) (by decide) ?_
    refine lv_aload_n hx hb dX11_about_91 rfl (lv_at hl 0 rfl) ?_
    refine va_get (D := D) (ci := 10) (v := .ref (h 1)) (C := RX11) (T := TX11) (N := 9) hx hb hts hin11 hown hK hP 0 rfl rfl 0 (by decide) w10 (fun _ h9 => h9) rfl dX11_about_92 ?_
    refine va_get (D := D) (ci := 0) (v := .int (cx_c_trialCount S)) (C := RX0) (T := TX0) (N := 16) hx hb hts hin0 hown hK hP 1 rfl rfl 11 (by decide) w286 (fun _ h9 => h9) rfl dX11_about_95 ?_
    exact W.iret (v := (cx_c_trialCount S)) hx hb hr (fun t ht hW => ⟨⟨(cx_c_trialCount S), S, rfl, hw, by rw [ht]; exact hP, va_K.moved hW.alike hK, hD⟩, hS.F ht⟩) hS.2.2 dX11_about_98
  obtain ⟨hc_11, hw⟩ := hw
  by_cases c_11 : p1 = 6
  · have hw := hc_11 c_11
    refine lv_tableIn (off := 98) (tgt := 99) hx hb dX11_about_1 (by rw [c_11]; decide) (by rw [c_11]; decide) (by rw [c_11]; rfl) (by decide) ?_
    refine lv_aload_n hx hb dX11_about_99 rfl (lv_at hl 0 rfl) ?_
    refine va_get (D := D) (ci := 10) (v := .ref (h 1)) (C := RX11) (T := TX11) (N := 9) hx hb hts hin11 hown hK hP 0 rfl rfl 0 (by decide) w10 (fun _ h9 => h9) rfl dX11_about_100 ?_
    refine va_get (D := D) (ci := 0) (v := .int (cx_c_grownCount S)) (C := RX0) (T := TX0) (N := 16) hx hb hts hin0 hown hK hP 1 rfl rfl 15 (by decide) w336 (fun _ h9 => h9) rfl dX11_about_103 ?_
    exact W.iret (v := (cx_c_grownCount S)) hx hb hr (fun t ht hW => ⟨⟨(cx_c_grownCount S), S, rfl, hw, by rw [ht]; exact hP, va_K.moved hW.alike hK, hD⟩, hS.F ht⟩) hS.2.2 dX11_about_106
  obtain ⟨hc_12, hw⟩ := hw
  by_cases c_12 : p1 = 7
  · have hw := hc_12 c_12
    refine lv_tableIn (off := 106) (tgt := 107) hx hb dX11_about_1 (by rw [c_12]; decide) (by rw [c_12]; decide) (by rw [c_12]; rfl) (by decide) ?_
    refine lv_aload_n hx hb dX11_about_107 rfl (lv_at hl 0 rfl) ?_
    refine va_get (D := D) (ci := 10) (v := .ref (h 5)) (C := RX11) (T := TX11) (N := 9) hx hb hts hin11 hown hK hP 0 rfl rfl 2 (by decide) w22 (fun _ h9 => h9) rfl dX11_about_108 ?_
    refine va_get (D := D) (ci := 6) (v := .int (cx_r_length S)) (C := RX6) (T := TX6) (N := 16) hx hb hts hin6 hown hK hP 5 rfl rfl 0 (by decide) w106 (fun _ h9 => h9) rfl dX11_about_111 ?_
    exact W.iret (v := (cx_r_length S)) hx hb hr (fun t ht hW => ⟨⟨(cx_r_length S), S, rfl, hw, by rw [ht]; exact hP, va_K.moved hW.alike hK, hD⟩, hS.F ht⟩) hS.2.2 dX11_about_114
  have hw := hw c_3 c_6 c_7 c_8 c_9 c_10 c_11 c_12
  have c_3n := lv_neT c_3 (a := 0) (by decide)
  have c_6n := lv_neT c_6 (a := 1) (by decide)
  have c_7n := lv_neT c_7 (a := 2) (by decide)
  have c_8n := lv_neT c_8 (a := 3) (by decide)
  have c_9n := lv_neT c_9 (a := 4) (by decide)
  have c_10n := lv_neT c_10 (a := 5) (by decide)
  have c_11n := lv_neT c_11 (a := 6) (by decide)
  have c_12n := lv_neT c_12 (a := 7) (by decide)
  refine lv_tableOut (tgt := 115) hx hb dX11_about_1 (by omega) (by decide) ?_
  refine lv_bipush (v := (-2)) hx hb dX11_about_115 (by decide) ?_
  exact W.iret (v := (-2)) hx hb hr (fun t ht hW => ⟨⟨(-2), S, rfl, hw, by rw [ht]; exact hP, va_K.moved hW.alike hK, hD⟩, hS.F ht⟩) hS.2.2 dX11_about_117
def wC_X0_addText (p1 : Option Nat) (S : CS) (post : Int32 → CS → Prop) : Prop := (((cx_c_textCount S) < 0 → post (-1) S) ∧ (¬ ((cx_c_textCount S) < 0) → (((cx_c_textCount S) < 4 → (vp_in (cx_c_textCount S) 4 ∧ (∀ a : Nat, p1 = some a → ∃ B : TB, (a, B) ∈ cx_px S) ∧ ∀ S_3 : CS, S_3 = (cx_set_c_texts S (va_up (cx_c_texts S) ((cx_c_textCount S).toNatClampNeg) p1)) → (∀ S_4 : CS, S_4 = (cx_set_c_textCount S_3 ((cx_c_textCount S_3) + 1)) → post (cx_c_textCount S) S_4))) ∧ (¬ ((cx_c_textCount S) < 4) → post (-1) S))))
set_option maxHeartbeats 4000000 in
set_option maxRecDepth 100000 in
theorem cC_X0_addText (l : Launch) (D : va_G) (h : Nat → Nat) (cy : Nat → ClassId) (p1 : Option Nat) (S : CS) (post : Int32 → CS → Prop) (hw : wC_X0_addText p1 S post) : e_Mi nxE l yX0_addText wsX0_addText { frames := 0, cells := 0, slots := 0, locals := 0 } D (tyC cy) (wC h cy) [.ref (h 1), va_rf p1] S post := by
  intro sz
  refine Met.ofW (cc := cX0_addText) (maxL := 3) (ret := (some .int)) (by decide) rfl ?_
  intro p e s m args below meth c s₁ B hml hv
  obtain ⟨rfl, hsz, hP, hK, hD0, hs⟩ := hv
  have hx := B.exec
  have hb := B.bytes
  have hr := B.returns
  have hts := atoms_spec (ws := wsX0_addText) B.pre
  have hown : s.vm.findClass RX0 = some m.cls := findClass_of_methodNamed B.named
  have hlocks := B.notSynchronized
  subst hsz
  have hD := hD0.self (sz := s.heap.size)
  generalize hAe : va_A (wC h cy S) s.heap.size = A at hD ⊢
  have hA : ∀ q : Nat, s.heap.size ≤ q → A q := fun q h => by rw [← hAe]; exact Or.inr h
  have hS : va_S A s.heap s.heap [] := va_S.rf
  have hin0 : ∀ w ∈ wsX00, w ∈ wsX0_addText := fun _ h => List.mem_cons_of_mem _ (List.mem_append_right _ h)
  have w36 := hts (.fieldLink RX0 36 "ClownsMourn$City" "texts" "[LClownsMourn$Text;") (List.mem_of_getElem? (i := 2) rfl)
  have w40 := hts (.fieldLink RX0 40 "ClownsMourn$City" "textCount" "I") (List.mem_of_getElem? (i := 1) rfl)
  have hl := lv_entry ([.ref (h 1), va_rf p1]) (n := 3) (by cases p1 <;> exact Nat.le_of_ble_eq_true rfl)
  rw [lg_entry_eq]
  generalize (lg_sl ([.ref (h 1), va_rf p1]) ++ List.replicate (3 - (lg_sl ([.ref (h 1), va_rf p1])).length) Slot.unset).toArray = ls at hl ⊢
  have hl : lv_has ls 3 [(0, .ref (h 1)), (1, va_rf p1)] := by cases p1 <;> exact hl
  unfold wC_X0_addText at hw
  clear hD0
  refine lv_aload_n hx hb dX0_addText_0 rfl (lv_at hl 0 rfl) ?_
  refine va_get (D := D) (ci := 0) (v := .int (cx_c_textCount S)) (C := RX0) (T := TX0) (N := 16) hx hb hts hin0 hown hK hP 1 rfl rfl 7 (by decide) w40 (fun _ h9 => h9) rfl dX0_addText_1 ?_
  refine lv_istore_n (lv' := [(2, .int (cx_c_textCount S)), (0, .ref (h 1)), (1, va_rf p1)]) hx hb dX0_addText_4 rfl hl (by decide) (by simp [List.filter, k_cat]) (fun ls hl => ?_)
  refine lv_iload_n hx hb dX0_addText_5 rfl (lv_at hl 0 rfl) ?_
  obtain ⟨hc_1t, hc_1f⟩ := hw
  refine lv_if_lt (tgt := 18) hx hb dX0_addText_6 (by decide) (fun c_1 => ?_) (fun c_1 => ?_)
  · have hw := hc_1t c_1
    clear hc_1t hc_1f
    refine lv_iconst (v := (-1)) hx hb dX0_addText_18 (by decide) ?_
    exact W.iret (v := (-1)) hx hb hr (fun t ht hW => ⟨⟨(-1), S, rfl, hw, by rw [ht]; exact hP, va_K.moved hW.alike hK, hD⟩, hS.F ht⟩) hS.2.2 dX0_addText_19
  · have hw := hc_1f c_1
    clear hc_1t hc_1f
    refine lv_iload_n hx hb dX0_addText_9 rfl (lv_at hl 0 rfl) ?_
    refine lv_aload_n hx hb dX0_addText_10 rfl (lv_at hl 1 rfl) ?_
    refine va_get (D := D) (ci := 0) (v := .ref (h 17)) (C := RX0) (T := TX0) (N := 16) hx hb hts hin0 hown hK hP 1 rfl rfl 6 (by decide) w36 (fun _ h9 => h9) rfl dX0_addText_11 ?_
    refine va_alen (v := 4) hx hb hK hP 17 5 rfl rfl (show Int32.ofNat 4 = 4 by decide) dX0_addText_14 ?_
    obtain ⟨hc_2t, hc_2f⟩ := hw
    refine lv_icmp_lt (tgt := 20) hx hb dX0_addText_15 (by decide) (fun c_2 => ?_) (fun c_2 => ?_)
    · have hw := hc_2t c_2
      clear hc_2t hc_2f
      refine lv_aload_n hx hb dX0_addText_20 rfl (lv_at hl 1 rfl) ?_
      refine va_get (D := D) (ci := 0) (v := .ref (h 17)) (C := RX0) (T := TX0) (N := 16) hx hb hts hin0 hown hK hP 1 rfl rfl 6 (by decide) w36 (fun _ h9 => h9) rfl dX0_addText_21 ?_
      refine lv_iload_n hx hb dX0_addText_24 rfl (lv_at hl 0 rfl) ?_
      refine k_aload_nq hx hb dX0_addText_25 rfl (lv_at hl 2 rfl) ?_
      obtain ⟨hi_5, ht_6, hw⟩ := hw
      refine k_astq (v := p1) (f := (cx_c_texts S)) hx hb hK hP hD hS 17 5 rfl rfl (fun a ha => (ht_6 a ha).elim fun B hB => (px_obj hB).elim fun q hq => ⟨q, _, hq⟩) hi_5 dX0_addText_26 (fun H locs hP hD hS => ?_)
      obtain ⟨S_3, eS_3⟩ : ∃ z : CS, z = (cx_set_c_texts S (va_up (cx_c_texts S) ((cx_c_textCount S).toNatClampNeg) p1)) := ⟨_, rfl⟩
      replace hw := hw S_3 eS_3
      have hP : va_P D vwCl (wC h cy S_3) H := by rw [eS_3, ← wCs_c_texts]; exact hP
      have hD : va_D A (wC h cy S_3) := by rw [eS_3, ← wCs_c_texts]; exact hD
      refine lv_aload_n hx hb dX0_addText_27 rfl (lv_at hl 1 rfl) ?_
      refine lv_dup hx hb dX0_addText_28 rfl ?_
      refine va_get (D := D) (ci := 0) (v := .int (cx_c_textCount S_3)) (C := RX0) (T := TX0) (N := 16) hx hb hts hin0 hown hK hP 1 rfl rfl 7 (by decide) w40 (fun _ h9 => h9) rfl dX0_addText_29 ?_
      refine lv_iconst (v := 1) hx hb dX0_addText_32 (by decide) ?_
      refine lv_iadd hx hb dX0_addText_33 ?_
      refine va_put (D := D) (ci := 0) (v := .int ((cx_c_textCount S_3) + 1)) (ty := .int) (C := RX0) (T := TX0) (N := 16) hx hb hts hin0 tyX0 tyX0_ok nmX0 hown hK hP hD hS 1 rfl rfl 7 (by decide) w40 (fun _ h9 => h9) rfl (tyX0_ok 7 (by decide)) rfl rfl (Nat.le_of_ble_eq_true rfl) dX0_addText_34 (fun H locs hP hD hS => ?_)
      obtain ⟨S_4, eS_4⟩ : ∃ z : CS, z = (cx_set_c_textCount S_3 ((cx_c_textCount S_3) + 1)) := ⟨_, rfl⟩
      replace hw := hw S_4 eS_4
      have hP : va_P D vwCl (wC h cy S_4) H := by rw [eS_4, ← wCp_c_textCount]; exact hP
      have hD : va_D A (wC h cy S_4) := by rw [eS_4, ← wCp_c_textCount]; exact hD
      refine lv_iload_n hx hb dX0_addText_37 rfl (lv_at hl 0 rfl) ?_
      exact W.iret (v := (cx_c_textCount S)) hx hb hr (fun t ht hW => ⟨⟨(cx_c_textCount S), S_4, rfl, hw, by rw [ht]; exact hP, va_K.moved hW.alike hK, hD⟩, hS.F ht⟩) hS.2.2 dX0_addText_38
    · have hw := hc_2f c_2
      clear hc_2t hc_2f
      refine lv_iconst (v := (-1)) hx hb dX0_addText_18 (by decide) ?_
      exact W.iret (v := (-1)) hx hb hr (fun t ht hW => ⟨⟨(-1), S, rfl, hw, by rw [ht]; exact hP, va_K.moved hW.alike hK, hD⟩, hS.F ht⟩) hS.2.2 dX0_addText_19
def wC_X6_isLetter_12 (post : Int32 → CS → Prop) (x0 : Int32) (S : CS) : Prop := ((x0 < 65 → post 0 S) ∧ (¬ (x0 < 65) → ((90 < x0 → post 0 S) ∧ (¬ (90 < x0) → post 1 S))))
def wC_X6_isLetter (p1 : Int32) (S : CS) (post : Int32 → CS → Prop) : Prop := ((p1 < 97 → wC_X6_isLetter_12 post p1 S) ∧ (¬ (p1 < 97) → ((p1 ≤ 122 → post 1 S) ∧ (¬ (p1 ≤ 122) → wC_X6_isLetter_12 post p1 S))))
set_option maxHeartbeats 4000000 in
set_option maxRecDepth 100000 in
theorem cC_X6_isLetter (l : Launch) (D : va_G) (h : Nat → Nat) (cy : Nat → ClassId) (p1 : Int32) (S : CS) (post : Int32 → CS → Prop) (hw : wC_X6_isLetter p1 S post) : e_Mi nxE l yX6_isLetter wsX6_isLetter { frames := 0, cells := 0, slots := 0, locals := 0 } D (tyC cy) (wC h cy) [.int p1] S post := by
  intro sz
  refine Met.ofW (cc := cX6_isLetter) (maxL := 1) (ret := (some .boolean)) (by decide) rfl ?_
  intro p e s m args below meth c s₁ B hml hv
  obtain ⟨rfl, hsz, hP, hK, hD0, hs⟩ := hv
  have hx := B.exec
  have hb := B.bytes
  have hr := B.returns
  have hts := atoms_spec (ws := wsX6_isLetter) B.pre
  have hown : s.vm.findClass RX6 = some m.cls := findClass_of_methodNamed B.named
  have hlocks := B.notSynchronized
  subst hsz
  have hD := hD0.self (sz := s.heap.size)
  generalize hAe : va_A (wC h cy S) s.heap.size = A at hD ⊢
  have hA : ∀ q : Nat, s.heap.size ≤ q → A q := fun q h => by rw [← hAe]; exact Or.inr h
  have hS : va_S A s.heap s.heap [] := va_S.rf
  have hl := lv_entry ([.int p1]) (n := 1) (Nat.le_of_ble_eq_true rfl)
  rw [lg_entry_eq]
  generalize (lg_sl ([.int p1]) ++ List.replicate (1 - (lg_sl ([.int p1])).length) Slot.unset).toArray = ls at hl ⊢
  have hl : lv_has ls 1 [(0, .int p1)] := hl
  unfold wC_X6_isLetter at hw
  clear hD0
  have J_12 : ∀ (x0 : Int32) (S : CS) (H : Heap) (locs : List Loc) (ls : Array Slot), wC_X6_isLetter_12 post x0 S → va_P D vwCl (wC h cy S) H → va_D A (wC h cy S) → va_S A s.heap H locs → lv_has ls 1 [(0, .int x0)] → W p l e (headSpec wsX6_isLetter { frames := 0, cells := 0, slots := 0, locals := 0 }).room s m (([.int p1] : List Value).toArray) below meth c H locs 0 0 (MQ below (va_Qi post (k_Post D (tyC cy) (wC h cy) A) A) (([.int p1] : List Value).toArray) s 0 0 A) (F0 m 12 ls []) := by
    intro x0 S H locs ls hw hP hD hS hl
    unfold wC_X6_isLetter_12 at hw
    refine lv_iload_n hx hb dX6_isLetter_12 rfl (lv_at hl 0 rfl) ?_
    refine lv_bipush (v := 65) hx hb dX6_isLetter_13 (by decide) ?_
    obtain ⟨hc_1t, hc_1f⟩ := hw
    refine lv_icmp_lt (tgt := 28) hx hb dX6_isLetter_15 (by decide) (fun c_1 => ?_) (fun c_1 => ?_)
    · have hw := hc_1t c_1
      clear hc_1t hc_1f
      refine lv_iconst (v := 0) hx hb dX6_isLetter_28 (by decide) ?_
      exact W.zret (v := 0) hx hb hr (by decide +kernel) (fun t ht hW => ⟨⟨0, S, rfl, hw, by rw [ht]; exact hP, va_K.moved hW.alike hK, hD⟩, hS.F ht⟩) hS.2.2 dX6_isLetter_29
    · have hw := hc_1f c_1
      clear hc_1t hc_1f
      refine lv_iload_n hx hb dX6_isLetter_18 rfl (lv_at hl 0 rfl) ?_
      refine lv_bipush (v := 90) hx hb dX6_isLetter_19 (by decide) ?_
      obtain ⟨hc_2t, hc_2f⟩ := hw
      refine lv_icmp_gt (tgt := 28) hx hb dX6_isLetter_21 (by decide) (fun c_2 => ?_) (fun c_2 => ?_)
      · have hw := hc_2t c_2
        clear hc_2t hc_2f
        refine lv_iconst (v := 0) hx hb dX6_isLetter_28 (by decide) ?_
        exact W.zret (v := 0) hx hb hr (by decide +kernel) (fun t ht hW => ⟨⟨0, S, rfl, hw, by rw [ht]; exact hP, va_K.moved hW.alike hK, hD⟩, hS.F ht⟩) hS.2.2 dX6_isLetter_29
      · have hw := hc_2f c_2
        clear hc_2t hc_2f
        refine lv_iconst (v := 1) hx hb dX6_isLetter_24 (by decide) ?_
        refine lv_goto (tgt := 29) hx hb dX6_isLetter_25 (by decide) ?_
        exact W.zret (v := 1) hx hb hr (by decide +kernel) (fun t ht hW => ⟨⟨1, S, rfl, hw, by rw [ht]; exact hP, va_K.moved hW.alike hK, hD⟩, hS.F ht⟩) hS.2.2 dX6_isLetter_29
  refine lv_iload_n hx hb dX6_isLetter_0 rfl (lv_at hl 0 rfl) ?_
  refine lv_bipush (v := 97) hx hb dX6_isLetter_1 (by decide) ?_
  obtain ⟨hc_3t, hc_3f⟩ := hw
  refine lv_icmp_lt (tgt := 12) hx hb dX6_isLetter_3 (by decide) (fun c_3 => ?_) (fun c_3 => ?_)
  · have hw := hc_3t c_3
    clear hc_3t hc_3f
    exact J_12 p1 S _ _ _ hw hP hD hS (lv_sub hl [0] rfl)
  · have hw := hc_3f c_3
    clear hc_3t hc_3f
    refine lv_iload_n hx hb dX6_isLetter_6 rfl (lv_at hl 0 rfl) ?_
    refine lv_bipush (v := 122) hx hb dX6_isLetter_7 (by decide) ?_
    obtain ⟨hc_4t, hc_4f⟩ := hw
    refine lv_icmp_le (tgt := 24) hx hb dX6_isLetter_9 (by decide) (fun c_4 => ?_) (fun c_4 => ?_)
    · have hw := hc_4t c_4
      clear hc_4t hc_4f
      refine lv_iconst (v := 1) hx hb dX6_isLetter_24 (by decide) ?_
      refine lv_goto (tgt := 29) hx hb dX6_isLetter_25 (by decide) ?_
      exact W.zret (v := 1) hx hb hr (by decide +kernel) (fun t ht hW => ⟨⟨1, S, rfl, hw, by rw [ht]; exact hP, va_K.moved hW.alike hK, hD⟩, hS.F ht⟩) hS.2.2 dX6_isLetter_29
    · have hw := hc_4f c_4
      clear hc_4t hc_4f
      exact J_12 p1 S _ _ _ hw hP hD hS (lv_sub hl [0] rfl)
def wC_X6_isDigit (p1 : Int32) (S : CS) (post : Int32 → CS → Prop) : Prop := ((p1 < 48 → post 0 S) ∧ (¬ (p1 < 48) → ((57 < p1 → post 0 S) ∧ (¬ (57 < p1) → post 1 S))))
set_option maxHeartbeats 4000000 in
set_option maxRecDepth 100000 in
theorem cC_X6_isDigit (l : Launch) (D : va_G) (h : Nat → Nat) (cy : Nat → ClassId) (p1 : Int32) (S : CS) (post : Int32 → CS → Prop) (hw : wC_X6_isDigit p1 S post) : e_Mi nxE l yX6_isDigit wsX6_isDigit { frames := 0, cells := 0, slots := 0, locals := 0 } D (tyC cy) (wC h cy) [.int p1] S post := by
  intro sz
  refine Met.ofW (cc := cX6_isDigit) (maxL := 1) (ret := (some .boolean)) (by decide) rfl ?_
  intro p e s m args below meth c s₁ B hml hv
  obtain ⟨rfl, hsz, hP, hK, hD0, hs⟩ := hv
  have hx := B.exec
  have hb := B.bytes
  have hr := B.returns
  have hts := atoms_spec (ws := wsX6_isDigit) B.pre
  have hown : s.vm.findClass RX6 = some m.cls := findClass_of_methodNamed B.named
  have hlocks := B.notSynchronized
  subst hsz
  have hD := hD0.self (sz := s.heap.size)
  generalize hAe : va_A (wC h cy S) s.heap.size = A at hD ⊢
  have hA : ∀ q : Nat, s.heap.size ≤ q → A q := fun q h => by rw [← hAe]; exact Or.inr h
  have hS : va_S A s.heap s.heap [] := va_S.rf
  have hl := lv_entry ([.int p1]) (n := 1) (Nat.le_of_ble_eq_true rfl)
  rw [lg_entry_eq]
  generalize (lg_sl ([.int p1]) ++ List.replicate (1 - (lg_sl ([.int p1])).length) Slot.unset).toArray = ls at hl ⊢
  have hl : lv_has ls 1 [(0, .int p1)] := hl
  unfold wC_X6_isDigit at hw
  clear hD0
  refine lv_iload_n hx hb dX6_isDigit_0 rfl (lv_at hl 0 rfl) ?_
  refine lv_bipush (v := 48) hx hb dX6_isDigit_1 (by decide) ?_
  obtain ⟨hc_1t, hc_1f⟩ := hw
  refine lv_icmp_lt (tgt := 16) hx hb dX6_isDigit_3 (by decide) (fun c_1 => ?_) (fun c_1 => ?_)
  · have hw := hc_1t c_1
    clear hc_1t hc_1f
    refine lv_iconst (v := 0) hx hb dX6_isDigit_16 (by decide) ?_
    exact W.zret (v := 0) hx hb hr (by decide +kernel) (fun t ht hW => ⟨⟨0, S, rfl, hw, by rw [ht]; exact hP, va_K.moved hW.alike hK, hD⟩, hS.F ht⟩) hS.2.2 dX6_isDigit_17
  · have hw := hc_1f c_1
    clear hc_1t hc_1f
    refine lv_iload_n hx hb dX6_isDigit_6 rfl (lv_at hl 0 rfl) ?_
    refine lv_bipush (v := 57) hx hb dX6_isDigit_7 (by decide) ?_
    obtain ⟨hc_2t, hc_2f⟩ := hw
    refine lv_icmp_gt (tgt := 16) hx hb dX6_isDigit_9 (by decide) (fun c_2 => ?_) (fun c_2 => ?_)
    · have hw := hc_2t c_2
      clear hc_2t hc_2f
      refine lv_iconst (v := 0) hx hb dX6_isDigit_16 (by decide) ?_
      exact W.zret (v := 0) hx hb hr (by decide +kernel) (fun t ht hW => ⟨⟨0, S, rfl, hw, by rw [ht]; exact hP, va_K.moved hW.alike hK, hD⟩, hS.F ht⟩) hS.2.2 dX6_isDigit_17
    · have hw := hc_2f c_2
      clear hc_2t hc_2f
      refine lv_iconst (v := 1) hx hb dX6_isDigit_12 (by decide) ?_
      refine lv_goto (tgt := 17) hx hb dX6_isDigit_13 (by decide) ?_
      exact W.zret (v := 1) hx hb hr (by decide +kernel) (fun t ht hW => ⟨⟨1, S, rfl, hw, by rw [ht]; exact hP, va_K.moved hW.alike hK, hD⟩, hS.F ht⟩) hS.2.2 dX6_isDigit_17
def wC_X6_plainSign (p1 : Int32) (S : CS) (post : Int32 → CS → Prop) : Prop := ((p1 = 35 → post 38 S) ∧ (p1 = 40 → post 43 S) ∧ (p1 = 41 → post 44 S) ∧ (p1 = 42 → post 41 S) ∧ (p1 = 43 → post 39 S) ∧ (p1 = 45 → post 40 S) ∧ (p1 = 47 → post 42 S) ∧ (p1 = 59 → post 45 S) ∧ (p1 = 61 → post 37 S) ∧ (¬ p1 = 35 → ¬ p1 = 40 → ¬ p1 = 41 → ¬ p1 = 42 → ¬ p1 = 43 → ¬ p1 = 45 → ¬ p1 = 47 → ¬ p1 = 59 → ¬ p1 = 61 → post 30 S))
set_option maxHeartbeats 4000000 in
set_option maxRecDepth 100000 in
theorem cC_X6_plainSign (l : Launch) (D : va_G) (h : Nat → Nat) (cy : Nat → ClassId) (p1 : Int32) (S : CS) (post : Int32 → CS → Prop) (hw : wC_X6_plainSign p1 S post) : e_Mi nxE l yX6_plainSign wsX6_plainSign { frames := 0, cells := 0, slots := 0, locals := 0 } D (tyC cy) (wC h cy) [.int p1] S post := by
  intro sz
  refine Met.ofW (cc := cX6_plainSign) (maxL := 1) (ret := (some .int)) (by decide) rfl ?_
  intro p e s m args below meth c s₁ B hml hv
  obtain ⟨rfl, hsz, hP, hK, hD0, hs⟩ := hv
  have hx := B.exec
  have hb := B.bytes
  have hr := B.returns
  have hts := atoms_spec (ws := wsX6_plainSign) B.pre
  have hown : s.vm.findClass RX6 = some m.cls := findClass_of_methodNamed B.named
  have hlocks := B.notSynchronized
  subst hsz
  have hD := hD0.self (sz := s.heap.size)
  generalize hAe : va_A (wC h cy S) s.heap.size = A at hD ⊢
  have hA : ∀ q : Nat, s.heap.size ≤ q → A q := fun q h => by rw [← hAe]; exact Or.inr h
  have hS : va_S A s.heap s.heap [] := va_S.rf
  have hl := lv_entry ([.int p1]) (n := 1) (Nat.le_of_ble_eq_true rfl)
  rw [lg_entry_eq]
  generalize (lg_sl ([.int p1]) ++ List.replicate (1 - (lg_sl ([.int p1])).length) Slot.unset).toArray = ls at hl ⊢
  have hl : lv_has ls 1 [(0, .int p1)] := hl
  unfold wC_X6_plainSign at hw
  clear hD0
  refine lv_iload_n hx hb dX6_plainSign_0 rfl (lv_at hl 0 rfl) ?_
  obtain ⟨hc_1, hw⟩ := hw
  by_cases c_1 : p1 = 35
  · have hw := hc_1 c_1
    refine lv_tableIn (off := 126) (tgt := 127) hx hb dX6_plainSign_1 (by rw [c_1]; decide) (by rw [c_1]; decide) (by rw [c_1]; rfl) (by decide) ?_
    refine lv_bipush (v := 38) hx hb dX6_plainSign_127 (by decide) ?_
    exact W.iret (v := 38) hx hb hr (fun t ht hW => ⟨⟨38, S, rfl, hw, by rw [ht]; exact hP, va_K.moved hW.alike hK, hD⟩, hS.F ht⟩) hS.2.2 dX6_plainSign_129
  obtain ⟨hc_2, hw⟩ := hw
  by_cases c_2 : p1 = 40
  · have hw := hc_2 c_2
    refine lv_tableIn (off := 141) (tgt := 142) hx hb dX6_plainSign_1 (by rw [c_2]; decide) (by rw [c_2]; decide) (by rw [c_2]; rfl) (by decide) ?_
    refine lv_bipush (v := 43) hx hb dX6_plainSign_142 (by decide) ?_
    exact W.iret (v := 43) hx hb hr (fun t ht hW => ⟨⟨43, S, rfl, hw, by rw [ht]; exact hP, va_K.moved hW.alike hK, hD⟩, hS.F ht⟩) hS.2.2 dX6_plainSign_144
  obtain ⟨hc_3, hw⟩ := hw
  by_cases c_3 : p1 = 41
  · have hw := hc_3 c_3
    refine lv_tableIn (off := 144) (tgt := 145) hx hb dX6_plainSign_1 (by rw [c_3]; decide) (by rw [c_3]; decide) (by rw [c_3]; rfl) (by decide) ?_
    refine lv_bipush (v := 44) hx hb dX6_plainSign_145 (by decide) ?_
    exact W.iret (v := 44) hx hb hr (fun t ht hW => ⟨⟨44, S, rfl, hw, by rw [ht]; exact hP, va_K.moved hW.alike hK, hD⟩, hS.F ht⟩) hS.2.2 dX6_plainSign_147
  obtain ⟨hc_4, hw⟩ := hw
  by_cases c_4 : p1 = 42
  · have hw := hc_4 c_4
    refine lv_tableIn (off := 135) (tgt := 136) hx hb dX6_plainSign_1 (by rw [c_4]; decide) (by rw [c_4]; decide) (by rw [c_4]; rfl) (by decide) ?_
    refine lv_bipush (v := 41) hx hb dX6_plainSign_136 (by decide) ?_
    exact W.iret (v := 41) hx hb hr (fun t ht hW => ⟨⟨41, S, rfl, hw, by rw [ht]; exact hP, va_K.moved hW.alike hK, hD⟩, hS.F ht⟩) hS.2.2 dX6_plainSign_138
  obtain ⟨hc_5, hw⟩ := hw
  by_cases c_5 : p1 = 43
  · have hw := hc_5 c_5
    refine lv_tableIn (off := 129) (tgt := 130) hx hb dX6_plainSign_1 (by rw [c_5]; decide) (by rw [c_5]; decide) (by rw [c_5]; rfl) (by decide) ?_
    refine lv_bipush (v := 39) hx hb dX6_plainSign_130 (by decide) ?_
    exact W.iret (v := 39) hx hb hr (fun t ht hW => ⟨⟨39, S, rfl, hw, by rw [ht]; exact hP, va_K.moved hW.alike hK, hD⟩, hS.F ht⟩) hS.2.2 dX6_plainSign_132
  obtain ⟨hc_6, hw⟩ := hw
  by_cases c_6 : p1 = 45
  · have hw := hc_6 c_6
    refine lv_tableIn (off := 132) (tgt := 133) hx hb dX6_plainSign_1 (by rw [c_6]; decide) (by rw [c_6]; decide) (by rw [c_6]; rfl) (by decide) ?_
    refine lv_bipush (v := 40) hx hb dX6_plainSign_133 (by decide) ?_
    exact W.iret (v := 40) hx hb hr (fun t ht hW => ⟨⟨40, S, rfl, hw, by rw [ht]; exact hP, va_K.moved hW.alike hK, hD⟩, hS.F ht⟩) hS.2.2 dX6_plainSign_135
  obtain ⟨hc_7, hw⟩ := hw
  by_cases c_7 : p1 = 47
  · have hw := hc_7 c_7
    refine lv_tableIn (off := 138) (tgt := 139) hx hb dX6_plainSign_1 (by rw [c_7]; decide) (by rw [c_7]; decide) (by rw [c_7]; rfl) (by decide) ?_
    refine lv_bipush (v := 42) hx hb dX6_plainSign_139 (by decide) ?_
    exact W.iret (v := 42) hx hb hr (fun t ht hW => ⟨⟨42, S, rfl, hw, by rw [ht]; exact hP, va_K.moved hW.alike hK, hD⟩, hS.F ht⟩) hS.2.2 dX6_plainSign_141
  obtain ⟨hc_8, hw⟩ := hw
  by_cases c_8 : p1 = 59
  · have hw := hc_8 c_8
    refine lv_tableIn (off := 147) (tgt := 148) hx hb dX6_plainSign_1 (by rw [c_8]; decide) (by rw [c_8]; decide) (by rw [c_8]; rfl) (by decide) ?_
    refine lv_bipush (v := 45) hx hb dX6_plainSign_148 (by decide) ?_
    exact W.iret (v := 45) hx hb hr (fun t ht hW => ⟨⟨45, S, rfl, hw, by rw [ht]; exact hP, va_K.moved hW.alike hK, hD⟩, hS.F ht⟩) hS.2.2 dX6_plainSign_150
  obtain ⟨hc_9, hw⟩ := hw
  by_cases c_9 : p1 = 61
  · have hw := hc_9 c_9
    refine lv_tableIn (off := 123) (tgt := 124) hx hb dX6_plainSign_1 (by rw [c_9]; decide) (by rw [c_9]; decide) (by rw [c_9]; rfl) (by decide) ?_
    refine lv_bipush (v := 37) hx hb dX6_plainSign_124 (by decide) ?_
    exact W.iret (v := 37) hx hb hr (fun t ht hW => ⟨⟨37, S, rfl, hw, by rw [ht]; exact hP, va_K.moved hW.alike hK, hD⟩, hS.F ht⟩) hS.2.2 dX6_plainSign_126
  have hw := hw c_1 c_2 c_3 c_4 c_5 c_6 c_7 c_8 c_9
  by_cases c_10 : p1 = 36
  · refine lv_tableIn (off := 150) (tgt := 151) hx hb dX6_plainSign_1 (by rw [c_10]; decide) (by rw [c_10]; decide) (by rw [c_10]; rfl) (by decide) ?_
    refine lv_bipush (v := 30) hx hb dX6_plainSign_151 (by decide) ?_
    exact W.iret (v := 30) hx hb hr (fun t ht hW => ⟨⟨30, S, rfl, hw, by rw [ht]; exact hP, va_K.moved hW.alike hK, hD⟩, hS.F ht⟩) hS.2.2 dX6_plainSign_153
  by_cases c_11 : p1 = 37
  · refine lv_tableIn (off := 150) (tgt := 151) hx hb dX6_plainSign_1 (by rw [c_11]; decide) (by rw [c_11]; decide) (by rw [c_11]; rfl) (by decide) ?_
    refine lv_bipush (v := 30) hx hb dX6_plainSign_151 (by decide) ?_
    exact W.iret (v := 30) hx hb hr (fun t ht hW => ⟨⟨30, S, rfl, hw, by rw [ht]; exact hP, va_K.moved hW.alike hK, hD⟩, hS.F ht⟩) hS.2.2 dX6_plainSign_153
  by_cases c_12 : p1 = 38
  · refine lv_tableIn (off := 150) (tgt := 151) hx hb dX6_plainSign_1 (by rw [c_12]; decide) (by rw [c_12]; decide) (by rw [c_12]; rfl) (by decide) ?_
    refine lv_bipush (v := 30) hx hb dX6_plainSign_151 (by decide) ?_
    exact W.iret (v := 30) hx hb hr (fun t ht hW => ⟨⟨30, S, rfl, hw, by rw [ht]; exact hP, va_K.moved hW.alike hK, hD⟩, hS.F ht⟩) hS.2.2 dX6_plainSign_153
  by_cases c_13 : p1 = 39
  · refine lv_tableIn (off := 150) (tgt := 151) hx hb dX6_plainSign_1 (by rw [c_13]; decide) (by rw [c_13]; decide) (by rw [c_13]; rfl) (by decide) ?_
    refine lv_bipush (v := 30) hx hb dX6_plainSign_151 (by decide) ?_
    exact W.iret (v := 30) hx hb hr (fun t ht hW => ⟨⟨30, S, rfl, hw, by rw [ht]; exact hP, va_K.moved hW.alike hK, hD⟩, hS.F ht⟩) hS.2.2 dX6_plainSign_153
  by_cases c_14 : p1 = 44
  · refine lv_tableIn (off := 150) (tgt := 151) hx hb dX6_plainSign_1 (by rw [c_14]; decide) (by rw [c_14]; decide) (by rw [c_14]; rfl) (by decide) ?_
    refine lv_bipush (v := 30) hx hb dX6_plainSign_151 (by decide) ?_
    exact W.iret (v := 30) hx hb hr (fun t ht hW => ⟨⟨30, S, rfl, hw, by rw [ht]; exact hP, va_K.moved hW.alike hK, hD⟩, hS.F ht⟩) hS.2.2 dX6_plainSign_153
  by_cases c_15 : p1 = 46
  · refine lv_tableIn (off := 150) (tgt := 151) hx hb dX6_plainSign_1 (by rw [c_15]; decide) (by rw [c_15]; decide) (by rw [c_15]; rfl) (by decide) ?_
    refine lv_bipush (v := 30) hx hb dX6_plainSign_151 (by decide) ?_
    exact W.iret (v := 30) hx hb hr (fun t ht hW => ⟨⟨30, S, rfl, hw, by rw [ht]; exact hP, va_K.moved hW.alike hK, hD⟩, hS.F ht⟩) hS.2.2 dX6_plainSign_153
  by_cases c_16 : p1 = 48
  · refine lv_tableIn (off := 150) (tgt := 151) hx hb dX6_plainSign_1 (by rw [c_16]; decide) (by rw [c_16]; decide) (by rw [c_16]; rfl) (by decide) ?_
    refine lv_bipush (v := 30) hx hb dX6_plainSign_151 (by decide) ?_
    exact W.iret (v := 30) hx hb hr (fun t ht hW => ⟨⟨30, S, rfl, hw, by rw [ht]; exact hP, va_K.moved hW.alike hK, hD⟩, hS.F ht⟩) hS.2.2 dX6_plainSign_153
  by_cases c_17 : p1 = 49
  · refine lv_tableIn (off := 150) (tgt := 151) hx hb dX6_plainSign_1 (by rw [c_17]; decide) (by rw [c_17]; decide) (by rw [c_17]; rfl) (by decide) ?_
    refine lv_bipush (v := 30) hx hb dX6_plainSign_151 (by decide) ?_
    exact W.iret (v := 30) hx hb hr (fun t ht hW => ⟨⟨30, S, rfl, hw, by rw [ht]; exact hP, va_K.moved hW.alike hK, hD⟩, hS.F ht⟩) hS.2.2 dX6_plainSign_153
  by_cases c_18 : p1 = 50
  · refine lv_tableIn (off := 150) (tgt := 151) hx hb dX6_plainSign_1 (by rw [c_18]; decide) (by rw [c_18]; decide) (by rw [c_18]; rfl) (by decide) ?_
    refine lv_bipush (v := 30) hx hb dX6_plainSign_151 (by decide) ?_
    exact W.iret (v := 30) hx hb hr (fun t ht hW => ⟨⟨30, S, rfl, hw, by rw [ht]; exact hP, va_K.moved hW.alike hK, hD⟩, hS.F ht⟩) hS.2.2 dX6_plainSign_153
  by_cases c_19 : p1 = 51
  · refine lv_tableIn (off := 150) (tgt := 151) hx hb dX6_plainSign_1 (by rw [c_19]; decide) (by rw [c_19]; decide) (by rw [c_19]; rfl) (by decide) ?_
    refine lv_bipush (v := 30) hx hb dX6_plainSign_151 (by decide) ?_
    exact W.iret (v := 30) hx hb hr (fun t ht hW => ⟨⟨30, S, rfl, hw, by rw [ht]; exact hP, va_K.moved hW.alike hK, hD⟩, hS.F ht⟩) hS.2.2 dX6_plainSign_153
  by_cases c_20 : p1 = 52
  · refine lv_tableIn (off := 150) (tgt := 151) hx hb dX6_plainSign_1 (by rw [c_20]; decide) (by rw [c_20]; decide) (by rw [c_20]; rfl) (by decide) ?_
    refine lv_bipush (v := 30) hx hb dX6_plainSign_151 (by decide) ?_
    exact W.iret (v := 30) hx hb hr (fun t ht hW => ⟨⟨30, S, rfl, hw, by rw [ht]; exact hP, va_K.moved hW.alike hK, hD⟩, hS.F ht⟩) hS.2.2 dX6_plainSign_153
  by_cases c_21 : p1 = 53
  · refine lv_tableIn (off := 150) (tgt := 151) hx hb dX6_plainSign_1 (by rw [c_21]; decide) (by rw [c_21]; decide) (by rw [c_21]; rfl) (by decide) ?_
    refine lv_bipush (v := 30) hx hb dX6_plainSign_151 (by decide) ?_
    exact W.iret (v := 30) hx hb hr (fun t ht hW => ⟨⟨30, S, rfl, hw, by rw [ht]; exact hP, va_K.moved hW.alike hK, hD⟩, hS.F ht⟩) hS.2.2 dX6_plainSign_153
  by_cases c_22 : p1 = 54
  · refine lv_tableIn (off := 150) (tgt := 151) hx hb dX6_plainSign_1 (by rw [c_22]; decide) (by rw [c_22]; decide) (by rw [c_22]; rfl) (by decide) ?_
    refine lv_bipush (v := 30) hx hb dX6_plainSign_151 (by decide) ?_
    exact W.iret (v := 30) hx hb hr (fun t ht hW => ⟨⟨30, S, rfl, hw, by rw [ht]; exact hP, va_K.moved hW.alike hK, hD⟩, hS.F ht⟩) hS.2.2 dX6_plainSign_153
  by_cases c_23 : p1 = 55
  · refine lv_tableIn (off := 150) (tgt := 151) hx hb dX6_plainSign_1 (by rw [c_23]; decide) (by rw [c_23]; decide) (by rw [c_23]; rfl) (by decide) ?_
    refine lv_bipush (v := 30) hx hb dX6_plainSign_151 (by decide) ?_
    exact W.iret (v := 30) hx hb hr (fun t ht hW => ⟨⟨30, S, rfl, hw, by rw [ht]; exact hP, va_K.moved hW.alike hK, hD⟩, hS.F ht⟩) hS.2.2 dX6_plainSign_153
  by_cases c_24 : p1 = 56
  · refine lv_tableIn (off := 150) (tgt := 151) hx hb dX6_plainSign_1 (by rw [c_24]; decide) (by rw [c_24]; decide) (by rw [c_24]; rfl) (by decide) ?_
    refine lv_bipush (v := 30) hx hb dX6_plainSign_151 (by decide) ?_
    exact W.iret (v := 30) hx hb hr (fun t ht hW => ⟨⟨30, S, rfl, hw, by rw [ht]; exact hP, va_K.moved hW.alike hK, hD⟩, hS.F ht⟩) hS.2.2 dX6_plainSign_153
  by_cases c_25 : p1 = 57
  · refine lv_tableIn (off := 150) (tgt := 151) hx hb dX6_plainSign_1 (by rw [c_25]; decide) (by rw [c_25]; decide) (by rw [c_25]; rfl) (by decide) ?_
    refine lv_bipush (v := 30) hx hb dX6_plainSign_151 (by decide) ?_
    exact W.iret (v := 30) hx hb hr (fun t ht hW => ⟨⟨30, S, rfl, hw, by rw [ht]; exact hP, va_K.moved hW.alike hK, hD⟩, hS.F ht⟩) hS.2.2 dX6_plainSign_153
  by_cases c_26 : p1 = 58
  · refine lv_tableIn (off := 150) (tgt := 151) hx hb dX6_plainSign_1 (by rw [c_26]; decide) (by rw [c_26]; decide) (by rw [c_26]; rfl) (by decide) ?_
    refine lv_bipush (v := 30) hx hb dX6_plainSign_151 (by decide) ?_
    exact W.iret (v := 30) hx hb hr (fun t ht hW => ⟨⟨30, S, rfl, hw, by rw [ht]; exact hP, va_K.moved hW.alike hK, hD⟩, hS.F ht⟩) hS.2.2 dX6_plainSign_153
  by_cases c_27 : p1 = 60
  · refine lv_tableIn (off := 150) (tgt := 151) hx hb dX6_plainSign_1 (by rw [c_27]; decide) (by rw [c_27]; decide) (by rw [c_27]; rfl) (by decide) ?_
    refine lv_bipush (v := 30) hx hb dX6_plainSign_151 (by decide) ?_
    exact W.iret (v := 30) hx hb hr (fun t ht hW => ⟨⟨30, S, rfl, hw, by rw [ht]; exact hP, va_K.moved hW.alike hK, hD⟩, hS.F ht⟩) hS.2.2 dX6_plainSign_153
  have c_1n := lv_neT c_1 (a := 35) (by decide)
  have c_2n := lv_neT c_2 (a := 40) (by decide)
  have c_3n := lv_neT c_3 (a := 41) (by decide)
  have c_4n := lv_neT c_4 (a := 42) (by decide)
  have c_5n := lv_neT c_5 (a := 43) (by decide)
  have c_6n := lv_neT c_6 (a := 45) (by decide)
  have c_7n := lv_neT c_7 (a := 47) (by decide)
  have c_8n := lv_neT c_8 (a := 59) (by decide)
  have c_9n := lv_neT c_9 (a := 61) (by decide)
  have c_10n := lv_neT c_10 (a := 36) (by decide)
  have c_11n := lv_neT c_11 (a := 37) (by decide)
  have c_12n := lv_neT c_12 (a := 38) (by decide)
  have c_13n := lv_neT c_13 (a := 39) (by decide)
  have c_14n := lv_neT c_14 (a := 44) (by decide)
  have c_15n := lv_neT c_15 (a := 46) (by decide)
  have c_16n := lv_neT c_16 (a := 48) (by decide)
  have c_17n := lv_neT c_17 (a := 49) (by decide)
  have c_18n := lv_neT c_18 (a := 50) (by decide)
  have c_19n := lv_neT c_19 (a := 51) (by decide)
  have c_20n := lv_neT c_20 (a := 52) (by decide)
  have c_21n := lv_neT c_21 (a := 53) (by decide)
  have c_22n := lv_neT c_22 (a := 54) (by decide)
  have c_23n := lv_neT c_23 (a := 55) (by decide)
  have c_24n := lv_neT c_24 (a := 56) (by decide)
  have c_25n := lv_neT c_25 (a := 57) (by decide)
  have c_26n := lv_neT c_26 (a := 58) (by decide)
  have c_27n := lv_neT c_27 (a := 60) (by decide)
  refine lv_tableOut (tgt := 151) hx hb dX6_plainSign_1 (by omega) (by decide) ?_
  refine lv_bipush (v := 30) hx hb dX6_plainSign_151 (by decide) ?_
  exact W.iret (v := 30) hx hb hr (fun t ht hW => ⟨⟨30, S, rfl, hw, by rw [ht]; exact hP, va_K.moved hW.alike hK, hD⟩, hS.F ht⟩) hS.2.2 dX6_plainSign_153
def wC_X6_takeSign_93 (post : CS → Prop) (S : CS) : Prop := (((cx_r_token S) = 33 → (∀ S_2 : CS, S_2 = (cx_set_r_place S ((cx_r_place S) + 2)) → post S_2)) ∧ (¬ ((cx_r_token S) = 33) → (((cx_r_token S) = 34 → (∀ S_5 : CS, S_5 = (cx_set_r_place S ((cx_r_place S) + 2)) → post S_5)) ∧ (¬ ((cx_r_token S) = 34) → (∀ S_4 : CS, S_4 = (cx_set_r_place S ((cx_r_place S) + 1)) → post S_4)))))
def wC_X6_takeSign_36 (post : CS → Prop) (x1 : Int32) (t0 : Int32) (S : CS) : Prop := ((x1 = 60 → ((t0 = 0 → (∀ S_10 : CS, S_10 = (cx_set_r_token S 35) → wC_X6_takeSign_93 post S_10)) ∧ (¬ (t0 = 0) → (∀ S_11 : CS, S_11 = (cx_set_r_token S 33) → wC_X6_takeSign_93 post S_11)))) ∧ (¬ (x1 = 60) → ((x1 = 62 → ((t0 = 0 → (∀ S_7 : CS, S_7 = (cx_set_r_token S 36) → wC_X6_takeSign_93 post S_7)) ∧ (¬ (t0 = 0) → (∀ S_8 : CS, S_8 = (cx_set_r_token S 34) → wC_X6_takeSign_93 post S_8)))) ∧ (¬ (x1 = 62) → wC_X6_plainSign x1 S (fun r_3 S_4 => (∀ S_5 : CS, S_5 = (cx_set_r_token S_4 r_3) → wC_X6_takeSign_93 post S_5))))))
def wC_X6_takeSign (p1 : Int32) (S : CS) (post : CS → Prop) : Prop := (((cx_r_length S) ≤ ((cx_r_place S) + 1) → wC_X6_takeSign_36 post p1 0 S) ∧ (¬ ((cx_r_length S) ≤ ((cx_r_place S) + 1)) → (((k_at 300 (cx_r_tape S) ((cx_r_place S) + 1)) = 61 → wC_X6_takeSign_36 post p1 1 S) ∧ (¬ ((k_at 300 (cx_r_tape S) ((cx_r_place S) + 1)) = 61) → wC_X6_takeSign_36 post p1 0 S))))
set_option maxHeartbeats 4000000 in
set_option maxRecDepth 100000 in
theorem cC_X6_takeSign (l : Launch) (D : va_G) (h : Nat → Nat) (cy : Nat → ClassId) (p1 : Int32) (S : CS) (post : CS → Prop) (hw : wC_X6_takeSign p1 S post) : e_Mv nxE l yX6_takeSign wsX6_takeSign { frames := 1, cells := 0, slots := 0, locals := 21 } D (tyC cy) (wC h cy) [.ref (h 5), .int p1] S post := by
  intro sz
  refine Met.ofW (cc := cX6_takeSign) (maxL := 3) (ret := none) (by decide) rfl ?_
  intro p e s m args below meth c s₁ B hml hv
  obtain ⟨rfl, hsz, hP, hK, hD0, hs⟩ := hv
  have hx := B.exec
  have hb := B.bytes
  have hr := B.returns
  have hts := atoms_spec (ws := wsX6_takeSign) B.pre
  have hown : s.vm.findClass RX6 = some m.cls := findClass_of_methodNamed B.named
  have hlocks := B.notSynchronized
  subst hsz
  have hD := hD0.self (sz := s.heap.size)
  generalize hAe : va_A (wC h cy S) s.heap.size = A at hD ⊢
  have hA : ∀ q : Nat, s.heap.size ≤ q → A q := fun q h => by rw [← hAe]; exact Or.inr h
  have hS : va_S A s.heap s.heap [] := va_S.rf
  have hin6 : ∀ w ∈ wsX60, w ∈ wsX6_takeSign := fun _ h => List.mem_cons_of_mem _ (List.mem_append_right _ h)
  have w21 := hts (.fieldLink RX6 21 "ClownsMourn$Reader" "tape" "[I") (List.mem_of_getElem? (i := 3) rfl)
  have w38 := hts (.fieldLink RX6 38 "ClownsMourn$Reader" "place" "I") (List.mem_of_getElem? (i := 1) rfl)
  have w62 := hts (.fieldLink RX6 62 "ClownsMourn$Reader" "token" "I") (List.mem_of_getElem? (i := 4) rfl)
  have w9 := hts (.fieldLink RX6 9 "ClownsMourn$Reader" "length" "I") (List.mem_of_getElem? (i := 2) rfl)
  have wiX11 := hts (.initialized RX11) (List.mem_of_getElem? (i := 6) rfl)
  have wstat := hts (.static yX11_at) (List.mem_of_getElem? (i := 5) rfl)
  have hl := lv_entry ([.ref (h 5), .int p1]) (n := 3) (Nat.le_of_ble_eq_true rfl)
  rw [lg_entry_eq]
  generalize (lg_sl ([.ref (h 5), .int p1]) ++ List.replicate (3 - (lg_sl ([.ref (h 5), .int p1])).length) Slot.unset).toArray = ls at hl ⊢
  have hl : lv_has ls 3 [(0, .ref (h 5)), (1, .int p1)] := hl
  unfold wC_X6_takeSign at hw
  clear hD0
  have J_93 : ∀ (S : CS) (H : Heap) (locs : List Loc) (ls : Array Slot), wC_X6_takeSign_93 post S → va_P D vwCl (wC h cy S) H → va_D A (wC h cy S) → va_S A s.heap H locs → lv_has ls 3 [(0, .ref (h 5))] → W p l e (headSpec wsX6_takeSign { frames := 1, cells := 0, slots := 0, locals := 21 }).room s m (([.ref (h 5), .int p1] : List Value).toArray) below meth c H locs 0 0 (MQ below (va_Qv post (k_Post D (tyC cy) (wC h cy) A) A) (([.ref (h 5), .int p1] : List Value).toArray) s 0 0 A) (F0 m 93 ls []) := by
    intro S H locs ls hw hP hD hS hl
    unfold wC_X6_takeSign_93 at hw
    refine lv_aload_n hx hb dX6_takeSign_93 rfl (lv_at hl 0 rfl) ?_
    refine lv_dup hx hb dX6_takeSign_94 rfl ?_
    refine va_get (D := D) (ci := 6) (v := .int (cx_r_place S)) (C := RX6) (T := TX6) (N := 16) hx hb hts hin6 hown hK hP 5 rfl rfl 9 (by decide) w38 (fun _ h9 => h9) rfl dX6_takeSign_95 ?_
    refine lv_aload_n hx hb dX6_takeSign_98 rfl (lv_at hl 0 rfl) ?_
    refine va_get (D := D) (ci := 6) (v := .int (cx_r_token S)) (C := RX6) (T := TX6) (N := 16) hx hb hts hin6 hown hK hP 5 rfl rfl 11 (by decide) w62 (fun _ h9 => h9) rfl dX6_takeSign_99 ?_
    refine lv_bipush (v := 33) hx hb dX6_takeSign_102 (by decide) ?_
    obtain ⟨hc_1t, hc_1f⟩ := hw
    refine lv_icmp_eq (tgt := 116) hx hb dX6_takeSign_104 (by decide) (fun c_1 => ?_) (fun c_1 => ?_)
    · have hw := hc_1t c_1
      clear hc_1t hc_1f
      refine lv_iconst (v := 2) hx hb dX6_takeSign_116 (by decide) ?_
      refine lv_goto (tgt := 121) hx hb dX6_takeSign_117 (by decide) ?_
      refine lv_iadd hx hb dX6_takeSign_121 ?_
      refine va_put (D := D) (ci := 6) (v := .int ((cx_r_place S) + 2)) (ty := .int) (C := RX6) (T := TX6) (N := 16) hx hb hts hin6 tyX6 tyX6_ok nmX6 hown hK hP hD hS 5 rfl rfl 9 (by decide) w38 (fun _ h9 => h9) rfl (tyX6_ok 9 (by decide)) rfl rfl (Nat.le_of_ble_eq_true rfl) dX6_takeSign_122 (fun H locs hP hD hS => ?_)
      obtain ⟨S_2, eS_2⟩ : ∃ z : CS, z = (cx_set_r_place S ((cx_r_place S) + 2)) := ⟨_, rfl⟩
      replace hw := hw S_2 eS_2
      have hP : va_P D vwCl (wC h cy S_2) H := by rw [eS_2, ← wCp_r_place]; exact hP
      have hD : va_D A (wC h cy S_2) := by rw [eS_2, ← wCp_r_place]; exact hD
      exact W.vret hx hb hr (fun t ht hW => ⟨⟨S_2, rfl, hw, by rw [ht]; exact hP, va_K.moved hW.alike hK, hD⟩, hS.F ht⟩) hS.2.2 dX6_takeSign_125
    · have hw := hc_1f c_1
      clear hc_1t hc_1f
      refine lv_aload_n hx hb dX6_takeSign_107 rfl (lv_at hl 0 rfl) ?_
      refine va_get (D := D) (ci := 6) (v := .int (cx_r_token S)) (C := RX6) (T := TX6) (N := 16) hx hb hts hin6 hown hK hP 5 rfl rfl 11 (by decide) w62 (fun _ h9 => h9) rfl dX6_takeSign_108 ?_
      refine lv_bipush (v := 34) hx hb dX6_takeSign_111 (by decide) ?_
      obtain ⟨hc_3t, hc_3f⟩ := hw
      refine lv_icmp_ne (tgt := 120) hx hb dX6_takeSign_113 (by decide) (fun c_3 => ?_) (fun c_3 => ?_)
      · have hw := hc_3f c_3
        clear hc_3t hc_3f
        refine lv_iconst (v := 1) hx hb dX6_takeSign_120 (by decide) ?_
        refine lv_iadd hx hb dX6_takeSign_121 ?_
        refine va_put (D := D) (ci := 6) (v := .int ((cx_r_place S) + 1)) (ty := .int) (C := RX6) (T := TX6) (N := 16) hx hb hts hin6 tyX6 tyX6_ok nmX6 hown hK hP hD hS 5 rfl rfl 9 (by decide) w38 (fun _ h9 => h9) rfl (tyX6_ok 9 (by decide)) rfl rfl (Nat.le_of_ble_eq_true rfl) dX6_takeSign_122 (fun H locs hP hD hS => ?_)
        obtain ⟨S_4, eS_4⟩ : ∃ z : CS, z = (cx_set_r_place S ((cx_r_place S) + 1)) := ⟨_, rfl⟩
        replace hw := hw S_4 eS_4
        have hP : va_P D vwCl (wC h cy S_4) H := by rw [eS_4, ← wCp_r_place]; exact hP
        have hD : va_D A (wC h cy S_4) := by rw [eS_4, ← wCp_r_place]; exact hD
        exact W.vret hx hb hr (fun t ht hW => ⟨⟨S_4, rfl, hw, by rw [ht]; exact hP, va_K.moved hW.alike hK, hD⟩, hS.F ht⟩) hS.2.2 dX6_takeSign_125
      · have hw := hc_3t c_3
        clear hc_3t hc_3f
        refine lv_iconst (v := 2) hx hb dX6_takeSign_116 (by decide) ?_
        refine lv_goto (tgt := 121) hx hb dX6_takeSign_117 (by decide) ?_
        refine lv_iadd hx hb dX6_takeSign_121 ?_
        refine va_put (D := D) (ci := 6) (v := .int ((cx_r_place S) + 2)) (ty := .int) (C := RX6) (T := TX6) (N := 16) hx hb hts hin6 tyX6 tyX6_ok nmX6 hown hK hP hD hS 5 rfl rfl 9 (by decide) w38 (fun _ h9 => h9) rfl (tyX6_ok 9 (by decide)) rfl rfl (Nat.le_of_ble_eq_true rfl) dX6_takeSign_122 (fun H locs hP hD hS => ?_)
        obtain ⟨S_5, eS_5⟩ : ∃ z : CS, z = (cx_set_r_place S ((cx_r_place S) + 2)) := ⟨_, rfl⟩
        replace hw := hw S_5 eS_5
        have hP : va_P D vwCl (wC h cy S_5) H := by rw [eS_5, ← wCp_r_place]; exact hP
        have hD : va_D A (wC h cy S_5) := by rw [eS_5, ← wCp_r_place]; exact hD
        exact W.vret hx hb hr (fun t ht hW => ⟨⟨S_5, rfl, hw, by rw [ht]; exact hP, va_K.moved hW.alike hK, hD⟩, hS.F ht⟩) hS.2.2 dX6_takeSign_125
  have J_36 : ∀ (x1 : Int32) (t0 : Int32) (S : CS) (H : Heap) (locs : List Loc) (ls : Array Slot), wC_X6_takeSign_36 post x1 t0 S → va_P D vwCl (wC h cy S) H → va_D A (wC h cy S) → va_S A s.heap H locs → lv_has ls 3 [(0, .ref (h 5)), (1, .int x1)] → W p l e (headSpec wsX6_takeSign { frames := 1, cells := 0, slots := 0, locals := 21 }).room s m (([.ref (h 5), .int p1] : List Value).toArray) below meth c H locs 0 0 (MQ below (va_Qv post (k_Post D (tyC cy) (wC h cy) A) A) (([.ref (h 5), .int p1] : List Value).toArray) s 0 0 A) (F0 m 36 ls [.int t0]) := by
    intro x1 t0 S H locs ls hw hP hD hS hl
    unfold wC_X6_takeSign_36 at hw
    refine lv_istore_n (lv' := [(2, .int t0), (0, .ref (h 5)), (1, .int x1)]) hx hb dX6_takeSign_36 rfl hl (by decide) rfl (fun ls hl => ?_)
    refine lv_iload_n hx hb dX6_takeSign_37 rfl (lv_at hl 2 rfl) ?_
    refine lv_bipush (v := 60) hx hb dX6_takeSign_38 (by decide) ?_
    obtain ⟨hc_6t, hc_6f⟩ := hw
    refine lv_icmp_ne (tgt := 61) hx hb dX6_takeSign_40 (by decide) (fun c_6 => ?_) (fun c_6 => ?_)
    · have hw := hc_6f c_6
      clear hc_6t hc_6f
      refine lv_iload_n hx hb dX6_takeSign_61 rfl (lv_at hl 2 rfl) ?_
      refine lv_bipush (v := 62) hx hb dX6_takeSign_62 (by decide) ?_
      obtain ⟨hc_7t, hc_7f⟩ := hw
      refine lv_icmp_ne (tgt := 85) hx hb dX6_takeSign_64 (by decide) (fun c_7 => ?_) (fun c_7 => ?_)
      · have hw := hc_7f c_7
        clear hc_7t hc_7f
        refine lv_aload_n hx hb dX6_takeSign_85 rfl (lv_at hl 1 rfl) ?_
        refine lv_iload_n hx hb dX6_takeSign_86 rfl (lv_at hl 2 rfl) ?_
        refine e_callSi (As := [.int x1]) (rest := [.ref (h 5)]) nxE_stable hs ⟨hx, hb, hml, hown, hts⟩ (cC_X6_plainSign l D h cy _ _ _ hw) (va_cwS 1 hts gX6_takeSign_X6_plainSign rfl rfl rfl (by decide +kernel) ⟨Nat.le_of_ble_eq_true rfl, Nat.le_of_ble_eq_true rfl⟩) hK hP hD hS hA rfl hl.1 rfl (Nat.le_of_ble_eq_true rfl) dX6_takeSign_87 ⟨Nat.zero_le _, Nat.zero_le _⟩ (fun r_8 S_9 H locs hw hP hD hS => ?_)
        refine va_put (D := D) (ci := 6) (v := .int r_8) (ty := .int) (C := RX6) (T := TX6) (N := 16) hx hb hts hin6 tyX6 tyX6_ok nmX6 hown hK hP hD hS 5 rfl rfl 11 (by decide) w62 (fun _ h9 => h9) rfl (tyX6_ok 11 (by decide)) rfl rfl (Nat.le_of_ble_eq_true rfl) dX6_takeSign_90 (fun H locs hP hD hS => ?_)
        obtain ⟨S_10, eS_10⟩ : ∃ z : CS, z = (cx_set_r_token S_9 r_8) := ⟨_, rfl⟩
        replace hw := hw S_10 eS_10
        have hP : va_P D vwCl (wC h cy S_10) H := by rw [eS_10, ← wCp_r_token]; exact hP
        have hD : va_D A (wC h cy S_10) := by rw [eS_10, ← wCp_r_token]; exact hD
        exact J_93 S_10 _ _ _ hw hP hD hS (lv_sub hl [1] rfl)
      · have hw := hc_7t c_7
        clear hc_7t hc_7f
        refine lv_aload_n hx hb dX6_takeSign_67 rfl (lv_at hl 1 rfl) ?_
        refine lv_iload_n hx hb dX6_takeSign_68 rfl (lv_at hl 0 rfl) ?_
        obtain ⟨hc_11t, hc_11f⟩ := hw
        refine lv_if_eq (tgt := 77) hx hb dX6_takeSign_69 (by decide) (fun c_11 => ?_) (fun c_11 => ?_)
        · have hw := hc_11t c_11
          clear hc_11t hc_11f
          refine lv_bipush (v := 36) hx hb dX6_takeSign_77 (by decide) ?_
          refine va_put (D := D) (ci := 6) (v := .int 36) (ty := .int) (C := RX6) (T := TX6) (N := 16) hx hb hts hin6 tyX6 tyX6_ok nmX6 hown hK hP hD hS 5 rfl rfl 11 (by decide) w62 (fun _ h9 => h9) rfl (tyX6_ok 11 (by decide)) rfl rfl (Nat.le_of_ble_eq_true rfl) dX6_takeSign_79 (fun H locs hP hD hS => ?_)
          obtain ⟨S_12, eS_12⟩ : ∃ z : CS, z = (cx_set_r_token S 36) := ⟨_, rfl⟩
          replace hw := hw S_12 eS_12
          have hP : va_P D vwCl (wC h cy S_12) H := by rw [eS_12, ← wCp_r_token]; exact hP
          have hD : va_D A (wC h cy S_12) := by rw [eS_12, ← wCp_r_token]; exact hD
          refine lv_goto (tgt := 93) hx hb dX6_takeSign_82 (by decide) ?_
          exact J_93 S_12 _ _ _ hw hP hD hS (lv_sub hl [1] rfl)
        · have hw := hc_11f c_11
          clear hc_11t hc_11f
          refine lv_bipush (v := 34) hx hb dX6_takeSign_72 (by decide) ?_
          refine lv_goto (tgt := 79) hx hb dX6_takeSign_74 (by decide) ?_
          refine va_put (D := D) (ci := 6) (v := .int 34) (ty := .int) (C := RX6) (T := TX6) (N := 16) hx hb hts hin6 tyX6 tyX6_ok nmX6 hown hK hP hD hS 5 rfl rfl 11 (by decide) w62 (fun _ h9 => h9) rfl (tyX6_ok 11 (by decide)) rfl rfl (Nat.le_of_ble_eq_true rfl) dX6_takeSign_79 (fun H locs hP hD hS => ?_)
          obtain ⟨S_13, eS_13⟩ : ∃ z : CS, z = (cx_set_r_token S 34) := ⟨_, rfl⟩
          replace hw := hw S_13 eS_13
          have hP : va_P D vwCl (wC h cy S_13) H := by rw [eS_13, ← wCp_r_token]; exact hP
          have hD : va_D A (wC h cy S_13) := by rw [eS_13, ← wCp_r_token]; exact hD
          refine lv_goto (tgt := 93) hx hb dX6_takeSign_82 (by decide) ?_
          exact J_93 S_13 _ _ _ hw hP hD hS (lv_sub hl [1] rfl)
    · have hw := hc_6t c_6
      clear hc_6t hc_6f
      refine lv_aload_n hx hb dX6_takeSign_43 rfl (lv_at hl 1 rfl) ?_
      refine lv_iload_n hx hb dX6_takeSign_44 rfl (lv_at hl 0 rfl) ?_
      obtain ⟨hc_14t, hc_14f⟩ := hw
      refine lv_if_eq (tgt := 53) hx hb dX6_takeSign_45 (by decide) (fun c_14 => ?_) (fun c_14 => ?_)
      · have hw := hc_14t c_14
        clear hc_14t hc_14f
        refine lv_bipush (v := 35) hx hb dX6_takeSign_53 (by decide) ?_
        refine va_put (D := D) (ci := 6) (v := .int 35) (ty := .int) (C := RX6) (T := TX6) (N := 16) hx hb hts hin6 tyX6 tyX6_ok nmX6 hown hK hP hD hS 5 rfl rfl 11 (by decide) w62 (fun _ h9 => h9) rfl (tyX6_ok 11 (by decide)) rfl rfl (Nat.le_of_ble_eq_true rfl) dX6_takeSign_55 (fun H locs hP hD hS => ?_)
        obtain ⟨S_15, eS_15⟩ : ∃ z : CS, z = (cx_set_r_token S 35) := ⟨_, rfl⟩
        replace hw := hw S_15 eS_15
        have hP : va_P D vwCl (wC h cy S_15) H := by rw [eS_15, ← wCp_r_token]; exact hP
        have hD : va_D A (wC h cy S_15) := by rw [eS_15, ← wCp_r_token]; exact hD
        refine lv_goto (tgt := 93) hx hb dX6_takeSign_58 (by decide) ?_
        exact J_93 S_15 _ _ _ hw hP hD hS (lv_sub hl [1] rfl)
      · have hw := hc_14f c_14
        clear hc_14t hc_14f
        refine lv_bipush (v := 33) hx hb dX6_takeSign_48 (by decide) ?_
        refine lv_goto (tgt := 55) hx hb dX6_takeSign_50 (by decide) ?_
        refine va_put (D := D) (ci := 6) (v := .int 33) (ty := .int) (C := RX6) (T := TX6) (N := 16) hx hb hts hin6 tyX6 tyX6_ok nmX6 hown hK hP hD hS 5 rfl rfl 11 (by decide) w62 (fun _ h9 => h9) rfl (tyX6_ok 11 (by decide)) rfl rfl (Nat.le_of_ble_eq_true rfl) dX6_takeSign_55 (fun H locs hP hD hS => ?_)
        obtain ⟨S_16, eS_16⟩ : ∃ z : CS, z = (cx_set_r_token S 33) := ⟨_, rfl⟩
        replace hw := hw S_16 eS_16
        have hP : va_P D vwCl (wC h cy S_16) H := by rw [eS_16, ← wCp_r_token]; exact hP
        have hD : va_D A (wC h cy S_16) := by rw [eS_16, ← wCp_r_token]; exact hD
        refine lv_goto (tgt := 93) hx hb dX6_takeSign_58 (by decide) ?_
        exact J_93 S_16 _ _ _ hw hP hD hS (lv_sub hl [1] rfl)
  refine lv_aload_n hx hb dX6_takeSign_0 rfl (lv_at hl 0 rfl) ?_
  refine va_get (D := D) (ci := 6) (v := .int (cx_r_place S)) (C := RX6) (T := TX6) (N := 16) hx hb hts hin6 hown hK hP 5 rfl rfl 9 (by decide) w38 (fun _ h9 => h9) rfl dX6_takeSign_1 ?_
  refine lv_iconst (v := 1) hx hb dX6_takeSign_4 (by decide) ?_
  refine lv_iadd hx hb dX6_takeSign_5 ?_
  refine lv_aload_n hx hb dX6_takeSign_6 rfl (lv_at hl 0 rfl) ?_
  refine va_get (D := D) (ci := 6) (v := .int (cx_r_length S)) (C := RX6) (T := TX6) (N := 16) hx hb hts hin6 hown hK hP 5 rfl rfl 0 (by decide) w9 (fun _ h9 => h9) rfl dX6_takeSign_7 ?_
  obtain ⟨hc_17t, hc_17f⟩ := hw
  refine lv_icmp_ge (tgt := 35) hx hb dX6_takeSign_10 (by decide) (fun c_17 => ?_) (fun c_17 => ?_)
  · have hw := hc_17t c_17
    clear hc_17t hc_17f
    refine lv_iconst (v := 0) hx hb dX6_takeSign_35 (by decide) ?_
    exact J_36 p1 0 S _ _ _ hw hP hD hS (lv_sub hl [0, 1] rfl)
  · have hw := hc_17f c_17
    clear hc_17t hc_17f
    refine lv_aload_n hx hb dX6_takeSign_13 rfl (lv_at hl 0 rfl) ?_
    refine va_get (D := D) (ci := 6) (v := .ref (h 36)) (C := RX6) (T := TX6) (N := 16) hx hb hts hin6 hown hK hP 5 rfl rfl 3 (by decide) w21 (fun _ h9 => h9) rfl dX6_takeSign_14 ?_
    refine lv_aload_n hx hb dX6_takeSign_17 rfl (lv_at hl 0 rfl) ?_
    refine va_get (D := D) (ci := 6) (v := .int (cx_r_place S)) (C := RX6) (T := TX6) (N := 16) hx hb hts hin6 hown hK hP 5 rfl rfl 9 (by decide) w38 (fun _ h9 => h9) rfl dX6_takeSign_18 ?_
    refine lv_iconst (v := 1) hx hb dX6_takeSign_21 (by decide) ?_
    refine lv_iadd hx hb dX6_takeSign_22 ?_
    refine e_callNi (As := [.ref (h 36), .int ((cx_r_place S) + 1)]) (rest := []) nxE_stable hs ⟨hx, hb, hml, hown, hts⟩ (cA_at l D nxE (tyC cy) (wC h cy) S 36 24 _ _ 300 (cx_r_tape S) rfl rfl (by decide) _ (fun r S0 => r = k_at 300 (cx_r_tape S) ((cx_r_place S) + 1) ∧ S = S0) ⟨rfl, rfl⟩) ⟨va_cnB 2 hts gX6_takeSign_X11_at_n100 rfl rfl rfl hs.2.2.2.2.2.2.2.2.1 wiX11 (by decide +kernel) ⟨Nat.le_of_ble_eq_true rfl, Nat.le_of_ble_eq_true rfl⟩, wstat, trivial⟩ hK hP hD hS hA rfl hl.1 rfl (Nat.le_of_ble_eq_true rfl) dX6_takeSign_23 ⟨Nat.zero_le _, Nat.zero_le _⟩ (fun r_ S_ H locs hq hP hD hS => ?_)
    obtain ⟨rfl, rfl⟩ := hq
    refine lv_bipush (v := 61) hx hb dX6_takeSign_26 (by decide) ?_
    obtain ⟨hc_18t, hc_18f⟩ := hw
    refine lv_icmp_ne (tgt := 35) hx hb dX6_takeSign_28 (by decide) (fun c_18 => ?_) (fun c_18 => ?_)
    · have hw := hc_18f c_18
      clear hc_18t hc_18f
      refine lv_iconst (v := 0) hx hb dX6_takeSign_35 (by decide) ?_
      exact J_36 p1 0 S _ _ _ hw hP hD hS (lv_sub hl [0, 1] rfl)
    · have hw := hc_18t c_18
      clear hc_18t hc_18f
      refine lv_iconst (v := 1) hx hb dX6_takeSign_31 (by decide) ?_
      refine lv_goto (tgt := 36) hx hb dX6_takeSign_32 (by decide) ?_
      exact J_36 p1 1 S _ _ _ hw hP hD hS (lv_sub hl [0, 1] rfl)
def wC_X6_takeNumber_5 (post : CS → Prop) : Nat → CS → Prop
  | 0, _ => False
  | n + 1, S => (((cx_r_length S) ≤ (cx_r_place S) → (∀ S_2 : CS, S_2 = (cx_set_r_token S 32) → post S_2)) ∧ (¬ ((cx_r_length S) ≤ (cx_r_place S)) → wC_X6_isDigit (k_at 300 (cx_r_tape S) (cx_r_place S)) S (fun r_3 S_4 => ((r_3 = 0 → (∀ S_6 : CS, S_6 = (cx_set_r_token S_4 32) → post S_6)) ∧ (¬ (r_3 = 0) → (∀ S_7 : CS, S_7 = (cx_set_r_number S_4 (if 10000 < ((((cx_r_number S_4) * 10) + (k_at 300 (cx_r_tape S_4) (cx_r_place S_4))) - 48) then 10000 else ((((cx_r_number S_4) * 10) + (k_at 300 (cx_r_tape S_4) (cx_r_place S_4))) - 48))) → (∀ S_8 : CS, S_8 = (cx_set_r_place S_7 ((cx_r_place S_7) + 1)) → wC_X6_takeNumber_5 post n S_8)))))))
def wC_X6_takeNumber (S : CS) (post : CS → Prop) : Prop := (∀ S_1 : CS, S_1 = (cx_set_r_number S 0) → ∃ k_ : Nat, wC_X6_takeNumber_5 post k_ S_1)
set_option maxHeartbeats 4000000 in
set_option maxRecDepth 100000 in
theorem cC_X6_takeNumber (l : Launch) (D : va_G) (h : Nat → Nat) (cy : Nat → ClassId) (S : CS) (post : CS → Prop) (hw : wC_X6_takeNumber S post) : e_Mv nxE l yX6_takeNumber wsX6_takeNumber { frames := 1, cells := 0, slots := 0, locals := 21 } D (tyC cy) (wC h cy) [.ref (h 5)] S post := by
  intro sz
  refine Met.ofW (cc := cX6_takeNumber) (maxL := 1) (ret := none) (by decide) rfl ?_
  intro p e s m args below meth c s₁ B hml hv
  obtain ⟨rfl, hsz, hP, hK, hD0, hs⟩ := hv
  have hx := B.exec
  have hb := B.bytes
  have hr := B.returns
  have hts := atoms_spec (ws := wsX6_takeNumber) B.pre
  have hown : s.vm.findClass RX6 = some m.cls := findClass_of_methodNamed B.named
  have hlocks := B.notSynchronized
  subst hsz
  have hD := hD0.self (sz := s.heap.size)
  generalize hAe : va_A (wC h cy S) s.heap.size = A at hD ⊢
  have hA : ∀ q : Nat, s.heap.size ≤ q → A q := fun q h => by rw [← hAe]; exact Or.inr h
  have hS : va_S A s.heap s.heap [] := va_S.rf
  have hin6 : ∀ w ∈ wsX60, w ∈ wsX6_takeNumber := fun _ h => List.mem_cons_of_mem _ (List.mem_append_right _ h)
  have w120 := hts (.fieldLink RX6 120 "ClownsMourn$Reader" "number" "I") (List.mem_of_getElem? (i := 1) rfl)
  have w21 := hts (.fieldLink RX6 21 "ClownsMourn$Reader" "tape" "[I") (List.mem_of_getElem? (i := 4) rfl)
  have w38 := hts (.fieldLink RX6 38 "ClownsMourn$Reader" "place" "I") (List.mem_of_getElem? (i := 2) rfl)
  have w62 := hts (.fieldLink RX6 62 "ClownsMourn$Reader" "token" "I") (List.mem_of_getElem? (i := 9) rfl)
  have w9 := hts (.fieldLink RX6 9 "ClownsMourn$Reader" "length" "I") (List.mem_of_getElem? (i := 3) rfl)
  have wm188 := hts (.methodLink RX6 188 Lib.Math.min.name) (List.mem_of_getElem? (i := 5) rfl)
  have wsmin := hts (.static Lib.Math.min.name) (List.mem_of_getElem? (i := 6) rfl)
  have wcdmin := hts (.code Lib.Math.min.name Lib.Math.min.code 2 (some .int)) (List.mem_of_getElem? (i := 8) rfl)
  have wiM := hts (.initialized "java/lang/Math") (List.mem_of_getElem? (i := 7) rfl)
  have wiX11 := hts (.initialized RX11) (List.mem_of_getElem? (i := 11) rfl)
  have wstat := hts (.static yX11_at) (List.mem_of_getElem? (i := 10) rfl)
  have hl := lv_entry ([.ref (h 5)]) (n := 1) (Nat.le_of_ble_eq_true rfl)
  rw [lg_entry_eq]
  generalize (lg_sl ([.ref (h 5)]) ++ List.replicate (1 - (lg_sl ([.ref (h 5)])).length) Slot.unset).toArray = ls at hl ⊢
  have hl : lv_has ls 1 [(0, .ref (h 5))] := hl
  unfold wC_X6_takeNumber at hw
  clear hD0
  have L_5 : ∀ (n5 : Nat) (S : CS) (H : Heap) (locs : List Loc) (ls : Array Slot), wC_X6_takeNumber_5 post n5 S → va_P D vwCl (wC h cy S) H → va_D A (wC h cy S) → va_S A s.heap H locs → lv_has ls 1 [(0, .ref (h 5))] → W p l e (headSpec wsX6_takeNumber { frames := 1, cells := 0, slots := 0, locals := 21 }).room s m (([.ref (h 5)] : List Value).toArray) below meth c H locs 0 0 (MQ below (va_Qv post (k_Post D (tyC cy) (wC h cy) A) A) (([.ref (h 5)] : List Value).toArray) s 0 0 A) (F0 m 5 ls []) := by
    intro n5
    induction n5 with
    | zero => intro S H locs ls hw; exact False.elim hw
    | succ n5 ih_5 =>
      intro S H locs ls hw hP hD hS hl
      unfold wC_X6_takeNumber_5 at hw
      refine lv_aload_n hx hb dX6_takeNumber_5 rfl (lv_at hl 0 rfl) ?_
      refine va_get (D := D) (ci := 6) (v := .int (cx_r_place S)) (C := RX6) (T := TX6) (N := 16) hx hb hts hin6 hown hK hP 5 rfl rfl 9 (by decide) w38 (fun _ h9 => h9) rfl dX6_takeNumber_6 ?_
      refine lv_aload_n hx hb dX6_takeNumber_9 rfl (lv_at hl 0 rfl) ?_
      refine va_get (D := D) (ci := 6) (v := .int (cx_r_length S)) (C := RX6) (T := TX6) (N := 16) hx hb hts hin6 hown hK hP 5 rfl rfl 0 (by decide) w9 (fun _ h9 => h9) rfl dX6_takeNumber_10 ?_
      obtain ⟨hc_1t, hc_1f⟩ := hw
      refine lv_icmp_ge (tgt := 78) hx hb dX6_takeNumber_13 (by decide) (fun c_1 => ?_) (fun c_1 => ?_)
      · have hw := hc_1t c_1
        clear hc_1t hc_1f
        refine lv_aload_n hx hb dX6_takeNumber_78 rfl (lv_at hl 0 rfl) ?_
        refine lv_bipush (v := 32) hx hb dX6_takeNumber_79 (by decide) ?_
        refine va_put (D := D) (ci := 6) (v := .int 32) (ty := .int) (C := RX6) (T := TX6) (N := 16) hx hb hts hin6 tyX6 tyX6_ok nmX6 hown hK hP hD hS 5 rfl rfl 11 (by decide) w62 (fun _ h9 => h9) rfl (tyX6_ok 11 (by decide)) rfl rfl (Nat.le_of_ble_eq_true rfl) dX6_takeNumber_81 (fun H locs hP hD hS => ?_)
        obtain ⟨S_2, eS_2⟩ : ∃ z : CS, z = (cx_set_r_token S 32) := ⟨_, rfl⟩
        replace hw := hw S_2 eS_2
        have hP : va_P D vwCl (wC h cy S_2) H := by rw [eS_2, ← wCp_r_token]; exact hP
        have hD : va_D A (wC h cy S_2) := by rw [eS_2, ← wCp_r_token]; exact hD
        exact W.vret hx hb hr (fun t ht hW => ⟨⟨S_2, rfl, hw, by rw [ht]; exact hP, va_K.moved hW.alike hK, hD⟩, hS.F ht⟩) hS.2.2 dX6_takeNumber_84
      · have hw := hc_1f c_1
        clear hc_1t hc_1f
        refine lv_aload_n hx hb dX6_takeNumber_16 rfl (lv_at hl 0 rfl) ?_
        refine va_get (D := D) (ci := 6) (v := .ref (h 36)) (C := RX6) (T := TX6) (N := 16) hx hb hts hin6 hown hK hP 5 rfl rfl 3 (by decide) w21 (fun _ h9 => h9) rfl dX6_takeNumber_17 ?_
        refine lv_aload_n hx hb dX6_takeNumber_20 rfl (lv_at hl 0 rfl) ?_
        refine va_get (D := D) (ci := 6) (v := .int (cx_r_place S)) (C := RX6) (T := TX6) (N := 16) hx hb hts hin6 hown hK hP 5 rfl rfl 9 (by decide) w38 (fun _ h9 => h9) rfl dX6_takeNumber_21 ?_
        refine e_callNi (As := [.ref (h 36), .int (cx_r_place S)]) (rest := []) nxE_stable hs ⟨hx, hb, hml, hown, hts⟩ (cA_at l D nxE (tyC cy) (wC h cy) S 36 24 _ _ 300 (cx_r_tape S) rfl rfl (by decide) _ (fun r S0 => r = k_at 300 (cx_r_tape S) (cx_r_place S) ∧ S = S0) ⟨rfl, rfl⟩) ⟨va_cnB 2 hts gX6_takeNumber_X11_at_n100 rfl rfl rfl hs.2.2.2.2.2.2.2.2.1 wiX11 (by decide +kernel) ⟨Nat.le_of_ble_eq_true rfl, Nat.le_of_ble_eq_true rfl⟩, wstat, trivial⟩ hK hP hD hS hA rfl hl.1 rfl (Nat.le_of_ble_eq_true rfl) dX6_takeNumber_24 ⟨Nat.zero_le _, Nat.zero_le _⟩ (fun r_ S_ H locs hq hP hD hS => ?_)
        obtain ⟨rfl, rfl⟩ := hq
        refine e_callSi (As := [.int (k_at 300 (cx_r_tape S) (cx_r_place S))]) (rest := []) nxE_stable hs ⟨hx, hb, hml, hown, hts⟩ (cC_X6_isDigit l D h cy _ _ _ hw) (va_cwS 1 hts gX6_takeNumber_X6_isDigit rfl rfl rfl (by decide +kernel) ⟨Nat.le_of_ble_eq_true rfl, Nat.le_of_ble_eq_true rfl⟩) hK hP hD hS hA rfl hl.1 rfl (Nat.le_of_ble_eq_true rfl) dX6_takeNumber_27 ⟨Nat.zero_le _, Nat.zero_le _⟩ (fun r_3 S_4 H locs hw hP hD hS => ?_)
        obtain ⟨hc_5t, hc_5f⟩ := hw
        refine lv_if_eq (tgt := 78) hx hb dX6_takeNumber_30 (by decide) (fun c_5 => ?_) (fun c_5 => ?_)
        · have hw := hc_5t c_5
          clear hc_5t hc_5f
          refine lv_aload_n hx hb dX6_takeNumber_78 rfl (lv_at hl 0 rfl) ?_
          refine lv_bipush (v := 32) hx hb dX6_takeNumber_79 (by decide) ?_
          refine va_put (D := D) (ci := 6) (v := .int 32) (ty := .int) (C := RX6) (T := TX6) (N := 16) hx hb hts hin6 tyX6 tyX6_ok nmX6 hown hK hP hD hS 5 rfl rfl 11 (by decide) w62 (fun _ h9 => h9) rfl (tyX6_ok 11 (by decide)) rfl rfl (Nat.le_of_ble_eq_true rfl) dX6_takeNumber_81 (fun H locs hP hD hS => ?_)
          obtain ⟨S_6, eS_6⟩ : ∃ z : CS, z = (cx_set_r_token S_4 32) := ⟨_, rfl⟩
          replace hw := hw S_6 eS_6
          have hP : va_P D vwCl (wC h cy S_6) H := by rw [eS_6, ← wCp_r_token]; exact hP
          have hD : va_D A (wC h cy S_6) := by rw [eS_6, ← wCp_r_token]; exact hD
          exact W.vret hx hb hr (fun t ht hW => ⟨⟨S_6, rfl, hw, by rw [ht]; exact hP, va_K.moved hW.alike hK, hD⟩, hS.F ht⟩) hS.2.2 dX6_takeNumber_84
        · have hw := hc_5f c_5
          clear hc_5t hc_5f
          refine lv_aload_n hx hb dX6_takeNumber_33 rfl (lv_at hl 0 rfl) ?_
          refine lv_aload_n hx hb dX6_takeNumber_34 rfl (lv_at hl 0 rfl) ?_
          refine va_get (D := D) (ci := 6) (v := .int (cx_r_number S_4)) (C := RX6) (T := TX6) (N := 16) hx hb hts hin6 hown hK hP 5 rfl rfl 12 (by decide) w120 (fun _ h9 => h9) rfl dX6_takeNumber_35 ?_
          refine lv_bipush (v := 10) hx hb dX6_takeNumber_38 (by decide) ?_
          refine lv_imul hx hb dX6_takeNumber_40 ?_
          refine lv_aload_n hx hb dX6_takeNumber_41 rfl (lv_at hl 0 rfl) ?_
          refine va_get (D := D) (ci := 6) (v := .ref (h 36)) (C := RX6) (T := TX6) (N := 16) hx hb hts hin6 hown hK hP 5 rfl rfl 3 (by decide) w21 (fun _ h9 => h9) rfl dX6_takeNumber_42 ?_
          refine lv_aload_n hx hb dX6_takeNumber_45 rfl (lv_at hl 0 rfl) ?_
          refine va_get (D := D) (ci := 6) (v := .int (cx_r_place S_4)) (C := RX6) (T := TX6) (N := 16) hx hb hts hin6 hown hK hP 5 rfl rfl 9 (by decide) w38 (fun _ h9 => h9) rfl dX6_takeNumber_46 ?_
          refine e_callNi (As := [.ref (h 36), .int (cx_r_place S_4)]) (rest := [.int ((cx_r_number S_4) * 10), .ref (h 5)]) nxE_stable hs ⟨hx, hb, hml, hown, hts⟩ (cA_at l D nxE (tyC cy) (wC h cy) S_4 36 24 _ _ 300 (cx_r_tape S_4) rfl rfl (by decide) _ (fun r S0 => r = k_at 300 (cx_r_tape S_4) (cx_r_place S_4) ∧ S_4 = S0) ⟨rfl, rfl⟩) ⟨va_cnB 2 hts gX6_takeNumber_X11_at_n100 rfl rfl rfl hs.2.2.2.2.2.2.2.2.1 wiX11 (by decide +kernel) ⟨Nat.le_of_ble_eq_true rfl, Nat.le_of_ble_eq_true rfl⟩, wstat, trivial⟩ hK hP hD hS hA rfl hl.1 rfl (Nat.le_of_ble_eq_true rfl) dX6_takeNumber_49 ⟨Nat.zero_le _, Nat.zero_le _⟩ (fun r_ S_ H locs hq hP hD hS => ?_)
          obtain ⟨rfl, rfl⟩ := hq
          refine lv_iadd hx hb dX6_takeNumber_52 ?_
          refine lv_bipush (v := 48) hx hb dX6_takeNumber_53 (by decide) ?_
          refine lv_isub hx hb dX6_takeNumber_55 ?_
          refine lv_sipush (v := 10000) hx hb dX6_takeNumber_56 (by decide) ?_
          refine va_mmin (own := RX6) (index := 188) hx hb (hml.trans hl.1.symm) hown wm188 wsmin wiM wcdmin (Nat.le_of_ble_eq_true rfl) (Nat.le_of_ble_eq_true rfl) (Nat.zero_le _) (Nat.zero_le _) dX6_takeNumber_59 ?_
          refine va_put (D := D) (ci := 6) (v := .int (if 10000 < ((((cx_r_number S_4) * 10) + (k_at 300 (cx_r_tape S_4) (cx_r_place S_4))) - 48) then 10000 else ((((cx_r_number S_4) * 10) + (k_at 300 (cx_r_tape S_4) (cx_r_place S_4))) - 48))) (ty := .int) (C := RX6) (T := TX6) (N := 16) hx hb hts hin6 tyX6 tyX6_ok nmX6 hown hK hP hD hS 5 rfl rfl 12 (by decide) w120 (fun _ h9 => h9) rfl (tyX6_ok 12 (by decide)) rfl rfl (Nat.le_of_ble_eq_true rfl) dX6_takeNumber_62 (fun H locs hP hD hS => ?_)
          obtain ⟨S_7, eS_7⟩ : ∃ z : CS, z = (cx_set_r_number S_4 (if 10000 < ((((cx_r_number S_4) * 10) + (k_at 300 (cx_r_tape S_4) (cx_r_place S_4))) - 48) then 10000 else ((((cx_r_number S_4) * 10) + (k_at 300 (cx_r_tape S_4) (cx_r_place S_4))) - 48))) := ⟨_, rfl⟩
          replace hw := hw S_7 eS_7
          have hP : va_P D vwCl (wC h cy S_7) H := by rw [eS_7, ← wCp_r_number]; exact hP
          have hD : va_D A (wC h cy S_7) := by rw [eS_7, ← wCp_r_number]; exact hD
          refine lv_aload_n hx hb dX6_takeNumber_65 rfl (lv_at hl 0 rfl) ?_
          refine lv_dup hx hb dX6_takeNumber_66 rfl ?_
          refine va_get (D := D) (ci := 6) (v := .int (cx_r_place S_7)) (C := RX6) (T := TX6) (N := 16) hx hb hts hin6 hown hK hP 5 rfl rfl 9 (by decide) w38 (fun _ h9 => h9) rfl dX6_takeNumber_67 ?_
          refine lv_iconst (v := 1) hx hb dX6_takeNumber_70 (by decide) ?_
          refine lv_iadd hx hb dX6_takeNumber_71 ?_
          refine va_put (D := D) (ci := 6) (v := .int ((cx_r_place S_7) + 1)) (ty := .int) (C := RX6) (T := TX6) (N := 16) hx hb hts hin6 tyX6 tyX6_ok nmX6 hown hK hP hD hS 5 rfl rfl 9 (by decide) w38 (fun _ h9 => h9) rfl (tyX6_ok 9 (by decide)) rfl rfl (Nat.le_of_ble_eq_true rfl) dX6_takeNumber_72 (fun H locs hP hD hS => ?_)
          obtain ⟨S_8, eS_8⟩ : ∃ z : CS, z = (cx_set_r_place S_7 ((cx_r_place S_7) + 1)) := ⟨_, rfl⟩
          replace hw := hw S_8 eS_8
          have hP : va_P D vwCl (wC h cy S_8) H := by rw [eS_8, ← wCp_r_place]; exact hP
          have hD : va_D A (wC h cy S_8) := by rw [eS_8, ← wCp_r_place]; exact hD
          refine lv_goto (tgt := 5) hx hb dX6_takeNumber_75 (by decide) ?_
          exact ih_5 S_8 _ _ _ hw hP hD hS (lv_sub hl [0] rfl)
  refine lv_aload_n hx hb dX6_takeNumber_0 rfl (lv_at hl 0 rfl) ?_
  refine lv_iconst (v := 0) hx hb dX6_takeNumber_1 (by decide) ?_
  refine va_put (D := D) (ci := 6) (v := .int 0) (ty := .int) (C := RX6) (T := TX6) (N := 16) hx hb hts hin6 tyX6 tyX6_ok nmX6 hown hK hP hD hS 5 rfl rfl 12 (by decide) w120 (fun _ h9 => h9) rfl (tyX6_ok 12 (by decide)) rfl rfl (Nat.le_of_ble_eq_true rfl) dX6_takeNumber_2 (fun H locs hP hD hS => ?_)
  obtain ⟨S_9, eS_9⟩ : ∃ z : CS, z = (cx_set_r_number S 0) := ⟨_, rfl⟩
  replace hw := hw S_9 eS_9
  have hP : va_P D vwCl (wC h cy S_9) H := by rw [eS_9, ← wCp_r_number]; exact hP
  have hD : va_D A (wC h cy S_9) := by rw [eS_9, ← wCp_r_number]; exact hD
  obtain ⟨n_5, hw⟩ := hw
  exact L_5 n_5 S_9 _ _ _ hw hP hD hS (lv_sub hl [0] rfl)
def wC_X6_isBlank (p1 : Int32) (S : CS) (post : Int32 → CS → Prop) : Prop := ((p1 = 32 → post 1 S) ∧ (¬ (p1 = 32) → ((p1 = 10 → post 1 S) ∧ (¬ (p1 = 10) → post 0 S))))
set_option maxHeartbeats 4000000 in
set_option maxRecDepth 100000 in
theorem cC_X6_isBlank (l : Launch) (D : va_G) (h : Nat → Nat) (cy : Nat → ClassId) (p1 : Int32) (S : CS) (post : Int32 → CS → Prop) (hw : wC_X6_isBlank p1 S post) : e_Mi nxE l yX6_isBlank wsX6_isBlank { frames := 0, cells := 0, slots := 0, locals := 0 } D (tyC cy) (wC h cy) [.int p1] S post := by
  intro sz
  refine Met.ofW (cc := cX6_isBlank) (maxL := 1) (ret := (some .boolean)) (by decide) rfl ?_
  intro p e s m args below meth c s₁ B hml hv
  obtain ⟨rfl, hsz, hP, hK, hD0, hs⟩ := hv
  have hx := B.exec
  have hb := B.bytes
  have hr := B.returns
  have hts := atoms_spec (ws := wsX6_isBlank) B.pre
  have hown : s.vm.findClass RX6 = some m.cls := findClass_of_methodNamed B.named
  have hlocks := B.notSynchronized
  subst hsz
  have hD := hD0.self (sz := s.heap.size)
  generalize hAe : va_A (wC h cy S) s.heap.size = A at hD ⊢
  have hA : ∀ q : Nat, s.heap.size ≤ q → A q := fun q h => by rw [← hAe]; exact Or.inr h
  have hS : va_S A s.heap s.heap [] := va_S.rf
  have hl := lv_entry ([.int p1]) (n := 1) (Nat.le_of_ble_eq_true rfl)
  rw [lg_entry_eq]
  generalize (lg_sl ([.int p1]) ++ List.replicate (1 - (lg_sl ([.int p1])).length) Slot.unset).toArray = ls at hl ⊢
  have hl : lv_has ls 1 [(0, .int p1)] := hl
  unfold wC_X6_isBlank at hw
  clear hD0
  refine lv_iload_n hx hb dX6_isBlank_0 rfl (lv_at hl 0 rfl) ?_
  refine lv_bipush (v := 32) hx hb dX6_isBlank_1 (by decide) ?_
  obtain ⟨hc_1t, hc_1f⟩ := hw
  refine lv_icmp_eq (tgt := 12) hx hb dX6_isBlank_3 (by decide) (fun c_1 => ?_) (fun c_1 => ?_)
  · have hw := hc_1t c_1
    clear hc_1t hc_1f
    refine lv_iconst (v := 1) hx hb dX6_isBlank_12 (by decide) ?_
    refine lv_goto (tgt := 17) hx hb dX6_isBlank_13 (by decide) ?_
    exact W.zret (v := 1) hx hb hr (by decide +kernel) (fun t ht hW => ⟨⟨1, S, rfl, hw, by rw [ht]; exact hP, va_K.moved hW.alike hK, hD⟩, hS.F ht⟩) hS.2.2 dX6_isBlank_17
  · have hw := hc_1f c_1
    clear hc_1t hc_1f
    refine lv_iload_n hx hb dX6_isBlank_6 rfl (lv_at hl 0 rfl) ?_
    refine lv_bipush (v := 10) hx hb dX6_isBlank_7 (by decide) ?_
    obtain ⟨hc_2t, hc_2f⟩ := hw
    refine lv_icmp_ne (tgt := 16) hx hb dX6_isBlank_9 (by decide) (fun c_2 => ?_) (fun c_2 => ?_)
    · have hw := hc_2f c_2
      clear hc_2t hc_2f
      refine lv_iconst (v := 0) hx hb dX6_isBlank_16 (by decide) ?_
      exact W.zret (v := 0) hx hb hr (by decide +kernel) (fun t ht hW => ⟨⟨0, S, rfl, hw, by rw [ht]; exact hP, va_K.moved hW.alike hK, hD⟩, hS.F ht⟩) hS.2.2 dX6_isBlank_17
    · have hw := hc_2t c_2
      clear hc_2t hc_2f
      refine lv_iconst (v := 1) hx hb dX6_isBlank_12 (by decide) ?_
      refine lv_goto (tgt := 17) hx hb dX6_isBlank_13 (by decide) ?_
      exact W.zret (v := 1) hx hb hr (by decide +kernel) (fun t ht hW => ⟨⟨1, S, rfl, hw, by rw [ht]; exact hP, va_K.moved hW.alike hK, hD⟩, hS.F ht⟩) hS.2.2 dX6_isBlank_17
def wC_X6_fail (p1 : Int32) (S : CS) (post : CS → Prop) : Prop := (((cx_r_fault S) = 0 → (∀ S_3 : CS, S_3 = (cx_set_r_fault S p1) → (∀ S_4 : CS, S_4 = (cx_set_r_token S_3 30) → post S_4))) ∧ (¬ ((cx_r_fault S) = 0) → (∀ S_2 : CS, S_2 = (cx_set_r_token S 30) → post S_2)))
set_option maxHeartbeats 4000000 in
set_option maxRecDepth 100000 in
theorem cC_X6_fail (l : Launch) (D : va_G) (h : Nat → Nat) (cy : Nat → ClassId) (p1 : Int32) (S : CS) (post : CS → Prop) (hw : wC_X6_fail p1 S post) : e_Mv nxE l yX6_fail wsX6_fail { frames := 0, cells := 0, slots := 0, locals := 0 } D (tyC cy) (wC h cy) [.ref (h 5), .int p1] S post := by
  intro sz
  refine Met.ofW (cc := cX6_fail) (maxL := 2) (ret := none) (by decide) rfl ?_
  intro p e s m args below meth c s₁ B hml hv
  obtain ⟨rfl, hsz, hP, hK, hD0, hs⟩ := hv
  have hx := B.exec
  have hb := B.bytes
  have hr := B.returns
  have hts := atoms_spec (ws := wsX6_fail) B.pre
  have hown : s.vm.findClass RX6 = some m.cls := findClass_of_methodNamed B.named
  have hlocks := B.notSynchronized
  subst hsz
  have hD := hD0.self (sz := s.heap.size)
  generalize hAe : va_A (wC h cy S) s.heap.size = A at hD ⊢
  have hA : ∀ q : Nat, s.heap.size ≤ q → A q := fun q h => by rw [← hAe]; exact Or.inr h
  have hS : va_S A s.heap s.heap [] := va_S.rf
  have hin6 : ∀ w ∈ wsX60, w ∈ wsX6_fail := fun _ h => List.mem_cons_of_mem _ (List.mem_append_right _ h)
  have w41 := hts (.fieldLink RX6 41 "ClownsMourn$Reader" "fault" "I") (List.mem_of_getElem? (i := 1) rfl)
  have w62 := hts (.fieldLink RX6 62 "ClownsMourn$Reader" "token" "I") (List.mem_of_getElem? (i := 2) rfl)
  have hl := lv_entry ([.ref (h 5), .int p1]) (n := 2) (Nat.le_of_ble_eq_true rfl)
  rw [lg_entry_eq]
  generalize (lg_sl ([.ref (h 5), .int p1]) ++ List.replicate (2 - (lg_sl ([.ref (h 5), .int p1])).length) Slot.unset).toArray = ls at hl ⊢
  have hl : lv_has ls 2 [(0, .ref (h 5)), (1, .int p1)] := hl
  unfold wC_X6_fail at hw
  clear hD0
  refine lv_aload_n hx hb dX6_fail_0 rfl (lv_at hl 0 rfl) ?_
  refine va_get (D := D) (ci := 6) (v := .int (cx_r_fault S)) (C := RX6) (T := TX6) (N := 16) hx hb hts hin6 hown hK hP 5 rfl rfl 13 (by decide) w41 (fun _ h9 => h9) rfl dX6_fail_1 ?_
  obtain ⟨hc_1t, hc_1f⟩ := hw
  refine lv_if_ne (tgt := 12) hx hb dX6_fail_4 (by decide) (fun c_1 => ?_) (fun c_1 => ?_)
  · have hw := hc_1f c_1
    clear hc_1t hc_1f
    refine lv_aload_n hx hb dX6_fail_12 rfl (lv_at hl 0 rfl) ?_
    refine lv_bipush (v := 30) hx hb dX6_fail_13 (by decide) ?_
    refine va_put (D := D) (ci := 6) (v := .int 30) (ty := .int) (C := RX6) (T := TX6) (N := 16) hx hb hts hin6 tyX6 tyX6_ok nmX6 hown hK hP hD hS 5 rfl rfl 11 (by decide) w62 (fun _ h9 => h9) rfl (tyX6_ok 11 (by decide)) rfl rfl (Nat.le_of_ble_eq_true rfl) dX6_fail_15 (fun H locs hP hD hS => ?_)
    obtain ⟨S_2, eS_2⟩ : ∃ z : CS, z = (cx_set_r_token S 30) := ⟨_, rfl⟩
    replace hw := hw S_2 eS_2
    have hP : va_P D vwCl (wC h cy S_2) H := by rw [eS_2, ← wCp_r_token]; exact hP
    have hD : va_D A (wC h cy S_2) := by rw [eS_2, ← wCp_r_token]; exact hD
    exact W.vret hx hb hr (fun t ht hW => ⟨⟨S_2, rfl, hw, by rw [ht]; exact hP, va_K.moved hW.alike hK, hD⟩, hS.F ht⟩) hS.2.2 dX6_fail_18
  · have hw := hc_1t c_1
    clear hc_1t hc_1f
    refine lv_aload_n hx hb dX6_fail_7 rfl (lv_at hl 0 rfl) ?_
    refine lv_iload_n hx hb dX6_fail_8 rfl (lv_at hl 1 rfl) ?_
    refine va_put (D := D) (ci := 6) (v := .int p1) (ty := .int) (C := RX6) (T := TX6) (N := 16) hx hb hts hin6 tyX6 tyX6_ok nmX6 hown hK hP hD hS 5 rfl rfl 13 (by decide) w41 (fun _ h9 => h9) rfl (tyX6_ok 13 (by decide)) rfl rfl (Nat.le_of_ble_eq_true rfl) dX6_fail_9 (fun H locs hP hD hS => ?_)
    obtain ⟨S_3, eS_3⟩ : ∃ z : CS, z = (cx_set_r_fault S p1) := ⟨_, rfl⟩
    replace hw := hw S_3 eS_3
    have hP : va_P D vwCl (wC h cy S_3) H := by rw [eS_3, ← wCp_r_fault]; exact hP
    have hD : va_D A (wC h cy S_3) := by rw [eS_3, ← wCp_r_fault]; exact hD
    refine lv_aload_n hx hb dX6_fail_12 rfl (lv_at hl 0 rfl) ?_
    refine lv_bipush (v := 30) hx hb dX6_fail_13 (by decide) ?_
    refine va_put (D := D) (ci := 6) (v := .int 30) (ty := .int) (C := RX6) (T := TX6) (N := 16) hx hb hts hin6 tyX6 tyX6_ok nmX6 hown hK hP hD hS 5 rfl rfl 11 (by decide) w62 (fun _ h9 => h9) rfl (tyX6_ok 11 (by decide)) rfl rfl (Nat.le_of_ble_eq_true rfl) dX6_fail_15 (fun H locs hP hD hS => ?_)
    obtain ⟨S_4, eS_4⟩ : ∃ z : CS, z = (cx_set_r_token S_3 30) := ⟨_, rfl⟩
    replace hw := hw S_4 eS_4
    have hP : va_P D vwCl (wC h cy S_4) H := by rw [eS_4, ← wCp_r_token]; exact hP
    have hD : va_D A (wC h cy S_4) := by rw [eS_4, ← wCp_r_token]; exact hD
    exact W.vret hx hb hr (fun t ht hW => ⟨⟨S_4, rfl, hw, by rw [ht]; exact hP, va_K.moved hW.alike hK, hD⟩, hS.F ht⟩) hS.2.2 dX6_fail_18
def wC_X6_emit (p1 : Int32) (p2 : Int32) (S : CS) (post : CS → Prop) : Prop := (∀ S_1 : CS, S_1 = (cx_set_r_code S (k_put 300 (cx_r_code S) (cx_r_codeLength S) (p1 + (p2 * 64)))) → (∀ S_2 : CS, S_2 = (cx_set_r_codeLength S_1 ((cx_r_codeLength S_1) + 1)) → post S_2))
set_option maxHeartbeats 4000000 in
set_option maxRecDepth 100000 in
theorem cC_X6_emit (l : Launch) (D : va_G) (h : Nat → Nat) (cy : Nat → ClassId) (p1 : Int32) (p2 : Int32) (S : CS) (post : CS → Prop) (hw : wC_X6_emit p1 p2 S post) : e_Mv nxE l yX6_emit wsX6_emit { frames := 1, cells := 0, slots := 0, locals := 22 } D (tyC cy) (wC h cy) [.ref (h 5), .int p1, .int p2] S post := by
  intro sz
  refine Met.ofW (cc := cX6_emit) (maxL := 3) (ret := none) (by decide) rfl ?_
  intro p e s m args below meth c s₁ B hml hv
  obtain ⟨rfl, hsz, hP, hK, hD0, hs⟩ := hv
  have hx := B.exec
  have hb := B.bytes
  have hr := B.returns
  have hts := atoms_spec (ws := wsX6_emit) B.pre
  have hown : s.vm.findClass RX6 = some m.cls := findClass_of_methodNamed B.named
  have hlocks := B.notSynchronized
  subst hsz
  have hD := hD0.self (sz := s.heap.size)
  generalize hAe : va_A (wC h cy S) s.heap.size = A at hD ⊢
  have hA : ∀ q : Nat, s.heap.size ≤ q → A q := fun q h => by rw [← hAe]; exact Or.inr h
  have hS : va_S A s.heap s.heap [] := va_S.rf
  have hin6 : ∀ w ∈ wsX60, w ∈ wsX6_emit := fun _ h => List.mem_cons_of_mem _ (List.mem_append_right _ h)
  have w28 := hts (.fieldLink RX6 28 "ClownsMourn$Reader" "code" "[I") (List.mem_of_getElem? (i := 1) rfl)
  have w47 := hts (.fieldLink RX6 47 "ClownsMourn$Reader" "codeLength" "I") (List.mem_of_getElem? (i := 2) rfl)
  have wiX11 := hts (.initialized RX11) (List.mem_of_getElem? (i := 4) rfl)
  have wstput := hts (.static yX11_put) (List.mem_of_getElem? (i := 3) rfl)
  have hl := lv_entry ([.ref (h 5), .int p1, .int p2]) (n := 3) (Nat.le_of_ble_eq_true rfl)
  rw [lg_entry_eq]
  generalize (lg_sl ([.ref (h 5), .int p1, .int p2]) ++ List.replicate (3 - (lg_sl ([.ref (h 5), .int p1, .int p2])).length) Slot.unset).toArray = ls at hl ⊢
  have hl : lv_has ls 3 [(0, .ref (h 5)), (1, .int p1), (2, .int p2)] := hl
  unfold wC_X6_emit at hw
  clear hD0
  refine lv_aload_n hx hb dX6_emit_0 rfl (lv_at hl 0 rfl) ?_
  refine va_get (D := D) (ci := 6) (v := .ref (h 38)) (C := RX6) (T := TX6) (N := 16) hx hb hts hin6 hown hK hP 5 rfl rfl 5 (by decide) w28 (fun _ h9 => h9) rfl dX6_emit_1 ?_
  refine lv_aload_n hx hb dX6_emit_4 rfl (lv_at hl 0 rfl) ?_
  refine va_get (D := D) (ci := 6) (v := .int (cx_r_codeLength S)) (C := RX6) (T := TX6) (N := 16) hx hb hts hin6 hown hK hP 5 rfl rfl 8 (by decide) w47 (fun _ h9 => h9) rfl dX6_emit_5 ?_
  refine lv_iload_n hx hb dX6_emit_8 rfl (lv_at hl 1 rfl) ?_
  refine lv_iload_n hx hb dX6_emit_9 rfl (lv_at hl 2 rfl) ?_
  refine lv_bipush (v := 64) hx hb dX6_emit_10 (by decide) ?_
  refine lv_imul hx hb dX6_emit_12 ?_
  refine lv_iadd hx hb dX6_emit_13 ?_
  refine e_callNv (As := [.ref (h 38), .int (cx_r_codeLength S), .int (p1 + (p2 * 64))]) (rest := []) nxE_stable hs ⟨hx, hb, hml, hown, hts⟩ (cA_put l D nxE (tyC cy) (wC h cy) cx_r_code cx_set_r_code S 38 26 _ _ 300 rfl (wCs_r_code h cy S) rfl (by decide) _ _ (fun S0 => S0 = (cx_set_r_code S (k_put 300 (cx_r_code S) (cx_r_codeLength S) (p1 + (p2 * 64))))) rfl) ⟨va_cnB 3 hts gX6_emit_X11_put_n34 rfl rfl rfl hs.2.2.2.2.2.2.2.1 wiX11 (by decide +kernel) ⟨Nat.le_of_ble_eq_true rfl, Nat.le_of_ble_eq_true rfl⟩, wstput, trivial⟩ hK hP hD hS hA rfl hl.1 rfl (Nat.le_of_ble_eq_true rfl) dX6_emit_14 ⟨Nat.zero_le _, Nat.zero_le _⟩ (fun S_1 H locs eS_1 hP hD hS => ?_)
  replace hw := hw S_1 eS_1
  refine lv_aload_n hx hb dX6_emit_17 rfl (lv_at hl 0 rfl) ?_
  refine lv_dup hx hb dX6_emit_18 rfl ?_
  refine va_get (D := D) (ci := 6) (v := .int (cx_r_codeLength S_1)) (C := RX6) (T := TX6) (N := 16) hx hb hts hin6 hown hK hP 5 rfl rfl 8 (by decide) w47 (fun _ h9 => h9) rfl dX6_emit_19 ?_
  refine lv_iconst (v := 1) hx hb dX6_emit_22 (by decide) ?_
  refine lv_iadd hx hb dX6_emit_23 ?_
  refine va_put (D := D) (ci := 6) (v := .int ((cx_r_codeLength S_1) + 1)) (ty := .int) (C := RX6) (T := TX6) (N := 16) hx hb hts hin6 tyX6 tyX6_ok nmX6 hown hK hP hD hS 5 rfl rfl 8 (by decide) w47 (fun _ h9 => h9) rfl (tyX6_ok 8 (by decide)) rfl rfl (Nat.le_of_ble_eq_true rfl) dX6_emit_24 (fun H locs hP hD hS => ?_)
  obtain ⟨S_2, eS_2⟩ : ∃ z : CS, z = (cx_set_r_codeLength S_1 ((cx_r_codeLength S_1) + 1)) := ⟨_, rfl⟩
  replace hw := hw S_2 eS_2
  have hP : va_P D vwCl (wC h cy S_2) H := by rw [eS_2, ← wCp_r_codeLength]; exact hP
  have hD : va_D A (wC h cy S_2) := by rw [eS_2, ← wCp_r_codeLength]; exact hD
  exact W.vret hx hb hr (fun t ht hW => ⟨⟨S_2, rfl, hw, by rw [ht]; exact hP, va_K.moved hW.alike hK, hD⟩, hS.F ht⟩) hS.2.2 dX6_emit_27
