def wC_X11_within (p1 : Int32) (p2 : Int32) (p3 : Int32) (S : CS) (post : Int32 → CS → Prop) : Prop := ((p1 < p2 → post 0 S) ∧ (¬ (p1 < p2) → ((p3 < p1 → post 0 S) ∧ (¬ (p3 < p1) → post 1 S))))
set_option maxHeartbeats 4000000 in
set_option maxRecDepth 100000 in
theorem cC_X11_within (l : Launch) (D : va_G) (h : Nat → Nat) (cy : Nat → ClassId) (p1 : Int32) (p2 : Int32) (p3 : Int32) (S : CS) (post : Int32 → CS → Prop) (hw : wC_X11_within p1 p2 p3 S post) : e_Mi clE l yX11_within wsX11_within { frames := 0, cells := 0, slots := 0, locals := 0 } D (tyC cy) (wC h cy) [.int p1, .int p2, .int p3] S post := by
  intro sz
  refine Met.ofW (cc := cX11_within) (maxL := 3) (ret := (some .boolean)) (by decide) rfl ?_
  intro p e s m args below meth c s₁ B hml hv
  obtain ⟨rfl, hsz, hP, hK, hD0, hs⟩ := hv
  have hx := B.exec
  have hb := B.bytes
  have hr := B.returns
  have hts := atoms_spec (ws := wsX11_within) B.pre
  have hown : s.vm.findClass RX11 = some m.cls := findClass_of_methodNamed B.named
  have hlocks := B.notSynchronized
  subst hsz
  have hD := hD0.self (sz := s.heap.size)
  generalize hAe : va_A (wC h cy S) s.heap.size = A at hD hs ⊢
  have hA : ∀ q : Nat, s.heap.size ≤ q → A q := fun q h => by rw [← hAe]; exact Or.inr h
  have hS : va_S A s.heap s.heap [] := va_S.rf
  have hl := lv_entry ([.int p1, .int p2, .int p3]) (n := 3) (Nat.le_of_ble_eq_true rfl)
  rw [lg_entry_eq]
  generalize (lg_sl ([.int p1, .int p2, .int p3]) ++ List.replicate (3 - (lg_sl ([.int p1, .int p2, .int p3])).length) Slot.unset).toArray = ls at hl ⊢
  have hl : lv_has ls 3 [(0, .int p1), (1, .int p2), (2, .int p3)] := hl
  unfold wC_X11_within at hw
  clear hD0
  refine lv_iload_n hx hb dX11_within_0 rfl (lv_at hl 0 rfl) ?_
  refine lv_iload_n hx hb dX11_within_1 rfl (lv_at hl 1 rfl) ?_
  obtain ⟨hc_1t, hc_1f⟩ := hw
  refine lv_icmp_lt (tgt := 14) hx hb dX11_within_2 (by decide) (fun c_1 => ?_) (fun c_1 => ?_)
  · have hw := hc_1t c_1
    clear hc_1t hc_1f
    refine lv_iconst (v := 0) hx hb dX11_within_14 (by decide) ?_
    exact W.zret (v := 0) hx hb hr (by decide +kernel) (fun t ht hW => ⟨⟨0, S, rfl, hw, by rw [ht]; exact hP, va_K.moved hW.alike hK, hD⟩, hS.F ht⟩) hS.2.2 dX11_within_15
  · have hw := hc_1f c_1
    clear hc_1t hc_1f
    refine lv_iload_n hx hb dX11_within_5 rfl (lv_at hl 0 rfl) ?_
    refine lv_iload_n hx hb dX11_within_6 rfl (lv_at hl 2 rfl) ?_
    obtain ⟨hc_2t, hc_2f⟩ := hw
    refine lv_icmp_gt (tgt := 14) hx hb dX11_within_7 (by decide) (fun c_2 => ?_) (fun c_2 => ?_)
    · have hw := hc_2t c_2
      clear hc_2t hc_2f
      refine lv_iconst (v := 0) hx hb dX11_within_14 (by decide) ?_
      exact W.zret (v := 0) hx hb hr (by decide +kernel) (fun t ht hW => ⟨⟨0, S, rfl, hw, by rw [ht]; exact hP, va_K.moved hW.alike hK, hD⟩, hS.F ht⟩) hS.2.2 dX11_within_15
    · have hw := hc_2f c_2
      clear hc_2t hc_2f
      refine lv_iconst (v := 1) hx hb dX11_within_10 (by decide) ?_
      refine lv_goto (tgt := 15) hx hb dX11_within_11 (by decide) ?_
      exact W.zret (v := 1) hx hb hr (by decide +kernel) (fun t ht hW => ⟨⟨1, S, rfl, hw, by rw [ht]; exact hP, va_K.moved hW.alike hK, hD⟩, hS.F ht⟩) hS.2.2 dX11_within_15
def wC_X0_set (p1 : Int32) (p2 : Int32) (p3 : Int32) (S : CS) (post : CS → Prop) : Prop := (∀ S_1 : CS, S_1 = (cx_set_c_now S (k_put 74 (cx_c_now S) (p1 + p2) p3)) → post S_1)
set_option maxHeartbeats 4000000 in
set_option maxRecDepth 100000 in
theorem cC_X0_set (l : Launch) (D : va_G) (h : Nat → Nat) (cy : Nat → ClassId) (p1 : Int32) (p2 : Int32) (p3 : Int32) (S : CS) (post : CS → Prop) (hw : wC_X0_set p1 p2 p3 S post) : e_Mv clE l yX0_set wsX0_set { frames := 1, cells := 0, slots := 0, locals := 22 } D (tyC cy) (wC h cy) [.ref (h 1), .int p1, .int p2, .int p3] S post := by
  intro sz
  refine Met.ofW (cc := cX0_set) (maxL := 4) (ret := none) (by decide) rfl ?_
  intro p e s m args below meth c s₁ B hml hv
  obtain ⟨rfl, hsz, hP, hK, hD0, hs⟩ := hv
  have hx := B.exec
  have hb := B.bytes
  have hr := B.returns
  have hts := atoms_spec (ws := wsX0_set) B.pre
  have hown : s.vm.findClass RX0 = some m.cls := findClass_of_methodNamed B.named
  have hlocks := B.notSynchronized
  subst hsz
  have hD := hD0.self (sz := s.heap.size)
  generalize hAe : va_A (wC h cy S) s.heap.size = A at hD hs ⊢
  have hA : ∀ q : Nat, s.heap.size ≤ q → A q := fun q h => by rw [← hAe]; exact Or.inr h
  have hS : va_S A s.heap s.heap [] := va_S.rf
  have hin0 : ∀ w ∈ wsX00, w ∈ wsX0_set := fun _ h => List.mem_cons_of_mem _ (List.mem_append_right _ h)
  have w11 := hts (.fieldLink RX0 11 "ClownsMourn$City" "now" "[I") (List.mem_of_getElem? (i := 1) rfl)
  have wiX11 := hts (.initialized RX11) (List.mem_of_getElem? (i := 3) rfl)
  have wstput := hts (.static yX11_put) (List.mem_of_getElem? (i := 2) rfl)
  have hl := lv_entry ([.ref (h 1), .int p1, .int p2, .int p3]) (n := 4) (Nat.le_of_ble_eq_true rfl)
  rw [lg_entry_eq]
  generalize (lg_sl ([.ref (h 1), .int p1, .int p2, .int p3]) ++ List.replicate (4 - (lg_sl ([.ref (h 1), .int p1, .int p2, .int p3])).length) Slot.unset).toArray = ls at hl ⊢
  have hl : lv_has ls 4 [(0, .ref (h 1)), (1, .int p1), (2, .int p2), (3, .int p3)] := hl
  unfold wC_X0_set at hw
  clear hD0
  refine lv_aload_n hx hb dX0_set_0 rfl (lv_at hl 0 rfl) ?_
  refine va_get (D := D) (ci := 0) (v := .ref (h 12)) (C := RX0) (T := TX0) (N := 16) hx hb hts hin0 hown hK hP 1 rfl rfl 0 (by decide) w11 (fun _ h9 => h9) rfl dX0_set_1 ?_
  refine lv_iload_n hx hb dX0_set_4 rfl (lv_at hl 1 rfl) ?_
  refine lv_iload_n hx hb dX0_set_5 rfl (lv_at hl 2 rfl) ?_
  refine lv_iadd hx hb dX0_set_6 ?_
  refine lv_iload_n hx hb dX0_set_7 rfl (lv_at hl 3 rfl) ?_
  refine e_callNv (As := [.ref (h 12), .int (p1 + p2), .int p3]) (rest := []) clE_stable hs ⟨hx, hb, hml, hown, hts⟩ (cA_put l D clE (tyC cy) (wC h cy) cx_c_now cx_set_c_now S 12 0 _ _ 74 rfl (wCs_c_now h cy S) rfl (by decide) _ _ (fun S0 => S0 = (cx_set_c_now S (k_put 74 (cx_c_now S) (p1 + p2) p3))) rfl) ⟨va_cnB 3 hts gX0_set_X11_put_n68 rfl rfl rfl hs.1.2.1 wiX11 (by decide +kernel) ⟨Nat.le_of_ble_eq_true rfl, Nat.le_of_ble_eq_true rfl⟩, wstput, trivial⟩ hK hP hD hS hA rfl hl.1 rfl (Nat.le_of_ble_eq_true rfl) dX0_set_8 ⟨Nat.zero_le _, Nat.zero_le _⟩ (fun S_1 H locs eS_1 hP hD hS => ?_)
  replace hw := hw S_1 eS_1
  exact W.vret hx hb hr (fun t ht hW => ⟨⟨S_1, rfl, hw, by rw [ht]; exact hP, va_K.moved hW.alike hK, hD⟩, hS.F ht⟩) hS.2.2 dX0_set_11
def wC_X0_addHouse (p1 : Int32) (p2 : Int32) (S : CS) (post : Int32 → CS → Prop) : Prop := (((k_at 74 (cx_c_now S) 72) < 6 → (∀ S_2 : CS, S_2 = (cx_set_c_kinds S (k_put 6 (cx_c_kinds S) (k_at 74 (cx_c_now S) 72) p1)) → wC_X0_set 0 (k_at 74 (cx_c_now S) 72) p2 S_2 (fun S_4 => wC_X0_set 6 (k_at 74 (cx_c_now S) 72) 0 S_4 (fun S_6 => wC_X0_set 12 (k_at 74 (cx_c_now S) 72) (-1) S_6 (fun S_8 => wC_X0_set 18 (k_at 74 (cx_c_now S) 72) 0 S_8 (fun S_10 => (∀ S_11 : CS, S_11 = (cx_set_c_now S_10 (k_put 74 (cx_c_now S_10) 72 ((k_at 74 (cx_c_now S) 72) + 1))) → post (k_at 74 (cx_c_now S) 72) S_11))))))) ∧ (¬ ((k_at 74 (cx_c_now S) 72) < 6) → post (-1) S))
set_option maxHeartbeats 4000000 in
set_option maxRecDepth 100000 in
theorem cC_X0_addHouse (l : Launch) (D : va_G) (h : Nat → Nat) (cy : Nat → ClassId) (p1 : Int32) (p2 : Int32) (S : CS) (post : Int32 → CS → Prop) (hw : wC_X0_addHouse p1 p2 S post) : e_Mi clE l yX0_addHouse wsX0_addHouse { frames := 2, cells := 0, slots := 0, locals := 45 } D (tyC cy) (wC h cy) [.ref (h 1), .int p1, .int p2] S post := by
  intro sz
  refine Met.ofW (cc := cX0_addHouse) (maxL := 4) (ret := (some .int)) (by decide) rfl ?_
  intro p e s m args below meth c s₁ B hml hv
  obtain ⟨rfl, hsz, hP, hK, hD0, hs⟩ := hv
  have hx := B.exec
  have hb := B.bytes
  have hr := B.returns
  have hts := atoms_spec (ws := wsX0_addHouse) B.pre
  have hown : s.vm.findClass RX0 = some m.cls := findClass_of_methodNamed B.named
  have hlocks := B.notSynchronized
  subst hsz
  have hD := hD0.self (sz := s.heap.size)
  generalize hAe : va_A (wC h cy S) s.heap.size = A at hD hs ⊢
  have hA : ∀ q : Nat, s.heap.size ≤ q → A q := fun q h => by rw [← hAe]; exact Or.inr h
  have hS : va_S A s.heap s.heap [] := va_S.rf
  have hin0 : ∀ w ∈ wsX00, w ∈ wsX0_addHouse := fun _ h => List.mem_cons_of_mem _ (List.mem_append_right _ h)
  have w11 := hts (.fieldLink RX0 11 "ClownsMourn$City" "now" "[I") (List.mem_of_getElem? (i := 1) rfl)
  have w22 := hts (.fieldLink RX0 22 "ClownsMourn$City" "kinds" "[I") (List.mem_of_getElem? (i := 2) rfl)
  have wiX11 := hts (.initialized RX11) (List.mem_of_getElem? (i := 4) rfl)
  have wstat := hts (.static yX11_at) (List.mem_of_getElem? (i := 3) rfl)
  have wstput := hts (.static yX11_put) (List.mem_of_getElem? (i := 6) rfl)
  have hl := lv_entry ([.ref (h 1), .int p1, .int p2]) (n := 4) (Nat.le_of_ble_eq_true rfl)
  rw [lg_entry_eq]
  generalize (lg_sl ([.ref (h 1), .int p1, .int p2]) ++ List.replicate (4 - (lg_sl ([.ref (h 1), .int p1, .int p2])).length) Slot.unset).toArray = ls at hl ⊢
  have hl : lv_has ls 4 [(0, .ref (h 1)), (1, .int p1), (2, .int p2)] := hl
  unfold wC_X0_addHouse at hw
  clear hD0
  refine lv_aload_n hx hb dX0_addHouse_0 rfl (lv_at hl 0 rfl) ?_
  refine va_get (D := D) (ci := 0) (v := .ref (h 12)) (C := RX0) (T := TX0) (N := 16) hx hb hts hin0 hown hK hP 1 rfl rfl 0 (by decide) w11 (fun _ h9 => h9) rfl dX0_addHouse_1 ?_
  refine lv_bipush (v := 72) hx hb dX0_addHouse_4 (by decide) ?_
  refine e_callNi (As := [.ref (h 12), .int 72]) (rest := []) clE_stable hs ⟨hx, hb, hml, hown, hts⟩ (cA_at l D clE (tyC cy) (wC h cy) S 12 0 _ _ 74 (cx_c_now S) rfl rfl (by decide) _ (fun r S0 => r = k_at 74 (cx_c_now S) 72 ∧ S = S0) ⟨rfl, rfl⟩) ⟨va_cnB 2 hts gX0_addHouse_X11_at_n86 rfl rfl rfl hs.1.2.2.2.2.2.2.1 wiX11 (by decide +kernel) ⟨Nat.le_of_ble_eq_true rfl, Nat.le_of_ble_eq_true rfl⟩, wstat, trivial⟩ hK hP hD hS hA rfl hl.1 rfl (Nat.le_of_ble_eq_true rfl) dX0_addHouse_6 ⟨Nat.zero_le _, Nat.zero_le _⟩ (fun r_ S_ H locs hq hP hD hS => ?_)
  obtain ⟨rfl, rfl⟩ := hq
  refine lv_istore_n (lv' := [(3, .int (k_at 74 (cx_c_now S) 72)), (0, .ref (h 1)), (1, .int p1), (2, .int p2)]) hx hb dX0_addHouse_9 rfl hl (by decide) rfl (fun ls hl => ?_)
  refine lv_iload_n hx hb dX0_addHouse_10 rfl (lv_at hl 0 rfl) ?_
  refine lv_bipush (v := 6) hx hb dX0_addHouse_11 (by decide) ?_
  obtain ⟨hc_1t, hc_1f⟩ := hw
  refine lv_icmp_lt (tgt := 18) hx hb dX0_addHouse_13 (by decide) (fun c_1 => ?_) (fun c_1 => ?_)
  · have hw := hc_1t c_1
    clear hc_1t hc_1f
    refine lv_aload_n hx hb dX0_addHouse_18 rfl (lv_at hl 1 rfl) ?_
    refine va_get (D := D) (ci := 0) (v := .ref (h 13)) (C := RX0) (T := TX0) (N := 16) hx hb hts hin0 hown hK hP 1 rfl rfl 2 (by decide) w22 (fun _ h9 => h9) rfl dX0_addHouse_19 ?_
    refine lv_iload_n hx hb dX0_addHouse_22 rfl (lv_at hl 0 rfl) ?_
    refine lv_iload_n hx hb dX0_addHouse_23 rfl (lv_at hl 2 rfl) ?_
    refine e_callNv (As := [.ref (h 13), .int (k_at 74 (cx_c_now S) 72), .int p1]) (rest := []) clE_stable hs ⟨hx, hb, hml, hown, hts⟩ (cA_put l D clE (tyC cy) (wC h cy) cx_c_kinds cx_set_c_kinds S 13 1 _ _ 6 rfl (wCs_c_kinds h cy S) rfl (by decide) _ _ (fun S0 => S0 = (cx_set_c_kinds S (k_put 6 (cx_c_kinds S) (k_at 74 (cx_c_now S) 72) p1))) rfl) ⟨va_cnB 3 hts gX0_addHouse_X11_put_n68 rfl rfl rfl hs.1.2.1 wiX11 (by decide +kernel) ⟨Nat.le_of_ble_eq_true rfl, Nat.le_of_ble_eq_true rfl⟩, wstput, trivial⟩ hK hP hD hS hA rfl hl.1 rfl (Nat.le_of_ble_eq_true rfl) dX0_addHouse_24 ⟨Nat.zero_le _, Nat.zero_le _⟩ (fun S_2 H locs eS_2 hP hD hS => ?_)
    replace hw := hw S_2 eS_2
    refine lv_aload_n hx hb dX0_addHouse_27 rfl (lv_at hl 1 rfl) ?_
    refine lv_iconst (v := 0) hx hb dX0_addHouse_28 (by decide) ?_
    refine lv_iload_n hx hb dX0_addHouse_29 rfl (lv_at hl 0 rfl) ?_
    refine lv_iload_n hx hb dX0_addHouse_30 rfl (lv_at hl 3 rfl) ?_
    refine e_callVv (As := [.int 0, .int (k_at 74 (cx_c_now S) 72), .int p2]) (rest := []) clE_stable hs ⟨hx, hb, hml, hown, hts⟩ (cC_X0_set l D h cy _ _ _ _ _ hw) (cwV 3 hts gX0_addHouse_X0_set rfl rfl rfl (by decide +kernel) ⟨Nat.le_of_ble_eq_true rfl, Nat.le_of_ble_eq_true rfl⟩) (va_recv hK hP (ci := 0) (q0 := 1) rfl rfl) hK hP hD hS hA rfl hl.1 rfl (Nat.le_of_ble_eq_true rfl) dX0_addHouse_31 ⟨Nat.zero_le _, Nat.zero_le _⟩ (fun S_4 H locs hw hP hD hS => ?_)
    refine lv_aload_n hx hb dX0_addHouse_34 rfl (lv_at hl 1 rfl) ?_
    refine lv_bipush (v := 6) hx hb dX0_addHouse_35 (by decide) ?_
    refine lv_iload_n hx hb dX0_addHouse_37 rfl (lv_at hl 0 rfl) ?_
    refine lv_iconst (v := 0) hx hb dX0_addHouse_38 (by decide) ?_
    refine e_callVv (As := [.int 6, .int (k_at 74 (cx_c_now S) 72), .int 0]) (rest := []) clE_stable hs ⟨hx, hb, hml, hown, hts⟩ (cC_X0_set l D h cy _ _ _ _ _ hw) (cwV 3 hts gX0_addHouse_X0_set rfl rfl rfl (by decide +kernel) ⟨Nat.le_of_ble_eq_true rfl, Nat.le_of_ble_eq_true rfl⟩) (va_recv hK hP (ci := 0) (q0 := 1) rfl rfl) hK hP hD hS hA rfl hl.1 rfl (Nat.le_of_ble_eq_true rfl) dX0_addHouse_39 ⟨Nat.zero_le _, Nat.zero_le _⟩ (fun S_6 H locs hw hP hD hS => ?_)
    refine lv_aload_n hx hb dX0_addHouse_42 rfl (lv_at hl 1 rfl) ?_
    refine lv_bipush (v := 12) hx hb dX0_addHouse_43 (by decide) ?_
    refine lv_iload_n hx hb dX0_addHouse_45 rfl (lv_at hl 0 rfl) ?_
    refine lv_iconst (v := (-1)) hx hb dX0_addHouse_46 (by decide) ?_
    refine e_callVv (As := [.int 12, .int (k_at 74 (cx_c_now S) 72), .int (-1)]) (rest := []) clE_stable hs ⟨hx, hb, hml, hown, hts⟩ (cC_X0_set l D h cy _ _ _ _ _ hw) (cwV 3 hts gX0_addHouse_X0_set rfl rfl rfl (by decide +kernel) ⟨Nat.le_of_ble_eq_true rfl, Nat.le_of_ble_eq_true rfl⟩) (va_recv hK hP (ci := 0) (q0 := 1) rfl rfl) hK hP hD hS hA rfl hl.1 rfl (Nat.le_of_ble_eq_true rfl) dX0_addHouse_47 ⟨Nat.zero_le _, Nat.zero_le _⟩ (fun S_8 H locs hw hP hD hS => ?_)
    refine lv_aload_n hx hb dX0_addHouse_50 rfl (lv_at hl 1 rfl) ?_
    refine lv_bipush (v := 18) hx hb dX0_addHouse_51 (by decide) ?_
    refine lv_iload_n hx hb dX0_addHouse_53 rfl (lv_at hl 0 rfl) ?_
    refine lv_iconst (v := 0) hx hb dX0_addHouse_54 (by decide) ?_
    refine e_callVv (As := [.int 18, .int (k_at 74 (cx_c_now S) 72), .int 0]) (rest := []) clE_stable hs ⟨hx, hb, hml, hown, hts⟩ (cC_X0_set l D h cy _ _ _ _ _ hw) (cwV 3 hts gX0_addHouse_X0_set rfl rfl rfl (by decide +kernel) ⟨Nat.le_of_ble_eq_true rfl, Nat.le_of_ble_eq_true rfl⟩) (va_recv hK hP (ci := 0) (q0 := 1) rfl rfl) hK hP hD hS hA rfl hl.1 rfl (Nat.le_of_ble_eq_true rfl) dX0_addHouse_55 ⟨Nat.zero_le _, Nat.zero_le _⟩ (fun S_10 H locs hw hP hD hS => ?_)
    refine lv_aload_n hx hb dX0_addHouse_58 rfl (lv_at hl 1 rfl) ?_
    refine va_get (D := D) (ci := 0) (v := .ref (h 12)) (C := RX0) (T := TX0) (N := 16) hx hb hts hin0 hown hK hP 1 rfl rfl 0 (by decide) w11 (fun _ h9 => h9) rfl dX0_addHouse_59 ?_
    refine lv_bipush (v := 72) hx hb dX0_addHouse_62 (by decide) ?_
    refine lv_iload_n hx hb dX0_addHouse_64 rfl (lv_at hl 0 rfl) ?_
    refine lv_iconst (v := 1) hx hb dX0_addHouse_65 (by decide) ?_
    refine lv_iadd hx hb dX0_addHouse_66 ?_
    refine e_callNv (As := [.ref (h 12), .int 72, .int ((k_at 74 (cx_c_now S) 72) + 1)]) (rest := []) clE_stable hs ⟨hx, hb, hml, hown, hts⟩ (cA_put l D clE (tyC cy) (wC h cy) cx_c_now cx_set_c_now S_10 12 0 _ _ 74 rfl (wCs_c_now h cy S_10) rfl (by decide) _ _ (fun S0 => S0 = (cx_set_c_now S_10 (k_put 74 (cx_c_now S_10) 72 ((k_at 74 (cx_c_now S) 72) + 1)))) rfl) ⟨va_cnB 3 hts gX0_addHouse_X11_put_n68 rfl rfl rfl hs.1.2.1 wiX11 (by decide +kernel) ⟨Nat.le_of_ble_eq_true rfl, Nat.le_of_ble_eq_true rfl⟩, wstput, trivial⟩ hK hP hD hS hA rfl hl.1 rfl (Nat.le_of_ble_eq_true rfl) dX0_addHouse_67 ⟨Nat.zero_le _, Nat.zero_le _⟩ (fun S_11 H locs eS_11 hP hD hS => ?_)
    replace hw := hw S_11 eS_11
    refine lv_iload_n hx hb dX0_addHouse_70 rfl (lv_at hl 0 rfl) ?_
    exact W.iret (v := k_at 74 (cx_c_now S) 72) hx hb hr (fun t ht hW => ⟨⟨k_at 74 (cx_c_now S) 72, S_11, rfl, hw, by rw [ht]; exact hP, va_K.moved hW.alike hK, hD⟩, hS.F ht⟩) hS.2.2 dX0_addHouse_71
  · have hw := hc_1f c_1
    clear hc_1t hc_1f
    refine lv_iconst (v := (-1)) hx hb dX0_addHouse_16 (by decide) ?_
    exact W.iret (v := (-1)) hx hb hr (fun t ht hW => ⟨⟨(-1), S, rfl, hw, by rw [ht]; exact hP, va_K.moved hW.alike hK, hD⟩, hS.F ht⟩) hS.2.2 dX0_addHouse_17
def wC_X11_house (p1 : Int32) (p2 : Int32) (S : CS) (post : Int32 → CS → Prop) : Prop := wC_X11_within p1 0 3 S (fun r_1 S_2 => ((r_1 = 0 → post (-1) S_2) ∧ (¬ (r_1 = 0) → wC_X11_within p2 0 99 S_2 (fun r_4 S_5 => ((r_4 = 0 → post (-1) S_5) ∧ (¬ (r_4 = 0) → wC_X0_addHouse p1 p2 S_5 (fun r_7 S_8 => post r_7 S_8)))))))
set_option maxHeartbeats 4000000 in
set_option maxRecDepth 100000 in
theorem cC_X11_house (l : Launch) (D : va_G) (h : Nat → Nat) (cy : Nat → ClassId) (p1 : Int32) (p2 : Int32) (S : CS) (post : Int32 → CS → Prop) (hw : wC_X11_house p1 p2 S post) : e_Mi clE l yX11_house wsX11_house { frames := 3, cells := 0, slots := 0, locals := 68 } D (tyC cy) (wC h cy) [.ref (h 0), .int p1, .int p2] S post := by
  intro sz
  refine Met.ofW (cc := cX11_house) (maxL := 3) (ret := (some .int)) (by decide) rfl ?_
  intro p e s m args below meth c s₁ B hml hv
  obtain ⟨rfl, hsz, hP, hK, hD0, hs⟩ := hv
  have hx := B.exec
  have hb := B.bytes
  have hr := B.returns
  have hts := atoms_spec (ws := wsX11_house) B.pre
  have hown : s.vm.findClass RX11 = some m.cls := findClass_of_methodNamed B.named
  have hlocks := B.notSynchronized
  subst hsz
  have hD := hD0.self (sz := s.heap.size)
  generalize hAe : va_A (wC h cy S) s.heap.size = A at hD hs ⊢
  have hA : ∀ q : Nat, s.heap.size ≤ q → A q := fun q h => by rw [← hAe]; exact Or.inr h
  have hS : va_S A s.heap s.heap [] := va_S.rf
  have hin11 : ∀ w ∈ wsX110, w ∈ wsX11_house := fun _ h => List.mem_cons_of_mem _ (List.mem_append_left _ (List.mem_append_right _ h))
  have hin0 : ∀ w ∈ wsX00, w ∈ wsX11_house := fun _ h => List.mem_cons_of_mem _ (List.mem_append_right _ h)
  have w10 := hts (.fieldLink RX11 10 "ClownsMourn" "city" "LClownsMourn$City;") (List.mem_of_getElem? (i := 1) rfl)
  have hl := lv_entry ([.ref (h 0), .int p1, .int p2]) (n := 3) (Nat.le_of_ble_eq_true rfl)
  rw [lg_entry_eq]
  generalize (lg_sl ([.ref (h 0), .int p1, .int p2]) ++ List.replicate (3 - (lg_sl ([.ref (h 0), .int p1, .int p2])).length) Slot.unset).toArray = ls at hl ⊢
  have hl : lv_has ls 3 [(0, .ref (h 0)), (1, .int p1), (2, .int p2)] := hl
  unfold wC_X11_house at hw
  clear hD0
  refine lv_iload_n hx hb dX11_house_0 rfl (lv_at hl 1 rfl) ?_
  refine lv_iconst (v := 0) hx hb dX11_house_1 (by decide) ?_
  refine lv_iconst (v := 3) hx hb dX11_house_2 (by decide) ?_
  refine e_callSi (As := [.int p1, .int 0, .int 3]) (rest := []) clE_stable hs ⟨hx, hb, hml, hown, hts⟩ (cC_X11_within l D h cy _ _ _ _ _ hw) (va_cwS 3 hts gX11_house_X11_within rfl rfl rfl (by decide +kernel) ⟨Nat.le_of_ble_eq_true rfl, Nat.le_of_ble_eq_true rfl⟩) hK hP hD hS hA rfl hl.1 rfl (Nat.le_of_ble_eq_true rfl) dX11_house_3 ⟨Nat.zero_le _, Nat.zero_le _⟩ (fun r_1 S_2 H locs hw hP hD hS => ?_)
  obtain ⟨hc_3t, hc_3f⟩ := hw
  refine lv_if_eq (tgt := 19) hx hb dX11_house_6 (by decide) (fun c_3 => ?_) (fun c_3 => ?_)
  · have hw := hc_3t c_3
    clear hc_3t hc_3f
    refine lv_iconst (v := (-1)) hx hb dX11_house_19 (by decide) ?_
    exact W.iret (v := (-1)) hx hb hr (fun t ht hW => ⟨⟨(-1), S_2, rfl, hw, by rw [ht]; exact hP, va_K.moved hW.alike hK, hD⟩, hS.F ht⟩) hS.2.2 dX11_house_20
  · have hw := hc_3f c_3
    clear hc_3t hc_3f
    refine lv_iload_n hx hb dX11_house_9 rfl (lv_at hl 2 rfl) ?_
    refine lv_iconst (v := 0) hx hb dX11_house_10 (by decide) ?_
    refine lv_bipush (v := 99) hx hb dX11_house_11 (by decide) ?_
    refine e_callSi (As := [.int p2, .int 0, .int 99]) (rest := []) clE_stable hs ⟨hx, hb, hml, hown, hts⟩ (cC_X11_within l D h cy _ _ _ _ _ hw) (va_cwS 3 hts gX11_house_X11_within rfl rfl rfl (by decide +kernel) ⟨Nat.le_of_ble_eq_true rfl, Nat.le_of_ble_eq_true rfl⟩) hK hP hD hS hA rfl hl.1 rfl (Nat.le_of_ble_eq_true rfl) dX11_house_13 ⟨Nat.zero_le _, Nat.zero_le _⟩ (fun r_4 S_5 H locs hw hP hD hS => ?_)
    obtain ⟨hc_6t, hc_6f⟩ := hw
    refine lv_if_ne (tgt := 21) hx hb dX11_house_16 (by decide) (fun c_6 => ?_) (fun c_6 => ?_)
    · have hw := hc_6f c_6
      clear hc_6t hc_6f
      refine lv_aload_n hx hb dX11_house_21 rfl (lv_at hl 0 rfl) ?_
      refine va_get (D := D) (ci := 10) (v := .ref (h 1)) (C := RX11) (T := TX11) (N := 9) hx hb hts hin11 hown hK hP 0 rfl rfl 0 (by decide) w10 (fun _ h9 => h9) rfl dX11_house_22 ?_
      refine lv_iload_n hx hb dX11_house_25 rfl (lv_at hl 1 rfl) ?_
      refine lv_iload_n hx hb dX11_house_26 rfl (lv_at hl 2 rfl) ?_
      refine e_callVi (As := [.int p1, .int p2]) (rest := []) clE_stable hs ⟨hx, hb, hml, hown, hts⟩ (cC_X0_addHouse l D h cy _ _ _ _ hw) (cwV 2 hts gX11_house_X0_addHouse rfl rfl rfl (by decide +kernel) ⟨Nat.le_of_ble_eq_true rfl, Nat.le_of_ble_eq_true rfl⟩) (va_recv hK hP (ci := 0) (q0 := 1) rfl rfl) hK hP hD hS hA rfl hl.1 rfl (Nat.le_of_ble_eq_true rfl) dX11_house_27 ⟨Nat.zero_le _, Nat.zero_le _⟩ (fun r_7 S_8 H locs hw hP hD hS => ?_)
      exact W.iret (v := r_7) hx hb hr (fun t ht hW => ⟨⟨r_7, S_8, rfl, hw, by rw [ht]; exact hP, va_K.moved hW.alike hK, hD⟩, hS.F ht⟩) hS.2.2 dX11_house_30
    · have hw := hc_6t c_6
      clear hc_6t hc_6f
      refine lv_iconst (v := (-1)) hx hb dX11_house_19 (by decide) ?_
      exact W.iret (v := (-1)) hx hb hr (fun t ht hW => ⟨⟨(-1), S_5, rfl, hw, by rw [ht]; exact hP, va_K.moved hW.alike hK, hD⟩, hS.F ht⟩) hS.2.2 dX11_house_20
def wC_X0_addClown (p1 : Int32) (p2 : Int32) (S : CS) (post : Int32 → CS → Prop) : Prop := (((k_at 74 (cx_c_now S) 73) < 5 → (∀ S_2 : CS, S_2 = (cx_set_c_skills S (k_put 5 (cx_c_skills S) (k_at 74 (cx_c_now S) 73) p1)) → (∀ S_3 : CS, S_3 = (cx_set_c_ages S_2 (k_put 5 (cx_c_ages S_2) (k_at 74 (cx_c_now S) 73) p2)) → wC_X0_set 24 (k_at 74 (cx_c_now S) 73) 0 S_3 (fun S_5 => wC_X0_set 29 (k_at 74 (cx_c_now S) 73) (-1) S_5 (fun S_7 => wC_X0_set 34 (k_at 74 (cx_c_now S) 73) 0 S_7 (fun S_9 => (∀ S_10 : CS, S_10 = (cx_set_c_now S_9 (k_put 74 (cx_c_now S_9) 73 ((k_at 74 (cx_c_now S) 73) + 1))) → post (k_at 74 (cx_c_now S) 73) S_10))))))) ∧ (¬ ((k_at 74 (cx_c_now S) 73) < 5) → post (-1) S))
set_option maxHeartbeats 4000000 in
set_option maxRecDepth 100000 in
theorem cC_X0_addClown (l : Launch) (D : va_G) (h : Nat → Nat) (cy : Nat → ClassId) (p1 : Int32) (p2 : Int32) (S : CS) (post : Int32 → CS → Prop) (hw : wC_X0_addClown p1 p2 S post) : e_Mi clE l yX0_addClown wsX0_addClown { frames := 2, cells := 0, slots := 0, locals := 45 } D (tyC cy) (wC h cy) [.ref (h 1), .int p1, .int p2] S post := by
  intro sz
  refine Met.ofW (cc := cX0_addClown) (maxL := 4) (ret := (some .int)) (by decide) rfl ?_
  intro p e s m args below meth c s₁ B hml hv
  obtain ⟨rfl, hsz, hP, hK, hD0, hs⟩ := hv
  have hx := B.exec
  have hb := B.bytes
  have hr := B.returns
  have hts := atoms_spec (ws := wsX0_addClown) B.pre
  have hown : s.vm.findClass RX0 = some m.cls := findClass_of_methodNamed B.named
  have hlocks := B.notSynchronized
  subst hsz
  have hD := hD0.self (sz := s.heap.size)
  generalize hAe : va_A (wC h cy S) s.heap.size = A at hD hs ⊢
  have hA : ∀ q : Nat, s.heap.size ≤ q → A q := fun q h => by rw [← hAe]; exact Or.inr h
  have hS : va_S A s.heap s.heap [] := va_S.rf
  have hin0 : ∀ w ∈ wsX00, w ∈ wsX0_addClown := fun _ h => List.mem_cons_of_mem _ (List.mem_append_right _ h)
  have w11 := hts (.fieldLink RX0 11 "ClownsMourn$City" "now" "[I") (List.mem_of_getElem? (i := 1) rfl)
  have w25 := hts (.fieldLink RX0 25 "ClownsMourn$City" "skills" "[I") (List.mem_of_getElem? (i := 2) rfl)
  have w28 := hts (.fieldLink RX0 28 "ClownsMourn$City" "ages" "[I") (List.mem_of_getElem? (i := 3) rfl)
  have wiX11 := hts (.initialized RX11) (List.mem_of_getElem? (i := 5) rfl)
  have wstat := hts (.static yX11_at) (List.mem_of_getElem? (i := 4) rfl)
  have wstput := hts (.static yX11_put) (List.mem_of_getElem? (i := 7) rfl)
  have hl := lv_entry ([.ref (h 1), .int p1, .int p2]) (n := 4) (Nat.le_of_ble_eq_true rfl)
  rw [lg_entry_eq]
  generalize (lg_sl ([.ref (h 1), .int p1, .int p2]) ++ List.replicate (4 - (lg_sl ([.ref (h 1), .int p1, .int p2])).length) Slot.unset).toArray = ls at hl ⊢
  have hl : lv_has ls 4 [(0, .ref (h 1)), (1, .int p1), (2, .int p2)] := hl
  unfold wC_X0_addClown at hw
  clear hD0
  refine lv_aload_n hx hb dX0_addClown_0 rfl (lv_at hl 0 rfl) ?_
  refine va_get (D := D) (ci := 0) (v := .ref (h 12)) (C := RX0) (T := TX0) (N := 16) hx hb hts hin0 hown hK hP 1 rfl rfl 0 (by decide) w11 (fun _ h9 => h9) rfl dX0_addClown_1 ?_
  refine lv_bipush (v := 73) hx hb dX0_addClown_4 (by decide) ?_
  refine e_callNi (As := [.ref (h 12), .int 73]) (rest := []) clE_stable hs ⟨hx, hb, hml, hown, hts⟩ (cA_at l D clE (tyC cy) (wC h cy) S 12 0 _ _ 74 (cx_c_now S) rfl rfl (by decide) _ (fun r S0 => r = k_at 74 (cx_c_now S) 73 ∧ S = S0) ⟨rfl, rfl⟩) ⟨va_cnB 2 hts gX0_addClown_X11_at_n86 rfl rfl rfl hs.1.2.2.2.2.2.2.1 wiX11 (by decide +kernel) ⟨Nat.le_of_ble_eq_true rfl, Nat.le_of_ble_eq_true rfl⟩, wstat, trivial⟩ hK hP hD hS hA rfl hl.1 rfl (Nat.le_of_ble_eq_true rfl) dX0_addClown_6 ⟨Nat.zero_le _, Nat.zero_le _⟩ (fun r_ S_ H locs hq hP hD hS => ?_)
  obtain ⟨rfl, rfl⟩ := hq
  refine lv_istore_n (lv' := [(3, .int (k_at 74 (cx_c_now S) 73)), (0, .ref (h 1)), (1, .int p1), (2, .int p2)]) hx hb dX0_addClown_9 rfl hl (by decide) rfl (fun ls hl => ?_)
  refine lv_iload_n hx hb dX0_addClown_10 rfl (lv_at hl 0 rfl) ?_
  refine lv_iconst (v := 5) hx hb dX0_addClown_11 (by decide) ?_
  obtain ⟨hc_1t, hc_1f⟩ := hw
  refine lv_icmp_lt (tgt := 17) hx hb dX0_addClown_12 (by decide) (fun c_1 => ?_) (fun c_1 => ?_)
  · have hw := hc_1t c_1
    clear hc_1t hc_1f
    refine lv_aload_n hx hb dX0_addClown_17 rfl (lv_at hl 1 rfl) ?_
    refine va_get (D := D) (ci := 0) (v := .ref (h 14)) (C := RX0) (T := TX0) (N := 16) hx hb hts hin0 hown hK hP 1 rfl rfl 3 (by decide) w25 (fun _ h9 => h9) rfl dX0_addClown_18 ?_
    refine lv_iload_n hx hb dX0_addClown_21 rfl (lv_at hl 0 rfl) ?_
    refine lv_iload_n hx hb dX0_addClown_22 rfl (lv_at hl 2 rfl) ?_
    refine e_callNv (As := [.ref (h 14), .int (k_at 74 (cx_c_now S) 73), .int p1]) (rest := []) clE_stable hs ⟨hx, hb, hml, hown, hts⟩ (cA_put l D clE (tyC cy) (wC h cy) cx_c_skills cx_set_c_skills S 14 2 _ _ 5 rfl (wCs_c_skills h cy S) rfl (by decide) _ _ (fun S0 => S0 = (cx_set_c_skills S (k_put 5 (cx_c_skills S) (k_at 74 (cx_c_now S) 73) p1))) rfl) ⟨va_cnB 3 hts gX0_addClown_X11_put_n68 rfl rfl rfl hs.1.2.1 wiX11 (by decide +kernel) ⟨Nat.le_of_ble_eq_true rfl, Nat.le_of_ble_eq_true rfl⟩, wstput, trivial⟩ hK hP hD hS hA rfl hl.1 rfl (Nat.le_of_ble_eq_true rfl) dX0_addClown_23 ⟨Nat.zero_le _, Nat.zero_le _⟩ (fun S_2 H locs eS_2 hP hD hS => ?_)
    replace hw := hw S_2 eS_2
    refine lv_aload_n hx hb dX0_addClown_26 rfl (lv_at hl 1 rfl) ?_
    refine va_get (D := D) (ci := 0) (v := .ref (h 15)) (C := RX0) (T := TX0) (N := 16) hx hb hts hin0 hown hK hP 1 rfl rfl 4 (by decide) w28 (fun _ h9 => h9) rfl dX0_addClown_27 ?_
    refine lv_iload_n hx hb dX0_addClown_30 rfl (lv_at hl 0 rfl) ?_
    refine lv_iload_n hx hb dX0_addClown_31 rfl (lv_at hl 3 rfl) ?_
    refine e_callNv (As := [.ref (h 15), .int (k_at 74 (cx_c_now S) 73), .int p2]) (rest := []) clE_stable hs ⟨hx, hb, hml, hown, hts⟩ (cA_put l D clE (tyC cy) (wC h cy) cx_c_ages cx_set_c_ages S_2 15 3 _ _ 5 rfl (wCs_c_ages h cy S_2) rfl (by decide) _ _ (fun S0 => S0 = (cx_set_c_ages S_2 (k_put 5 (cx_c_ages S_2) (k_at 74 (cx_c_now S) 73) p2))) rfl) ⟨va_cnB 3 hts gX0_addClown_X11_put_n68 rfl rfl rfl hs.1.2.1 wiX11 (by decide +kernel) ⟨Nat.le_of_ble_eq_true rfl, Nat.le_of_ble_eq_true rfl⟩, wstput, trivial⟩ hK hP hD hS hA rfl hl.1 rfl (Nat.le_of_ble_eq_true rfl) dX0_addClown_32 ⟨Nat.zero_le _, Nat.zero_le _⟩ (fun S_3 H locs eS_3 hP hD hS => ?_)
    replace hw := hw S_3 eS_3
    refine lv_aload_n hx hb dX0_addClown_35 rfl (lv_at hl 1 rfl) ?_
    refine lv_bipush (v := 24) hx hb dX0_addClown_36 (by decide) ?_
    refine lv_iload_n hx hb dX0_addClown_38 rfl (lv_at hl 0 rfl) ?_
    refine lv_iconst (v := 0) hx hb dX0_addClown_39 (by decide) ?_
    refine e_callVv (As := [.int 24, .int (k_at 74 (cx_c_now S) 73), .int 0]) (rest := []) clE_stable hs ⟨hx, hb, hml, hown, hts⟩ (cC_X0_set l D h cy _ _ _ _ _ hw) (cwV 3 hts gX0_addClown_X0_set rfl rfl rfl (by decide +kernel) ⟨Nat.le_of_ble_eq_true rfl, Nat.le_of_ble_eq_true rfl⟩) (va_recv hK hP (ci := 0) (q0 := 1) rfl rfl) hK hP hD hS hA rfl hl.1 rfl (Nat.le_of_ble_eq_true rfl) dX0_addClown_40 ⟨Nat.zero_le _, Nat.zero_le _⟩ (fun S_5 H locs hw hP hD hS => ?_)
    refine lv_aload_n hx hb dX0_addClown_43 rfl (lv_at hl 1 rfl) ?_
    refine lv_bipush (v := 29) hx hb dX0_addClown_44 (by decide) ?_
    refine lv_iload_n hx hb dX0_addClown_46 rfl (lv_at hl 0 rfl) ?_
    refine lv_iconst (v := (-1)) hx hb dX0_addClown_47 (by decide) ?_
    refine e_callVv (As := [.int 29, .int (k_at 74 (cx_c_now S) 73), .int (-1)]) (rest := []) clE_stable hs ⟨hx, hb, hml, hown, hts⟩ (cC_X0_set l D h cy _ _ _ _ _ hw) (cwV 3 hts gX0_addClown_X0_set rfl rfl rfl (by decide +kernel) ⟨Nat.le_of_ble_eq_true rfl, Nat.le_of_ble_eq_true rfl⟩) (va_recv hK hP (ci := 0) (q0 := 1) rfl rfl) hK hP hD hS hA rfl hl.1 rfl (Nat.le_of_ble_eq_true rfl) dX0_addClown_48 ⟨Nat.zero_le _, Nat.zero_le _⟩ (fun S_7 H locs hw hP hD hS => ?_)
    refine lv_aload_n hx hb dX0_addClown_51 rfl (lv_at hl 1 rfl) ?_
    refine lv_bipush (v := 34) hx hb dX0_addClown_52 (by decide) ?_
    refine lv_iload_n hx hb dX0_addClown_54 rfl (lv_at hl 0 rfl) ?_
    refine lv_iconst (v := 0) hx hb dX0_addClown_55 (by decide) ?_
    refine e_callVv (As := [.int 34, .int (k_at 74 (cx_c_now S) 73), .int 0]) (rest := []) clE_stable hs ⟨hx, hb, hml, hown, hts⟩ (cC_X0_set l D h cy _ _ _ _ _ hw) (cwV 3 hts gX0_addClown_X0_set rfl rfl rfl (by decide +kernel) ⟨Nat.le_of_ble_eq_true rfl, Nat.le_of_ble_eq_true rfl⟩) (va_recv hK hP (ci := 0) (q0 := 1) rfl rfl) hK hP hD hS hA rfl hl.1 rfl (Nat.le_of_ble_eq_true rfl) dX0_addClown_56 ⟨Nat.zero_le _, Nat.zero_le _⟩ (fun S_9 H locs hw hP hD hS => ?_)
    refine lv_aload_n hx hb dX0_addClown_59 rfl (lv_at hl 1 rfl) ?_
    refine va_get (D := D) (ci := 0) (v := .ref (h 12)) (C := RX0) (T := TX0) (N := 16) hx hb hts hin0 hown hK hP 1 rfl rfl 0 (by decide) w11 (fun _ h9 => h9) rfl dX0_addClown_60 ?_
    refine lv_bipush (v := 73) hx hb dX0_addClown_63 (by decide) ?_
    refine lv_iload_n hx hb dX0_addClown_65 rfl (lv_at hl 0 rfl) ?_
    refine lv_iconst (v := 1) hx hb dX0_addClown_66 (by decide) ?_
    refine lv_iadd hx hb dX0_addClown_67 ?_
    refine e_callNv (As := [.ref (h 12), .int 73, .int ((k_at 74 (cx_c_now S) 73) + 1)]) (rest := []) clE_stable hs ⟨hx, hb, hml, hown, hts⟩ (cA_put l D clE (tyC cy) (wC h cy) cx_c_now cx_set_c_now S_9 12 0 _ _ 74 rfl (wCs_c_now h cy S_9) rfl (by decide) _ _ (fun S0 => S0 = (cx_set_c_now S_9 (k_put 74 (cx_c_now S_9) 73 ((k_at 74 (cx_c_now S) 73) + 1)))) rfl) ⟨va_cnB 3 hts gX0_addClown_X11_put_n68 rfl rfl rfl hs.1.2.1 wiX11 (by decide +kernel) ⟨Nat.le_of_ble_eq_true rfl, Nat.le_of_ble_eq_true rfl⟩, wstput, trivial⟩ hK hP hD hS hA rfl hl.1 rfl (Nat.le_of_ble_eq_true rfl) dX0_addClown_68 ⟨Nat.zero_le _, Nat.zero_le _⟩ (fun S_10 H locs eS_10 hP hD hS => ?_)
    replace hw := hw S_10 eS_10
    refine lv_iload_n hx hb dX0_addClown_71 rfl (lv_at hl 0 rfl) ?_
    exact W.iret (v := k_at 74 (cx_c_now S) 73) hx hb hr (fun t ht hW => ⟨⟨k_at 74 (cx_c_now S) 73, S_10, rfl, hw, by rw [ht]; exact hP, va_K.moved hW.alike hK, hD⟩, hS.F ht⟩) hS.2.2 dX0_addClown_72
  · have hw := hc_1f c_1
    clear hc_1t hc_1f
    refine lv_iconst (v := (-1)) hx hb dX0_addClown_15 (by decide) ?_
    exact W.iret (v := (-1)) hx hb hr (fun t ht hW => ⟨⟨(-1), S, rfl, hw, by rw [ht]; exact hP, va_K.moved hW.alike hK, hD⟩, hS.F ht⟩) hS.2.2 dX0_addClown_16
def wC_X11_clown (p1 : Int32) (p2 : Int32) (S : CS) (post : Int32 → CS → Prop) : Prop := wC_X11_within p1 1 9 S (fun r_1 S_2 => ((r_1 = 0 → post (-1) S_2) ∧ (¬ (r_1 = 0) → wC_X11_within p2 0 99 S_2 (fun r_4 S_5 => ((r_4 = 0 → post (-1) S_5) ∧ (¬ (r_4 = 0) → wC_X0_addClown p1 p2 S_5 (fun r_7 S_8 => post r_7 S_8)))))))
set_option maxHeartbeats 4000000 in
set_option maxRecDepth 100000 in
theorem cC_X11_clown (l : Launch) (D : va_G) (h : Nat → Nat) (cy : Nat → ClassId) (p1 : Int32) (p2 : Int32) (S : CS) (post : Int32 → CS → Prop) (hw : wC_X11_clown p1 p2 S post) : e_Mi clE l yX11_clown wsX11_clown { frames := 3, cells := 0, slots := 0, locals := 68 } D (tyC cy) (wC h cy) [.ref (h 0), .int p1, .int p2] S post := by
  intro sz
  refine Met.ofW (cc := cX11_clown) (maxL := 3) (ret := (some .int)) (by decide) rfl ?_
  intro p e s m args below meth c s₁ B hml hv
  obtain ⟨rfl, hsz, hP, hK, hD0, hs⟩ := hv
  have hx := B.exec
  have hb := B.bytes
  have hr := B.returns
  have hts := atoms_spec (ws := wsX11_clown) B.pre
  have hown : s.vm.findClass RX11 = some m.cls := findClass_of_methodNamed B.named
  have hlocks := B.notSynchronized
  subst hsz
  have hD := hD0.self (sz := s.heap.size)
  generalize hAe : va_A (wC h cy S) s.heap.size = A at hD hs ⊢
  have hA : ∀ q : Nat, s.heap.size ≤ q → A q := fun q h => by rw [← hAe]; exact Or.inr h
  have hS : va_S A s.heap s.heap [] := va_S.rf
  have hin11 : ∀ w ∈ wsX110, w ∈ wsX11_clown := fun _ h => List.mem_cons_of_mem _ (List.mem_append_left _ (List.mem_append_right _ h))
  have hin0 : ∀ w ∈ wsX00, w ∈ wsX11_clown := fun _ h => List.mem_cons_of_mem _ (List.mem_append_right _ h)
  have w10 := hts (.fieldLink RX11 10 "ClownsMourn" "city" "LClownsMourn$City;") (List.mem_of_getElem? (i := 1) rfl)
  have hl := lv_entry ([.ref (h 0), .int p1, .int p2]) (n := 3) (Nat.le_of_ble_eq_true rfl)
  rw [lg_entry_eq]
  generalize (lg_sl ([.ref (h 0), .int p1, .int p2]) ++ List.replicate (3 - (lg_sl ([.ref (h 0), .int p1, .int p2])).length) Slot.unset).toArray = ls at hl ⊢
  have hl : lv_has ls 3 [(0, .ref (h 0)), (1, .int p1), (2, .int p2)] := hl
  unfold wC_X11_clown at hw
  clear hD0
  refine lv_iload_n hx hb dX11_clown_0 rfl (lv_at hl 1 rfl) ?_
  refine lv_iconst (v := 1) hx hb dX11_clown_1 (by decide) ?_
  refine lv_bipush (v := 9) hx hb dX11_clown_2 (by decide) ?_
  refine e_callSi (As := [.int p1, .int 1, .int 9]) (rest := []) clE_stable hs ⟨hx, hb, hml, hown, hts⟩ (cC_X11_within l D h cy _ _ _ _ _ hw) (va_cwS 3 hts gX11_clown_X11_within rfl rfl rfl (by decide +kernel) ⟨Nat.le_of_ble_eq_true rfl, Nat.le_of_ble_eq_true rfl⟩) hK hP hD hS hA rfl hl.1 rfl (Nat.le_of_ble_eq_true rfl) dX11_clown_4 ⟨Nat.zero_le _, Nat.zero_le _⟩ (fun r_1 S_2 H locs hw hP hD hS => ?_)
  obtain ⟨hc_3t, hc_3f⟩ := hw
  refine lv_if_eq (tgt := 20) hx hb dX11_clown_7 (by decide) (fun c_3 => ?_) (fun c_3 => ?_)
  · have hw := hc_3t c_3
    clear hc_3t hc_3f
    refine lv_iconst (v := (-1)) hx hb dX11_clown_20 (by decide) ?_
    exact W.iret (v := (-1)) hx hb hr (fun t ht hW => ⟨⟨(-1), S_2, rfl, hw, by rw [ht]; exact hP, va_K.moved hW.alike hK, hD⟩, hS.F ht⟩) hS.2.2 dX11_clown_21
  · have hw := hc_3f c_3
    clear hc_3t hc_3f
    refine lv_iload_n hx hb dX11_clown_10 rfl (lv_at hl 2 rfl) ?_
    refine lv_iconst (v := 0) hx hb dX11_clown_11 (by decide) ?_
    refine lv_bipush (v := 99) hx hb dX11_clown_12 (by decide) ?_
    refine e_callSi (As := [.int p2, .int 0, .int 99]) (rest := []) clE_stable hs ⟨hx, hb, hml, hown, hts⟩ (cC_X11_within l D h cy _ _ _ _ _ hw) (va_cwS 3 hts gX11_clown_X11_within rfl rfl rfl (by decide +kernel) ⟨Nat.le_of_ble_eq_true rfl, Nat.le_of_ble_eq_true rfl⟩) hK hP hD hS hA rfl hl.1 rfl (Nat.le_of_ble_eq_true rfl) dX11_clown_14 ⟨Nat.zero_le _, Nat.zero_le _⟩ (fun r_4 S_5 H locs hw hP hD hS => ?_)
    obtain ⟨hc_6t, hc_6f⟩ := hw
    refine lv_if_ne (tgt := 22) hx hb dX11_clown_17 (by decide) (fun c_6 => ?_) (fun c_6 => ?_)
    · have hw := hc_6f c_6
      clear hc_6t hc_6f
      refine lv_aload_n hx hb dX11_clown_22 rfl (lv_at hl 0 rfl) ?_
      refine va_get (D := D) (ci := 10) (v := .ref (h 1)) (C := RX11) (T := TX11) (N := 9) hx hb hts hin11 hown hK hP 0 rfl rfl 0 (by decide) w10 (fun _ h9 => h9) rfl dX11_clown_23 ?_
      refine lv_iload_n hx hb dX11_clown_26 rfl (lv_at hl 1 rfl) ?_
      refine lv_iload_n hx hb dX11_clown_27 rfl (lv_at hl 2 rfl) ?_
      refine e_callVi (As := [.int p1, .int p2]) (rest := []) clE_stable hs ⟨hx, hb, hml, hown, hts⟩ (cC_X0_addClown l D h cy _ _ _ _ hw) (cwV 2 hts gX11_clown_X0_addClown rfl rfl rfl (by decide +kernel) ⟨Nat.le_of_ble_eq_true rfl, Nat.le_of_ble_eq_true rfl⟩) (va_recv hK hP (ci := 0) (q0 := 1) rfl rfl) hK hP hD hS hA rfl hl.1 rfl (Nat.le_of_ble_eq_true rfl) dX11_clown_28 ⟨Nat.zero_le _, Nat.zero_le _⟩ (fun r_7 S_8 H locs hw hP hD hS => ?_)
      exact W.iret (v := r_7) hx hb hr (fun t ht hW => ⟨⟨r_7, S_8, rfl, hw, by rw [ht]; exact hP, va_K.moved hW.alike hK, hD⟩, hS.F ht⟩) hS.2.2 dX11_clown_31
    · have hw := hc_6t c_6
      clear hc_6t hc_6f
      refine lv_iconst (v := (-1)) hx hb dX11_clown_20 (by decide) ?_
      exact W.iret (v := (-1)) hx hb hr (fun t ht hW => ⟨⟨(-1), S_5, rfl, hw, by rw [ht]; exact hP, va_K.moved hW.alike hK, hD⟩, hS.F ht⟩) hS.2.2 dX11_clown_21
def wC_X11_isFall (p1 : Int32) (S : CS) (post : Int32 → CS → Prop) : Prop := wC_X11_within p1 0 4 S (fun r_1 S_2 => (narrow .boolean (.int r_1) = .int r_1 ∧ post r_1 S_2))
set_option maxHeartbeats 4000000 in
set_option maxRecDepth 100000 in
theorem cC_X11_isFall (l : Launch) (D : va_G) (h : Nat → Nat) (cy : Nat → ClassId) (p1 : Int32) (S : CS) (post : Int32 → CS → Prop) (hw : wC_X11_isFall p1 S post) : e_Mi clE l yX11_isFall wsX11_isFall { frames := 1, cells := 0, slots := 0, locals := 22 } D (tyC cy) (wC h cy) [.int p1] S post := by
  intro sz
  refine Met.ofW (cc := cX11_isFall) (maxL := 1) (ret := (some .boolean)) (by decide) rfl ?_
  intro p e s m args below meth c s₁ B hml hv
  obtain ⟨rfl, hsz, hP, hK, hD0, hs⟩ := hv
  have hx := B.exec
  have hb := B.bytes
  have hr := B.returns
  have hts := atoms_spec (ws := wsX11_isFall) B.pre
  have hown : s.vm.findClass RX11 = some m.cls := findClass_of_methodNamed B.named
  have hlocks := B.notSynchronized
  subst hsz
  have hD := hD0.self (sz := s.heap.size)
  generalize hAe : va_A (wC h cy S) s.heap.size = A at hD hs ⊢
  have hA : ∀ q : Nat, s.heap.size ≤ q → A q := fun q h => by rw [← hAe]; exact Or.inr h
  have hS : va_S A s.heap s.heap [] := va_S.rf
  have hl := lv_entry ([.int p1]) (n := 1) (Nat.le_of_ble_eq_true rfl)
  rw [lg_entry_eq]
  generalize (lg_sl ([.int p1]) ++ List.replicate (1 - (lg_sl ([.int p1])).length) Slot.unset).toArray = ls at hl ⊢
  have hl : lv_has ls 1 [(0, .int p1)] := hl
  unfold wC_X11_isFall at hw
  clear hD0
  refine lv_iload_n hx hb dX11_isFall_0 rfl (lv_at hl 0 rfl) ?_
  refine lv_iconst (v := 0) hx hb dX11_isFall_1 (by decide) ?_
  refine lv_iconst (v := 4) hx hb dX11_isFall_2 (by decide) ?_
  refine e_callSi (As := [.int p1, .int 0, .int 4]) (rest := []) clE_stable hs ⟨hx, hb, hml, hown, hts⟩ (cC_X11_within l D h cy _ _ _ _ _ hw) (va_cwS 3 hts gX11_isFall_X11_within rfl rfl rfl (by decide +kernel) ⟨Nat.le_of_ble_eq_true rfl, Nat.le_of_ble_eq_true rfl⟩) hK hP hD hS hA rfl hl.1 rfl (Nat.le_of_ble_eq_true rfl) dX11_isFall_3 ⟨Nat.zero_le _, Nat.zero_le _⟩ (fun r_1 S_2 H locs hw hP hD hS => ?_)
  obtain ⟨hn, hw⟩ := hw
  exact W.zret (v := r_1) hx hb hr hn (fun t ht hW => ⟨⟨r_1, S_2, rfl, hw, by rw [ht]; exact hP, va_K.moved hW.alike hK, hD⟩, hS.F ht⟩) hS.2.2 dX11_isFall_6
def wC_X11_isMood (p1 : Int32) (S : CS) (post : Int32 → CS → Prop) : Prop := wC_X11_within p1 0 9 S (fun r_1 S_2 => (narrow .boolean (.int r_1) = .int r_1 ∧ post r_1 S_2))
set_option maxHeartbeats 4000000 in
set_option maxRecDepth 100000 in
theorem cC_X11_isMood (l : Launch) (D : va_G) (h : Nat → Nat) (cy : Nat → ClassId) (p1 : Int32) (S : CS) (post : Int32 → CS → Prop) (hw : wC_X11_isMood p1 S post) : e_Mi clE l yX11_isMood wsX11_isMood { frames := 1, cells := 0, slots := 0, locals := 22 } D (tyC cy) (wC h cy) [.int p1] S post := by
  intro sz
  refine Met.ofW (cc := cX11_isMood) (maxL := 1) (ret := (some .boolean)) (by decide) rfl ?_
  intro p e s m args below meth c s₁ B hml hv
  obtain ⟨rfl, hsz, hP, hK, hD0, hs⟩ := hv
  have hx := B.exec
  have hb := B.bytes
  have hr := B.returns
  have hts := atoms_spec (ws := wsX11_isMood) B.pre
  have hown : s.vm.findClass RX11 = some m.cls := findClass_of_methodNamed B.named
  have hlocks := B.notSynchronized
  subst hsz
  have hD := hD0.self (sz := s.heap.size)
  generalize hAe : va_A (wC h cy S) s.heap.size = A at hD hs ⊢
  have hA : ∀ q : Nat, s.heap.size ≤ q → A q := fun q h => by rw [← hAe]; exact Or.inr h
  have hS : va_S A s.heap s.heap [] := va_S.rf
  have hl := lv_entry ([.int p1]) (n := 1) (Nat.le_of_ble_eq_true rfl)
  rw [lg_entry_eq]
  generalize (lg_sl ([.int p1]) ++ List.replicate (1 - (lg_sl ([.int p1])).length) Slot.unset).toArray = ls at hl ⊢
  have hl : lv_has ls 1 [(0, .int p1)] := hl
  unfold wC_X11_isMood at hw
  clear hD0
  refine lv_iload_n hx hb dX11_isMood_0 rfl (lv_at hl 0 rfl) ?_
  refine lv_iconst (v := 0) hx hb dX11_isMood_1 (by decide) ?_
  refine lv_bipush (v := 9) hx hb dX11_isMood_2 (by decide) ?_
  refine e_callSi (As := [.int p1, .int 0, .int 9]) (rest := []) clE_stable hs ⟨hx, hb, hml, hown, hts⟩ (cC_X11_within l D h cy _ _ _ _ _ hw) (va_cwS 3 hts gX11_isMood_X11_within rfl rfl rfl (by decide +kernel) ⟨Nat.le_of_ble_eq_true rfl, Nat.le_of_ble_eq_true rfl⟩) hK hP hD hS hA rfl hl.1 rfl (Nat.le_of_ble_eq_true rfl) dX11_isMood_4 ⟨Nat.zero_le _, Nat.zero_le _⟩ (fun r_1 S_2 H locs hw hP hD hS => ?_)
  obtain ⟨hn, hw⟩ := hw
  exact W.zret (v := r_1) hx hb hr hn (fun t ht hW => ⟨⟨r_1, S_2, rfl, hw, by rw [ht]; exact hP, va_K.moved hW.alike hK, hD⟩, hS.F ht⟩) hS.2.2 dX11_isMood_7
def wC_X11_mood (p1 : Int32) (p2 : Int32) (p3 : Int32) (S : CS) (post : Int32 → CS → Prop) : Prop := wC_X11_isFall p1 S (fun r_1 S_2 => ((r_1 = 0 → post 0 S_2) ∧ (¬ (r_1 = 0) → wC_X11_isMood p2 S_2 (fun r_4 S_5 => ((r_4 = 0 → post 0 S_5) ∧ (¬ (r_4 = 0) → wC_X11_isMood p3 S_5 (fun r_7 S_8 => ((r_7 = 0 → post 0 S_8) ∧ (¬ (r_7 = 0) → (∀ S_10 : CS, S_10 = (cx_set_c_turns S_8 (k_put 50 (cx_c_turns S_8) ((p1 * 10) + p2) p3)) → post 1 S_10))))))))))
set_option maxHeartbeats 4000000 in
set_option maxRecDepth 100000 in
theorem cC_X11_mood (l : Launch) (D : va_G) (h : Nat → Nat) (cy : Nat → ClassId) (p1 : Int32) (p2 : Int32) (p3 : Int32) (S : CS) (post : Int32 → CS → Prop) (hw : wC_X11_mood p1 p2 p3 S post) : e_Mi clE l yX11_mood wsX11_mood { frames := 2, cells := 0, slots := 0, locals := 42 } D (tyC cy) (wC h cy) [.ref (h 0), .int p1, .int p2, .int p3] S post := by
  intro sz
  refine Met.ofW (cc := cX11_mood) (maxL := 4) (ret := (some .boolean)) (by decide) rfl ?_
  intro p e s m args below meth c s₁ B hml hv
  obtain ⟨rfl, hsz, hP, hK, hD0, hs⟩ := hv
  have hx := B.exec
  have hb := B.bytes
  have hr := B.returns
  have hts := atoms_spec (ws := wsX11_mood) B.pre
  have hown : s.vm.findClass RX11 = some m.cls := findClass_of_methodNamed B.named
  have hlocks := B.notSynchronized
  subst hsz
  have hD := hD0.self (sz := s.heap.size)
  generalize hAe : va_A (wC h cy S) s.heap.size = A at hD hs ⊢
  have hA : ∀ q : Nat, s.heap.size ≤ q → A q := fun q h => by rw [← hAe]; exact Or.inr h
  have hS : va_S A s.heap s.heap [] := va_S.rf
  have hin11 : ∀ w ∈ wsX110, w ∈ wsX11_mood := fun _ h => List.mem_cons_of_mem _ (List.mem_append_left _ (List.mem_append_right _ h))
  have hin0 : ∀ w ∈ wsX00, w ∈ wsX11_mood := fun _ h => List.mem_cons_of_mem _ (List.mem_append_right _ h)
  have w10 := hts (.fieldLink RX11 10 "ClownsMourn" "city" "LClownsMourn$City;") (List.mem_of_getElem? (i := 1) rfl)
  have w90 := hts (.fieldLink RX11 90 "ClownsMourn$City" "turns" "[I") (List.mem_of_getElem? (i := 2) rfl)
  have hl := lv_entry ([.ref (h 0), .int p1, .int p2, .int p3]) (n := 4) (Nat.le_of_ble_eq_true rfl)
  rw [lg_entry_eq]
  generalize (lg_sl ([.ref (h 0), .int p1, .int p2, .int p3]) ++ List.replicate (4 - (lg_sl ([.ref (h 0), .int p1, .int p2, .int p3])).length) Slot.unset).toArray = ls at hl ⊢
  have hl : lv_has ls 4 [(0, .ref (h 0)), (1, .int p1), (2, .int p2), (3, .int p3)] := hl
  unfold wC_X11_mood at hw
  clear hD0
  refine lv_iload_n hx hb dX11_mood_0 rfl (lv_at hl 1 rfl) ?_
  refine e_callSi (As := [.int p1]) (rest := []) clE_stable hs ⟨hx, hb, hml, hown, hts⟩ (cC_X11_isFall l D h cy _ _ _ hw) (va_cwS 1 hts gX11_mood_X11_isFall rfl rfl rfl (by decide +kernel) ⟨Nat.le_of_ble_eq_true rfl, Nat.le_of_ble_eq_true rfl⟩) hK hP hD hS hA rfl hl.1 rfl (Nat.le_of_ble_eq_true rfl) dX11_mood_1 ⟨Nat.zero_le _, Nat.zero_le _⟩ (fun r_1 S_2 H locs hw hP hD hS => ?_)
  obtain ⟨hc_3t, hc_3f⟩ := hw
  refine lv_if_eq (tgt := 21) hx hb dX11_mood_4 (by decide) (fun c_3 => ?_) (fun c_3 => ?_)
  · have hw := hc_3t c_3
    clear hc_3t hc_3f
    refine lv_iconst (v := 0) hx hb dX11_mood_21 (by decide) ?_
    exact W.zret (v := 0) hx hb hr (by decide +kernel) (fun t ht hW => ⟨⟨0, S_2, rfl, hw, by rw [ht]; exact hP, va_K.moved hW.alike hK, hD⟩, hS.F ht⟩) hS.2.2 dX11_mood_22
  · have hw := hc_3f c_3
    clear hc_3t hc_3f
    refine lv_iload_n hx hb dX11_mood_7 rfl (lv_at hl 2 rfl) ?_
    refine e_callSi (As := [.int p2]) (rest := []) clE_stable hs ⟨hx, hb, hml, hown, hts⟩ (cC_X11_isMood l D h cy _ _ _ hw) (va_cwS 1 hts gX11_mood_X11_isMood rfl rfl rfl (by decide +kernel) ⟨Nat.le_of_ble_eq_true rfl, Nat.le_of_ble_eq_true rfl⟩) hK hP hD hS hA rfl hl.1 rfl (Nat.le_of_ble_eq_true rfl) dX11_mood_8 ⟨Nat.zero_le _, Nat.zero_le _⟩ (fun r_4 S_5 H locs hw hP hD hS => ?_)
    obtain ⟨hc_6t, hc_6f⟩ := hw
    refine lv_if_eq (tgt := 21) hx hb dX11_mood_11 (by decide) (fun c_6 => ?_) (fun c_6 => ?_)
    · have hw := hc_6t c_6
      clear hc_6t hc_6f
      refine lv_iconst (v := 0) hx hb dX11_mood_21 (by decide) ?_
      exact W.zret (v := 0) hx hb hr (by decide +kernel) (fun t ht hW => ⟨⟨0, S_5, rfl, hw, by rw [ht]; exact hP, va_K.moved hW.alike hK, hD⟩, hS.F ht⟩) hS.2.2 dX11_mood_22
    · have hw := hc_6f c_6
      clear hc_6t hc_6f
      refine lv_iload_n hx hb dX11_mood_14 rfl (lv_at hl 3 rfl) ?_
      refine e_callSi (As := [.int p3]) (rest := []) clE_stable hs ⟨hx, hb, hml, hown, hts⟩ (cC_X11_isMood l D h cy _ _ _ hw) (va_cwS 1 hts gX11_mood_X11_isMood rfl rfl rfl (by decide +kernel) ⟨Nat.le_of_ble_eq_true rfl, Nat.le_of_ble_eq_true rfl⟩) hK hP hD hS hA rfl hl.1 rfl (Nat.le_of_ble_eq_true rfl) dX11_mood_15 ⟨Nat.zero_le _, Nat.zero_le _⟩ (fun r_7 S_8 H locs hw hP hD hS => ?_)
      obtain ⟨hc_9t, hc_9f⟩ := hw
      refine lv_if_ne (tgt := 23) hx hb dX11_mood_18 (by decide) (fun c_9 => ?_) (fun c_9 => ?_)
      · have hw := hc_9f c_9
        clear hc_9t hc_9f
        refine lv_aload_n hx hb dX11_mood_23 rfl (lv_at hl 0 rfl) ?_
        refine va_get (D := D) (ci := 10) (v := .ref (h 1)) (C := RX11) (T := TX11) (N := 9) hx hb hts hin11 hown hK hP 0 rfl rfl 0 (by decide) w10 (fun _ h9 => h9) rfl dX11_mood_24 ?_
        refine va_get (D := D) (ci := 0) (v := .ref (h 16)) (C := RX0) (T := TX0) (N := 16) hx hb hts hin0 hown hK hP 1 rfl rfl 5 (by decide) w90 (fun _ h9 => h9) rfl dX11_mood_27 ?_
        refine lv_iload_n hx hb dX11_mood_30 rfl (lv_at hl 1 rfl) ?_
        refine lv_bipush (v := 10) hx hb dX11_mood_31 (by decide) ?_
        refine lv_imul hx hb dX11_mood_33 ?_
        refine lv_iload_n hx hb dX11_mood_34 rfl (lv_at hl 2 rfl) ?_
        refine lv_iadd hx hb dX11_mood_35 ?_
        refine lv_iload_n hx hb dX11_mood_36 rfl (lv_at hl 3 rfl) ?_
        refine e_callSv (As := [.ref (h 16), .int ((p1 * 10) + p2), .int p3]) (rest := []) clE_stable hs ⟨hx, hb, hml, hown, hts⟩ (cA_put l D clE (tyC cy) (wC h cy) cx_c_turns cx_set_c_turns S_8 16 4 _ _ 50 rfl (wCs_c_turns h cy S_8) rfl (by decide) _ _ (fun S0 => S0 = (cx_set_c_turns S_8 (k_put 50 (cx_c_turns S_8) ((p1 * 10) + p2) p3))) rfl) (va_cwS 3 hts gX11_mood_X11_put rfl rfl rfl (by decide +kernel) ⟨Nat.le_of_ble_eq_true rfl, Nat.le_of_ble_eq_true rfl⟩) hK hP hD hS hA rfl hl.1 rfl (Nat.le_of_ble_eq_true rfl) dX11_mood_37 ⟨Nat.zero_le _, Nat.zero_le _⟩ (fun S_10 H locs eS_10 hP hD hS => ?_)
        replace hw := hw S_10 eS_10
        refine lv_iconst (v := 1) hx hb dX11_mood_40 (by decide) ?_
        exact W.zret (v := 1) hx hb hr (by decide +kernel) (fun t ht hW => ⟨⟨1, S_10, rfl, hw, by rw [ht]; exact hP, va_K.moved hW.alike hK, hD⟩, hS.F ht⟩) hS.2.2 dX11_mood_41
      · have hw := hc_9t c_9
        clear hc_9t hc_9f
        refine lv_iconst (v := 0) hx hb dX11_mood_21 (by decide) ?_
        exact W.zret (v := 0) hx hb hr (by decide +kernel) (fun t ht hW => ⟨⟨0, S_8, rfl, hw, by rw [ht]; exact hP, va_K.moved hW.alike hK, hD⟩, hS.F ht⟩) hS.2.2 dX11_mood_22
def wC_X6_hasRoom (S : CS) (post : Int32 → CS → Prop) : Prop := ((280 < (cx_r_length S) → post 0 S) ∧ (¬ (280 < (cx_r_length S)) → post 1 S))
set_option maxHeartbeats 4000000 in
set_option maxRecDepth 100000 in
theorem cC_X6_hasRoom (l : Launch) (D : va_G) (h : Nat → Nat) (cy : Nat → ClassId) (S : CS) (post : Int32 → CS → Prop) (hw : wC_X6_hasRoom S post) : e_Mi clE l yX6_hasRoom wsX6_hasRoom { frames := 0, cells := 0, slots := 0, locals := 0 } D (tyC cy) (wC h cy) [.ref (h 5)] S post := by
  intro sz
  refine Met.ofW (cc := cX6_hasRoom) (maxL := 1) (ret := (some .boolean)) (by decide) rfl ?_
  intro p e s m args below meth c s₁ B hml hv
  obtain ⟨rfl, hsz, hP, hK, hD0, hs⟩ := hv
  have hx := B.exec
  have hb := B.bytes
  have hr := B.returns
  have hts := atoms_spec (ws := wsX6_hasRoom) B.pre
  have hown : s.vm.findClass RX6 = some m.cls := findClass_of_methodNamed B.named
  have hlocks := B.notSynchronized
  subst hsz
  have hD := hD0.self (sz := s.heap.size)
  generalize hAe : va_A (wC h cy S) s.heap.size = A at hD hs ⊢
  have hA : ∀ q : Nat, s.heap.size ≤ q → A q := fun q h => by rw [← hAe]; exact Or.inr h
  have hS : va_S A s.heap s.heap [] := va_S.rf
  have hin6 : ∀ w ∈ wsX60, w ∈ wsX6_hasRoom := fun _ h => List.mem_cons_of_mem _ (List.mem_append_right _ h)
  have w9 := hts (.fieldLink RX6 9 "ClownsMourn$Reader" "length" "I") (List.mem_of_getElem? (i := 1) rfl)
  have hl := lv_entry ([.ref (h 5)]) (n := 1) (Nat.le_of_ble_eq_true rfl)
  rw [lg_entry_eq]
  generalize (lg_sl ([.ref (h 5)]) ++ List.replicate (1 - (lg_sl ([.ref (h 5)])).length) Slot.unset).toArray = ls at hl ⊢
  have hl : lv_has ls 1 [(0, .ref (h 5))] := hl
  unfold wC_X6_hasRoom at hw
  clear hD0
  refine lv_aload_n hx hb dX6_hasRoom_0 rfl (lv_at hl 0 rfl) ?_
  refine va_get (D := D) (ci := 6) (v := .int (cx_r_length S)) (C := RX6) (T := TX6) (N := 16) hx hb hts hin6 hown hK hP 5 rfl rfl 0 (by decide) w9 (fun _ h9 => h9) rfl dX6_hasRoom_1 ?_
  refine lv_sipush (v := 280) hx hb dX6_hasRoom_4 (by decide) ?_
  obtain ⟨hc_1t, hc_1f⟩ := hw
  refine lv_icmp_gt (tgt := 14) hx hb dX6_hasRoom_7 (by decide) (fun c_1 => ?_) (fun c_1 => ?_)
  · have hw := hc_1t c_1
    clear hc_1t hc_1f
    refine lv_iconst (v := 0) hx hb dX6_hasRoom_14 (by decide) ?_
    exact W.zret (v := 0) hx hb hr (by decide +kernel) (fun t ht hW => ⟨⟨0, S, rfl, hw, by rw [ht]; exact hP, va_K.moved hW.alike hK, hD⟩, hS.F ht⟩) hS.2.2 dX6_hasRoom_15
  · have hw := hc_1f c_1
    clear hc_1t hc_1f
    refine lv_iconst (v := 1) hx hb dX6_hasRoom_10 (by decide) ?_
    refine lv_goto (tgt := 15) hx hb dX6_hasRoom_11 (by decide) ?_
    exact W.zret (v := 1) hx hb hr (by decide +kernel) (fun t ht hW => ⟨⟨1, S, rfl, hw, by rw [ht]; exact hP, va_K.moved hW.alike hK, hD⟩, hS.F ht⟩) hS.2.2 dX6_hasRoom_15
def wC_X6_addBytes_3 (post : CS → Prop) : Nat → Int32 → Int32 → CS → Prop
  | 0, _, _, _ => False
  | n + 1, x1, x2, S => ((x2 < 0 → post S) ∧ (¬ (x2 < 0) → (∀ S_2 : CS, S_2 = (cx_set_r_tape S (k_put 300 (cx_r_tape S) (cx_r_length S) ((k_shr x1 x2) &&& 255))) → (∀ S_3 : CS, S_3 = (cx_set_r_length S_2 ((cx_r_length S_2) + 1)) → wC_X6_addBytes_3 post n x1 (x2 + (-8)) S_3))))
def wC_X6_addBytes (p1 : Int32) (S : CS) (post : CS → Prop) : Prop := ∃ k_ : Nat, wC_X6_addBytes_3 post k_ p1 24 S
set_option maxHeartbeats 4000000 in
set_option maxRecDepth 100000 in
theorem cC_X6_addBytes (l : Launch) (D : va_G) (h : Nat → Nat) (cy : Nat → ClassId) (p1 : Int32) (S : CS) (post : CS → Prop) (hw : wC_X6_addBytes p1 S post) : e_Mv clE l yX6_addBytes wsX6_addBytes { frames := 1, cells := 0, slots := 0, locals := 22 } D (tyC cy) (wC h cy) [.ref (h 5), .int p1] S post := by
  intro sz
  refine Met.ofW (cc := cX6_addBytes) (maxL := 3) (ret := none) (by decide) rfl ?_
  intro p e s m args below meth c s₁ B hml hv
  obtain ⟨rfl, hsz, hP, hK, hD0, hs⟩ := hv
  have hx := B.exec
  have hb := B.bytes
  have hr := B.returns
  have hts := atoms_spec (ws := wsX6_addBytes) B.pre
  have hown : s.vm.findClass RX6 = some m.cls := findClass_of_methodNamed B.named
  have hlocks := B.notSynchronized
  subst hsz
  have hD := hD0.self (sz := s.heap.size)
  generalize hAe : va_A (wC h cy S) s.heap.size = A at hD hs ⊢
  have hA : ∀ q : Nat, s.heap.size ≤ q → A q := fun q h => by rw [← hAe]; exact Or.inr h
  have hS : va_S A s.heap s.heap [] := va_S.rf
  have hin6 : ∀ w ∈ wsX60, w ∈ wsX6_addBytes := fun _ h => List.mem_cons_of_mem _ (List.mem_append_right _ h)
  have w21 := hts (.fieldLink RX6 21 "ClownsMourn$Reader" "tape" "[I") (List.mem_of_getElem? (i := 1) rfl)
  have w9 := hts (.fieldLink RX6 9 "ClownsMourn$Reader" "length" "I") (List.mem_of_getElem? (i := 2) rfl)
  have wiX11 := hts (.initialized RX11) (List.mem_of_getElem? (i := 4) rfl)
  have wstput := hts (.static yX11_put) (List.mem_of_getElem? (i := 3) rfl)
  have hl := lv_entry ([.ref (h 5), .int p1]) (n := 3) (Nat.le_of_ble_eq_true rfl)
  rw [lg_entry_eq]
  generalize (lg_sl ([.ref (h 5), .int p1]) ++ List.replicate (3 - (lg_sl ([.ref (h 5), .int p1])).length) Slot.unset).toArray = ls at hl ⊢
  have hl : lv_has ls 3 [(0, .ref (h 5)), (1, .int p1)] := hl
  unfold wC_X6_addBytes at hw
  clear hD0
  have L_3 : ∀ (n3 : Nat) (x1 : Int32) (x2 : Int32) (S : CS) (H : Heap) (locs : List Loc) (ls : Array Slot), wC_X6_addBytes_3 post n3 x1 x2 S → va_P D vwCl (wC h cy S) H → va_D A (wC h cy S) → va_S A s.heap H locs → lv_has ls 3 [(0, .ref (h 5)), (1, .int x1), (2, .int x2)] → W p l e (headSpec wsX6_addBytes { frames := 1, cells := 0, slots := 0, locals := 22 }).room s m (([.ref (h 5), .int p1] : List Value).toArray) below meth c H locs 0 0 (MQ below (va_Qv post (k_Post D (tyC cy) (wC h cy) A) A) (([.ref (h 5), .int p1] : List Value).toArray) s 0 0 A) (F0 m 3 ls []) := by
    intro n3
    induction n3 with
    | zero => intro x1 x2 S H locs ls hw; exact False.elim hw
    | succ n3 ih_3 =>
      intro x1 x2 S H locs ls hw hP hD hS hl
      unfold wC_X6_addBytes_3 at hw
      refine lv_iload_n hx hb dX6_addBytes_3 rfl (lv_at hl 2 rfl) ?_
      obtain ⟨hc_1t, hc_1f⟩ := hw
      refine lv_if_lt (tgt := 41) hx hb dX6_addBytes_4 (by decide) (fun c_1 => ?_) (fun c_1 => ?_)
      · have hw := hc_1t c_1
        clear hc_1t hc_1f
        exact W.vret hx hb hr (fun t ht hW => ⟨⟨S, rfl, hw, by rw [ht]; exact hP, va_K.moved hW.alike hK, hD⟩, hS.F ht⟩) hS.2.2 dX6_addBytes_41
      · have hw := hc_1f c_1
        clear hc_1t hc_1f
        refine lv_aload_n hx hb dX6_addBytes_7 rfl (lv_at hl 0 rfl) ?_
        refine va_get (D := D) (ci := 6) (v := .ref (h 36)) (C := RX6) (T := TX6) (N := 16) hx hb hts hin6 hown hK hP 5 rfl rfl 3 (by decide) w21 (fun _ h9 => h9) rfl dX6_addBytes_8 ?_
        refine lv_aload_n hx hb dX6_addBytes_11 rfl (lv_at hl 0 rfl) ?_
        refine va_get (D := D) (ci := 6) (v := .int (cx_r_length S)) (C := RX6) (T := TX6) (N := 16) hx hb hts hin6 hown hK hP 5 rfl rfl 0 (by decide) w9 (fun _ h9 => h9) rfl dX6_addBytes_12 ?_
        refine lv_iload_n hx hb dX6_addBytes_15 rfl (lv_at hl 1 rfl) ?_
        refine lv_iload_n hx hb dX6_addBytes_16 rfl (lv_at hl 2 rfl) ?_
        refine k_ishr hx hb dX6_addBytes_17 ?_
        refine lv_sipush (v := 255) hx hb dX6_addBytes_18 (by decide) ?_
        refine lv_iand hx hb dX6_addBytes_21 ?_
        refine e_callNv (As := [.ref (h 36), .int (cx_r_length S), .int ((k_shr x1 x2) &&& 255)]) (rest := []) clE_stable hs ⟨hx, hb, hml, hown, hts⟩ (cA_put l D clE (tyC cy) (wC h cy) cx_r_tape cx_set_r_tape S 36 24 _ _ 300 rfl (wCs_r_tape h cy S) rfl (by decide) _ _ (fun S0 => S0 = (cx_set_r_tape S (k_put 300 (cx_r_tape S) (cx_r_length S) ((k_shr x1 x2) &&& 255)))) rfl) ⟨va_cnB 3 hts gX6_addBytes_X11_put_n34 rfl rfl rfl hs.1.2.2.2.2.2.2.2.1 wiX11 (by decide +kernel) ⟨Nat.le_of_ble_eq_true rfl, Nat.le_of_ble_eq_true rfl⟩, wstput, trivial⟩ hK hP hD hS hA rfl hl.1 rfl (Nat.le_of_ble_eq_true rfl) dX6_addBytes_22 ⟨Nat.zero_le _, Nat.zero_le _⟩ (fun S_2 H locs eS_2 hP hD hS => ?_)
        replace hw := hw S_2 eS_2
        refine lv_aload_n hx hb dX6_addBytes_25 rfl (lv_at hl 0 rfl) ?_
        refine lv_dup hx hb dX6_addBytes_26 rfl ?_
        refine va_get (D := D) (ci := 6) (v := .int (cx_r_length S_2)) (C := RX6) (T := TX6) (N := 16) hx hb hts hin6 hown hK hP 5 rfl rfl 0 (by decide) w9 (fun _ h9 => h9) rfl dX6_addBytes_27 ?_
        refine lv_iconst (v := 1) hx hb dX6_addBytes_30 (by decide) ?_
        refine lv_iadd hx hb dX6_addBytes_31 ?_
        refine va_put (D := D) (ci := 6) (v := .int ((cx_r_length S_2) + 1)) (ty := .int) (C := RX6) (T := TX6) (N := 16) hx hb hts hin6 tyX6 tyX6_ok nmX6 hown hK hP hD hS 5 rfl rfl 0 (by decide) w9 (fun _ h9 => h9) rfl (tyX6_ok 0 (by decide)) rfl rfl (Nat.le_of_ble_eq_true rfl) dX6_addBytes_32 (fun H locs hP hD hS => ?_)
        obtain ⟨S_3, eS_3⟩ : ∃ z : CS, z = (cx_set_r_length S_2 ((cx_r_length S_2) + 1)) := ⟨_, rfl⟩
        replace hw := hw S_3 eS_3
        have hP : va_P D vwCl (wC h cy S_3) H := by rw [eS_3, ← wCp_r_length]; exact hP
        have hD : va_D A (wC h cy S_3) := by rw [eS_3, ← wCp_r_length]; exact hD
        refine lv_iinc (v := x2 + (-8)) (lv' := [(2, .int (x2 + (-8))), (0, .ref (h 5)), (1, .int x1)]) hx hb dX6_addBytes_35 hl (k := 2) rfl (k_inc (by decide)) (by decide) rfl (fun ls hl => ?_)
        refine lv_goto (tgt := 3) hx hb dX6_addBytes_38 (by decide) ?_
        exact ih_3 x1 (x2 + (-8)) S_3 _ _ _ hw hP hD hS (lv_sub hl [1, 2, 0] rfl)
  refine lv_bipush (v := 24) hx hb dX6_addBytes_0 (by decide) ?_
  refine lv_istore_n (lv' := [(2, .int 24), (0, .ref (h 5)), (1, .int p1)]) hx hb dX6_addBytes_2 rfl hl (by decide) rfl (fun ls hl => ?_)
  obtain ⟨n_3, hw⟩ := hw
  exact L_3 n_3 p1 24 S _ _ _ hw hP hD hS (lv_sub hl [1, 2, 0] rfl)
def wC_X11_feed (p1 : Int32) (p2 : Int32) (p3 : Int32) (p4 : Int32) (p5 : Int32) (S : CS) (post : Int32 → CS → Prop) : Prop := wC_X6_hasRoom S (fun r_1 S_2 => ((r_1 = 0 → post (-1) S_2) ∧ (¬ (r_1 = 0) → wC_X6_addBytes p1 S_2 (fun S_5 => wC_X6_addBytes p2 S_5 (fun S_7 => wC_X6_addBytes p3 S_7 (fun S_9 => wC_X6_addBytes p4 S_9 (fun S_11 => wC_X6_addBytes p5 S_11 (fun S_13 => post (cx_r_length S_13) S_13))))))))
set_option maxHeartbeats 4000000 in
set_option maxRecDepth 100000 in
theorem cC_X11_feed (l : Launch) (D : va_G) (h : Nat → Nat) (cy : Nat → ClassId) (p1 : Int32) (p2 : Int32) (p3 : Int32) (p4 : Int32) (p5 : Int32) (S : CS) (post : Int32 → CS → Prop) (hw : wC_X11_feed p1 p2 p3 p4 p5 S post) : e_Mi clE l yX11_feed wsX11_feed { frames := 2, cells := 0, slots := 0, locals := 44 } D (tyC cy) (wC h cy) [.ref (h 0), .int p1, .int p2, .int p3, .int p4, .int p5] S post := by
  intro sz
  refine Met.ofW (cc := cX11_feed) (maxL := 6) (ret := (some .int)) (by decide) rfl ?_
  intro p e s m args below meth c s₁ B hml hv
  obtain ⟨rfl, hsz, hP, hK, hD0, hs⟩ := hv
  have hx := B.exec
  have hb := B.bytes
  have hr := B.returns
  have hts := atoms_spec (ws := wsX11_feed) B.pre
  have hown : s.vm.findClass RX11 = some m.cls := findClass_of_methodNamed B.named
  have hlocks := B.notSynchronized
  subst hsz
  have hD := hD0.self (sz := s.heap.size)
  generalize hAe : va_A (wC h cy S) s.heap.size = A at hD hs ⊢
  have hA : ∀ q : Nat, s.heap.size ≤ q → A q := fun q h => by rw [← hAe]; exact Or.inr h
  have hS : va_S A s.heap s.heap [] := va_S.rf
  have hin11 : ∀ w ∈ wsX110, w ∈ wsX11_feed := fun _ h => List.mem_cons_of_mem _ (List.mem_append_left _ (List.mem_append_right _ h))
  have hin6 : ∀ w ∈ wsX60, w ∈ wsX11_feed := fun _ h => List.mem_cons_of_mem _ (List.mem_append_right _ h)
  have w106 := hts (.fieldLink RX11 106 "ClownsMourn$Reader" "length" "I") (List.mem_of_getElem? (i := 2) rfl)
  have w22 := hts (.fieldLink RX11 22 "ClownsMourn" "reader" "LClownsMourn$Reader;") (List.mem_of_getElem? (i := 1) rfl)
  have hl := lv_entry ([.ref (h 0), .int p1, .int p2, .int p3, .int p4, .int p5]) (n := 6) (Nat.le_of_ble_eq_true rfl)
  rw [lg_entry_eq]
  generalize (lg_sl ([.ref (h 0), .int p1, .int p2, .int p3, .int p4, .int p5]) ++ List.replicate (6 - (lg_sl ([.ref (h 0), .int p1, .int p2, .int p3, .int p4, .int p5])).length) Slot.unset).toArray = ls at hl ⊢
  have hl : lv_has ls 6 [(0, .ref (h 0)), (1, .int p1), (2, .int p2), (3, .int p3), (4, .int p4), (5, .int p5)] := hl
  unfold wC_X11_feed at hw
  clear hD0
  refine lv_aload_n hx hb dX11_feed_0 rfl (lv_at hl 0 rfl) ?_
  refine va_get (D := D) (ci := 10) (v := .ref (h 5)) (C := RX11) (T := TX11) (N := 9) hx hb hts hin11 hown hK hP 0 rfl rfl 2 (by decide) w22 (fun _ h9 => h9) rfl dX11_feed_1 ?_
  refine e_callVi (As := []) (rest := []) clE_stable hs ⟨hx, hb, hml, hown, hts⟩ (cC_X6_hasRoom l D h cy _ _ hw) (cwV 0 hts gX11_feed_X6_hasRoom rfl rfl rfl (by decide +kernel) ⟨Nat.le_of_ble_eq_true rfl, Nat.le_of_ble_eq_true rfl⟩) (va_recv hK hP (ci := 6) (q0 := 5) rfl rfl) hK hP hD hS hA rfl hl.1 rfl (Nat.le_of_ble_eq_true rfl) dX11_feed_4 ⟨Nat.zero_le _, Nat.zero_le _⟩ (fun r_1 S_2 H locs hw hP hD hS => ?_)
  obtain ⟨hc_3t, hc_3f⟩ := hw
  refine lv_if_ne (tgt := 12) hx hb dX11_feed_7 (by decide) (fun c_3 => ?_) (fun c_3 => ?_)
  · have hw := hc_3f c_3
    clear hc_3t hc_3f
    refine lv_aload_n hx hb dX11_feed_12 rfl (lv_at hl 0 rfl) ?_
    refine va_get (D := D) (ci := 10) (v := .ref (h 5)) (C := RX11) (T := TX11) (N := 9) hx hb hts hin11 hown hK hP 0 rfl rfl 2 (by decide) w22 (fun _ h9 => h9) rfl dX11_feed_13 ?_
    refine lv_iload_n hx hb dX11_feed_16 rfl (lv_at hl 1 rfl) ?_
    refine e_callVv (As := [.int p1]) (rest := []) clE_stable hs ⟨hx, hb, hml, hown, hts⟩ (cC_X6_addBytes l D h cy _ _ _ hw) (cwV 1 hts gX11_feed_X6_addBytes rfl rfl rfl (by decide +kernel) ⟨Nat.le_of_ble_eq_true rfl, Nat.le_of_ble_eq_true rfl⟩) (va_recv hK hP (ci := 6) (q0 := 5) rfl rfl) hK hP hD hS hA rfl hl.1 rfl (Nat.le_of_ble_eq_true rfl) dX11_feed_17 ⟨Nat.zero_le _, Nat.zero_le _⟩ (fun S_5 H locs hw hP hD hS => ?_)
    refine lv_aload_n hx hb dX11_feed_20 rfl (lv_at hl 0 rfl) ?_
    refine va_get (D := D) (ci := 10) (v := .ref (h 5)) (C := RX11) (T := TX11) (N := 9) hx hb hts hin11 hown hK hP 0 rfl rfl 2 (by decide) w22 (fun _ h9 => h9) rfl dX11_feed_21 ?_
    refine lv_iload_n hx hb dX11_feed_24 rfl (lv_at hl 2 rfl) ?_
    refine e_callVv (As := [.int p2]) (rest := []) clE_stable hs ⟨hx, hb, hml, hown, hts⟩ (cC_X6_addBytes l D h cy _ _ _ hw) (cwV 1 hts gX11_feed_X6_addBytes rfl rfl rfl (by decide +kernel) ⟨Nat.le_of_ble_eq_true rfl, Nat.le_of_ble_eq_true rfl⟩) (va_recv hK hP (ci := 6) (q0 := 5) rfl rfl) hK hP hD hS hA rfl hl.1 rfl (Nat.le_of_ble_eq_true rfl) dX11_feed_25 ⟨Nat.zero_le _, Nat.zero_le _⟩ (fun S_7 H locs hw hP hD hS => ?_)
    refine lv_aload_n hx hb dX11_feed_28 rfl (lv_at hl 0 rfl) ?_
    refine va_get (D := D) (ci := 10) (v := .ref (h 5)) (C := RX11) (T := TX11) (N := 9) hx hb hts hin11 hown hK hP 0 rfl rfl 2 (by decide) w22 (fun _ h9 => h9) rfl dX11_feed_29 ?_
    refine lv_iload_n hx hb dX11_feed_32 rfl (lv_at hl 3 rfl) ?_
    refine e_callVv (As := [.int p3]) (rest := []) clE_stable hs ⟨hx, hb, hml, hown, hts⟩ (cC_X6_addBytes l D h cy _ _ _ hw) (cwV 1 hts gX11_feed_X6_addBytes rfl rfl rfl (by decide +kernel) ⟨Nat.le_of_ble_eq_true rfl, Nat.le_of_ble_eq_true rfl⟩) (va_recv hK hP (ci := 6) (q0 := 5) rfl rfl) hK hP hD hS hA rfl hl.1 rfl (Nat.le_of_ble_eq_true rfl) dX11_feed_33 ⟨Nat.zero_le _, Nat.zero_le _⟩ (fun S_9 H locs hw hP hD hS => ?_)
    refine lv_aload_n hx hb dX11_feed_36 rfl (lv_at hl 0 rfl) ?_
    refine va_get (D := D) (ci := 10) (v := .ref (h 5)) (C := RX11) (T := TX11) (N := 9) hx hb hts hin11 hown hK hP 0 rfl rfl 2 (by decide) w22 (fun _ h9 => h9) rfl dX11_feed_37 ?_
    refine lv_iload hx hb dX11_feed_40 (lv_at hl 4 rfl) ?_
    refine e_callVv (As := [.int p4]) (rest := []) clE_stable hs ⟨hx, hb, hml, hown, hts⟩ (cC_X6_addBytes l D h cy _ _ _ hw) (cwV 1 hts gX11_feed_X6_addBytes rfl rfl rfl (by decide +kernel) ⟨Nat.le_of_ble_eq_true rfl, Nat.le_of_ble_eq_true rfl⟩) (va_recv hK hP (ci := 6) (q0 := 5) rfl rfl) hK hP hD hS hA rfl hl.1 rfl (Nat.le_of_ble_eq_true rfl) dX11_feed_42 ⟨Nat.zero_le _, Nat.zero_le _⟩ (fun S_11 H locs hw hP hD hS => ?_)
    refine lv_aload_n hx hb dX11_feed_45 rfl (lv_at hl 0 rfl) ?_
    refine va_get (D := D) (ci := 10) (v := .ref (h 5)) (C := RX11) (T := TX11) (N := 9) hx hb hts hin11 hown hK hP 0 rfl rfl 2 (by decide) w22 (fun _ h9 => h9) rfl dX11_feed_46 ?_
    refine lv_iload hx hb dX11_feed_49 (lv_at hl 5 rfl) ?_
    refine e_callVv (As := [.int p5]) (rest := []) clE_stable hs ⟨hx, hb, hml, hown, hts⟩ (cC_X6_addBytes l D h cy _ _ _ hw) (cwV 1 hts gX11_feed_X6_addBytes rfl rfl rfl (by decide +kernel) ⟨Nat.le_of_ble_eq_true rfl, Nat.le_of_ble_eq_true rfl⟩) (va_recv hK hP (ci := 6) (q0 := 5) rfl rfl) hK hP hD hS hA rfl hl.1 rfl (Nat.le_of_ble_eq_true rfl) dX11_feed_51 ⟨Nat.zero_le _, Nat.zero_le _⟩ (fun S_13 H locs hw hP hD hS => ?_)
    refine lv_aload_n hx hb dX11_feed_54 rfl (lv_at hl 0 rfl) ?_
    refine va_get (D := D) (ci := 10) (v := .ref (h 5)) (C := RX11) (T := TX11) (N := 9) hx hb hts hin11 hown hK hP 0 rfl rfl 2 (by decide) w22 (fun _ h9 => h9) rfl dX11_feed_55 ?_
    refine va_get (D := D) (ci := 6) (v := .int (cx_r_length S_13)) (C := RX6) (T := TX6) (N := 16) hx hb hts hin6 hown hK hP 5 rfl rfl 0 (by decide) w106 (fun _ h9 => h9) rfl dX11_feed_58 ?_
    exact W.iret (v := (cx_r_length S_13)) hx hb hr (fun t ht hW => ⟨⟨(cx_r_length S_13), S_13, rfl, hw, by rw [ht]; exact hP, va_K.moved hW.alike hK, hD⟩, hS.F ht⟩) hS.2.2 dX11_feed_61
  · have hw := hc_3t c_3
    clear hc_3t hc_3f
    refine lv_iconst (v := (-1)) hx hb dX11_feed_10 (by decide) ?_
    exact W.iret (v := (-1)) hx hb hr (fun t ht hW => ⟨⟨(-1), S_2, rfl, hw, by rw [ht]; exact hP, va_K.moved hW.alike hK, hD⟩, hS.F ht⟩) hS.2.2 dX11_feed_11
def wC_X11_end (p1 : Int32) (S : CS) (post : Int32 → CS → Prop) : Prop := wC_X11_within p1 0 (cx_r_length S) S (fun r_1 S_2 => ((r_1 = 0 → post (-1) S_2) ∧ (¬ (r_1 = 0) → (∀ S_4 : CS, S_4 = (cx_set_r_length S_2 p1) → post p1 S_4))))
set_option maxHeartbeats 4000000 in
set_option maxRecDepth 100000 in
theorem cC_X11_end (l : Launch) (D : va_G) (h : Nat → Nat) (cy : Nat → ClassId) (p1 : Int32) (S : CS) (post : Int32 → CS → Prop) (hw : wC_X11_end p1 S post) : e_Mi clE l yX11_end wsX11_end { frames := 1, cells := 0, slots := 0, locals := 22 } D (tyC cy) (wC h cy) [.ref (h 0), .int p1] S post := by
  intro sz
  refine Met.ofW (cc := cX11_end) (maxL := 2) (ret := (some .int)) (by decide) rfl ?_
  intro p e s m args below meth c s₁ B hml hv
  obtain ⟨rfl, hsz, hP, hK, hD0, hs⟩ := hv
  have hx := B.exec
  have hb := B.bytes
  have hr := B.returns
  have hts := atoms_spec (ws := wsX11_end) B.pre
  have hown : s.vm.findClass RX11 = some m.cls := findClass_of_methodNamed B.named
  have hlocks := B.notSynchronized
  subst hsz
  have hD := hD0.self (sz := s.heap.size)
  generalize hAe : va_A (wC h cy S) s.heap.size = A at hD hs ⊢
  have hA : ∀ q : Nat, s.heap.size ≤ q → A q := fun q h => by rw [← hAe]; exact Or.inr h
  have hS : va_S A s.heap s.heap [] := va_S.rf
  have hin11 : ∀ w ∈ wsX110, w ∈ wsX11_end := fun _ h => List.mem_cons_of_mem _ (List.mem_append_left _ (List.mem_append_right _ h))
  have hin6 : ∀ w ∈ wsX60, w ∈ wsX11_end := fun _ h => List.mem_cons_of_mem _ (List.mem_append_right _ h)
  have w106 := hts (.fieldLink RX11 106 "ClownsMourn$Reader" "length" "I") (List.mem_of_getElem? (i := 2) rfl)
  have w22 := hts (.fieldLink RX11 22 "ClownsMourn" "reader" "LClownsMourn$Reader;") (List.mem_of_getElem? (i := 1) rfl)
  have hl := lv_entry ([.ref (h 0), .int p1]) (n := 2) (Nat.le_of_ble_eq_true rfl)
  rw [lg_entry_eq]
  generalize (lg_sl ([.ref (h 0), .int p1]) ++ List.replicate (2 - (lg_sl ([.ref (h 0), .int p1])).length) Slot.unset).toArray = ls at hl ⊢
  have hl : lv_has ls 2 [(0, .ref (h 0)), (1, .int p1)] := hl
  unfold wC_X11_end at hw
  clear hD0
  refine lv_iload_n hx hb dX11_end_0 rfl (lv_at hl 1 rfl) ?_
  refine lv_iconst (v := 0) hx hb dX11_end_1 (by decide) ?_
  refine lv_aload_n hx hb dX11_end_2 rfl (lv_at hl 0 rfl) ?_
  refine va_get (D := D) (ci := 10) (v := .ref (h 5)) (C := RX11) (T := TX11) (N := 9) hx hb hts hin11 hown hK hP 0 rfl rfl 2 (by decide) w22 (fun _ h9 => h9) rfl dX11_end_3 ?_
  refine va_get (D := D) (ci := 6) (v := .int (cx_r_length S)) (C := RX6) (T := TX6) (N := 16) hx hb hts hin6 hown hK hP 5 rfl rfl 0 (by decide) w106 (fun _ h9 => h9) rfl dX11_end_6 ?_
  refine e_callSi (As := [.int p1, .int 0, .int (cx_r_length S)]) (rest := []) clE_stable hs ⟨hx, hb, hml, hown, hts⟩ (cC_X11_within l D h cy _ _ _ _ _ hw) (va_cwS 3 hts gX11_end_X11_within rfl rfl rfl (by decide +kernel) ⟨Nat.le_of_ble_eq_true rfl, Nat.le_of_ble_eq_true rfl⟩) hK hP hD hS hA rfl hl.1 rfl (Nat.le_of_ble_eq_true rfl) dX11_end_9 ⟨Nat.zero_le _, Nat.zero_le _⟩ (fun r_1 S_2 H locs hw hP hD hS => ?_)
  obtain ⟨hc_3t, hc_3f⟩ := hw
  refine lv_if_ne (tgt := 17) hx hb dX11_end_12 (by decide) (fun c_3 => ?_) (fun c_3 => ?_)
  · have hw := hc_3f c_3
    clear hc_3t hc_3f
    refine lv_aload_n hx hb dX11_end_17 rfl (lv_at hl 0 rfl) ?_
    refine va_get (D := D) (ci := 10) (v := .ref (h 5)) (C := RX11) (T := TX11) (N := 9) hx hb hts hin11 hown hK hP 0 rfl rfl 2 (by decide) w22 (fun _ h9 => h9) rfl dX11_end_18 ?_
    refine lv_iload_n hx hb dX11_end_21 rfl (lv_at hl 1 rfl) ?_
    refine va_put (D := D) (ci := 6) (v := .int p1) (ty := .int) (C := RX6) (T := TX6) (N := 16) hx hb hts hin6 tyX6 tyX6_ok nmX6 hown hK hP hD hS 5 rfl rfl 0 (by decide) w106 (fun _ h9 => h9) rfl (tyX6_ok 0 (by decide)) rfl rfl (Nat.le_of_ble_eq_true rfl) dX11_end_22 (fun H locs hP hD hS => ?_)
    obtain ⟨S_4, eS_4⟩ : ∃ z : CS, z = (cx_set_r_length S_2 p1) := ⟨_, rfl⟩
    replace hw := hw S_4 eS_4
    have hP : va_P D vwCl (wC h cy S_4) H := by rw [eS_4, ← wCp_r_length]; exact hP
    have hD : va_D A (wC h cy S_4) := by rw [eS_4, ← wCp_r_length]; exact hD
    refine lv_iload_n hx hb dX11_end_25 rfl (lv_at hl 1 rfl) ?_
    exact W.iret (v := p1) hx hb hr (fun t ht hW => ⟨⟨p1, S_4, rfl, hw, by rw [ht]; exact hP, va_K.moved hW.alike hK, hD⟩, hS.F ht⟩) hS.2.2 dX11_end_26
  · have hw := hc_3t c_3
    clear hc_3t hc_3f
    refine lv_iconst (v := (-1)) hx hb dX11_end_15 (by decide) ?_
    exact W.iret (v := (-1)) hx hb hr (fun t ht hW => ⟨⟨(-1), S_2, rfl, hw, by rw [ht]; exact hP, va_K.moved hW.alike hK, hD⟩, hS.F ht⟩) hS.2.2 dX11_end_16
def wC_X11_fault (p1 : Int32) (S : CS) (post : Int32 → CS → Prop) : Prop := ((p1 = 0 → post (cx_r_lastFault S) S) ∧ (p1 = 1 → post (cx_r_lastPlace S) S) ∧ (¬ p1 = 0 → ¬ p1 = 1 → post (-1) S))
set_option maxHeartbeats 4000000 in
set_option maxRecDepth 100000 in
theorem cC_X11_fault (l : Launch) (D : va_G) (h : Nat → Nat) (cy : Nat → ClassId) (p1 : Int32) (S : CS) (post : Int32 → CS → Prop) (hw : wC_X11_fault p1 S post) : e_Mi clE l yX11_fault wsX11_fault { frames := 0, cells := 0, slots := 0, locals := 0 } D (tyC cy) (wC h cy) [.ref (h 0), .int p1] S post := by
  intro sz
  refine Met.ofW (cc := cX11_fault) (maxL := 2) (ret := (some .int)) (by decide) rfl ?_
  intro p e s m args below meth c s₁ B hml hv
  obtain ⟨rfl, hsz, hP, hK, hD0, hs⟩ := hv
  have hx := B.exec
  have hb := B.bytes
  have hr := B.returns
  have hts := atoms_spec (ws := wsX11_fault) B.pre
  have hown : s.vm.findClass RX11 = some m.cls := findClass_of_methodNamed B.named
  have hlocks := B.notSynchronized
  subst hsz
  have hD := hD0.self (sz := s.heap.size)
  generalize hAe : va_A (wC h cy S) s.heap.size = A at hD hs ⊢
  have hA : ∀ q : Nat, s.heap.size ≤ q → A q := fun q h => by rw [← hAe]; exact Or.inr h
  have hS : va_S A s.heap s.heap [] := va_S.rf
  have hin11 : ∀ w ∈ wsX110, w ∈ wsX11_fault := fun _ h => List.mem_cons_of_mem _ (List.mem_append_left _ (List.mem_append_right _ h))
  have hin6 : ∀ w ∈ wsX60, w ∈ wsX11_fault := fun _ h => List.mem_cons_of_mem _ (List.mem_append_right _ h)
  have w121 := hts (.fieldLink RX11 121 "ClownsMourn$Reader" "lastFault" "I") (List.mem_of_getElem? (i := 2) rfl)
  have w124 := hts (.fieldLink RX11 124 "ClownsMourn$Reader" "lastPlace" "I") (List.mem_of_getElem? (i := 3) rfl)
  have w22 := hts (.fieldLink RX11 22 "ClownsMourn" "reader" "LClownsMourn$Reader;") (List.mem_of_getElem? (i := 1) rfl)
  have hl := lv_entry ([.ref (h 0), .int p1]) (n := 2) (Nat.le_of_ble_eq_true rfl)
  rw [lg_entry_eq]
  generalize (lg_sl ([.ref (h 0), .int p1]) ++ List.replicate (2 - (lg_sl ([.ref (h 0), .int p1])).length) Slot.unset).toArray = ls at hl ⊢
  have hl : lv_has ls 2 [(0, .ref (h 0)), (1, .int p1)] := hl
  unfold wC_X11_fault at hw
  clear hD0
  refine lv_iload_n hx hb dX11_fault_0 rfl (lv_at hl 1 rfl) ?_
  obtain ⟨hc_1, hw⟩ := hw
  by_cases c_1 : p1 = 0
  · have hw := hc_1 c_1
    refine lv_lookup (off := 27) (tgt := 28) hx hb dX11_fault_1 (by decide) (by rw [c_1]; decide) (by decide) ?_
    refine lv_aload_n hx hb dX11_fault_28 rfl (lv_at hl 0 rfl) ?_
    refine va_get (D := D) (ci := 10) (v := .ref (h 5)) (C := RX11) (T := TX11) (N := 9) hx hb hts hin11 hown hK hP 0 rfl rfl 2 (by decide) w22 (fun _ h9 => h9) rfl dX11_fault_29 ?_
    refine va_get (D := D) (ci := 6) (v := .int (cx_r_lastFault S)) (C := RX6) (T := TX6) (N := 16) hx hb hts hin6 hown hK hP 5 rfl rfl 1 (by decide) w121 (fun _ h9 => h9) rfl dX11_fault_32 ?_
    exact W.iret (v := (cx_r_lastFault S)) hx hb hr (fun t ht hW => ⟨⟨(cx_r_lastFault S), S, rfl, hw, by rw [ht]; exact hP, va_K.moved hW.alike hK, hD⟩, hS.F ht⟩) hS.2.2 dX11_fault_35
  obtain ⟨hc_2, hw⟩ := hw
  by_cases c_2 : p1 = 1
  · have hw := hc_2 c_2
    refine lv_lookup (off := 35) (tgt := 36) hx hb dX11_fault_1 (by decide) (by rw [c_2]; decide) (by decide) ?_
    refine lv_aload_n hx hb dX11_fault_36 rfl (lv_at hl 0 rfl) ?_
    refine va_get (D := D) (ci := 10) (v := .ref (h 5)) (C := RX11) (T := TX11) (N := 9) hx hb hts hin11 hown hK hP 0 rfl rfl 2 (by decide) w22 (fun _ h9 => h9) rfl dX11_fault_37 ?_
    refine va_get (D := D) (ci := 6) (v := .int (cx_r_lastPlace S)) (C := RX6) (T := TX6) (N := 16) hx hb hts hin6 hown hK hP 5 rfl rfl 2 (by decide) w124 (fun _ h9 => h9) rfl dX11_fault_40 ?_
    exact W.iret (v := (cx_r_lastPlace S)) hx hb hr (fun t ht hW => ⟨⟨(cx_r_lastPlace S), S, rfl, hw, by rw [ht]; exact hP, va_K.moved hW.alike hK, hD⟩, hS.F ht⟩) hS.2.2 dX11_fault_43
  have hw := hw c_1 c_2
  have c_1n := lv_neT c_1 (a := 0) (by decide)
  have c_2n := lv_neT c_2 (a := 1) (by decide)
  refine lv_lookup (off := 43) (tgt := 44) hx hb dX11_fault_1 (by decide) (by simp [Op.lookupswitch.offset, c_1n, Ne.symm c_1n, c_2n, Ne.symm c_2n]) (by decide) ?_
  refine lv_iconst (v := (-1)) hx hb dX11_fault_44 (by decide) ?_
  exact W.iret (v := (-1)) hx hb hr (fun t ht hW => ⟨⟨(-1), S, rfl, hw, by rw [ht]; exact hP, va_K.moved hW.alike hK, hD⟩, hS.F ht⟩) hS.2.2 dX11_fault_45
def wC_X11_by (p1 : Int32) (S : CS) (post : Int32 → CS → Prop) : Prop := wC_X11_within p1 (-1) ((cx_c_textCount S) - 1) S (fun r_1 S_2 => ((r_1 = 0 → post 0 S_2) ∧ (¬ (r_1 = 0) → (∀ S_4 : CS, S_4 = (cx_set_c_ruling S_2 p1) → post 1 S_4))))
set_option maxHeartbeats 4000000 in
set_option maxRecDepth 100000 in
theorem cC_X11_by (l : Launch) (D : va_G) (h : Nat → Nat) (cy : Nat → ClassId) (p1 : Int32) (S : CS) (post : Int32 → CS → Prop) (hw : wC_X11_by p1 S post) : e_Mi clE l yX11_by wsX11_by { frames := 1, cells := 0, slots := 0, locals := 22 } D (tyC cy) (wC h cy) [.ref (h 0), .int p1] S post := by
  intro sz
  refine Met.ofW (cc := cX11_by) (maxL := 2) (ret := (some .boolean)) (by decide) rfl ?_
  intro p e s m args below meth c s₁ B hml hv
  obtain ⟨rfl, hsz, hP, hK, hD0, hs⟩ := hv
  have hx := B.exec
  have hb := B.bytes
  have hr := B.returns
  have hts := atoms_spec (ws := wsX11_by) B.pre
  have hown : s.vm.findClass RX11 = some m.cls := findClass_of_methodNamed B.named
  have hlocks := B.notSynchronized
  subst hsz
  have hD := hD0.self (sz := s.heap.size)
  generalize hAe : va_A (wC h cy S) s.heap.size = A at hD hs ⊢
  have hA : ∀ q : Nat, s.heap.size ≤ q → A q := fun q h => by rw [← hAe]; exact Or.inr h
  have hS : va_S A s.heap s.heap [] := va_S.rf
  have hin11 : ∀ w ∈ wsX110, w ∈ wsX11_by := fun _ h => List.mem_cons_of_mem _ (List.mem_append_left _ (List.mem_append_right _ h))
  have hin0 : ∀ w ∈ wsX00, w ∈ wsX11_by := fun _ h => List.mem_cons_of_mem _ (List.mem_append_right _ h)
  have w10 := hts (.fieldLink RX11 10 "ClownsMourn" "city" "LClownsMourn$City;") (List.mem_of_getElem? (i := 1) rfl)
  have w110 := hts (.fieldLink RX11 110 "ClownsMourn$City" "textCount" "I") (List.mem_of_getElem? (i := 2) rfl)
  have w127 := hts (.fieldLink RX11 127 "ClownsMourn$City" "ruling" "I") (List.mem_of_getElem? (i := 3) rfl)
  have hl := lv_entry ([.ref (h 0), .int p1]) (n := 2) (Nat.le_of_ble_eq_true rfl)
  rw [lg_entry_eq]
  generalize (lg_sl ([.ref (h 0), .int p1]) ++ List.replicate (2 - (lg_sl ([.ref (h 0), .int p1])).length) Slot.unset).toArray = ls at hl ⊢
  have hl : lv_has ls 2 [(0, .ref (h 0)), (1, .int p1)] := hl
  unfold wC_X11_by at hw
  clear hD0
  refine lv_iload_n hx hb dX11_by_0 rfl (lv_at hl 1 rfl) ?_
  refine lv_iconst (v := (-1)) hx hb dX11_by_1 (by decide) ?_
  refine lv_aload_n hx hb dX11_by_2 rfl (lv_at hl 0 rfl) ?_
  refine va_get (D := D) (ci := 10) (v := .ref (h 1)) (C := RX11) (T := TX11) (N := 9) hx hb hts hin11 hown hK hP 0 rfl rfl 0 (by decide) w10 (fun _ h9 => h9) rfl dX11_by_3 ?_
  refine va_get (D := D) (ci := 0) (v := .int (cx_c_textCount S)) (C := RX0) (T := TX0) (N := 16) hx hb hts hin0 hown hK hP 1 rfl rfl 7 (by decide) w110 (fun _ h9 => h9) rfl dX11_by_6 ?_
  refine lv_iconst (v := 1) hx hb dX11_by_9 (by decide) ?_
  refine lv_isub hx hb dX11_by_10 ?_
  refine e_callSi (As := [.int p1, .int (-1), .int ((cx_c_textCount S) - 1)]) (rest := []) clE_stable hs ⟨hx, hb, hml, hown, hts⟩ (cC_X11_within l D h cy _ _ _ _ _ hw) (va_cwS 3 hts gX11_by_X11_within rfl rfl rfl (by decide +kernel) ⟨Nat.le_of_ble_eq_true rfl, Nat.le_of_ble_eq_true rfl⟩) hK hP hD hS hA rfl hl.1 rfl (Nat.le_of_ble_eq_true rfl) dX11_by_11 ⟨Nat.zero_le _, Nat.zero_le _⟩ (fun r_1 S_2 H locs hw hP hD hS => ?_)
  obtain ⟨hc_3t, hc_3f⟩ := hw
  refine lv_if_ne (tgt := 19) hx hb dX11_by_14 (by decide) (fun c_3 => ?_) (fun c_3 => ?_)
  · have hw := hc_3f c_3
    clear hc_3t hc_3f
    refine lv_aload_n hx hb dX11_by_19 rfl (lv_at hl 0 rfl) ?_
    refine va_get (D := D) (ci := 10) (v := .ref (h 1)) (C := RX11) (T := TX11) (N := 9) hx hb hts hin11 hown hK hP 0 rfl rfl 0 (by decide) w10 (fun _ h9 => h9) rfl dX11_by_20 ?_
    refine lv_iload_n hx hb dX11_by_23 rfl (lv_at hl 1 rfl) ?_
    refine va_put (D := D) (ci := 0) (v := .int p1) (ty := .int) (C := RX0) (T := TX0) (N := 16) hx hb hts hin0 tyX0 tyX0_ok nmX0 hown hK hP hD hS 1 rfl rfl 8 (by decide) w127 (fun _ h9 => h9) rfl (tyX0_ok 8 (by decide)) rfl rfl (Nat.le_of_ble_eq_true rfl) dX11_by_24 (fun H locs hP hD hS => ?_)
    obtain ⟨S_4, eS_4⟩ : ∃ z : CS, z = (cx_set_c_ruling S_2 p1) := ⟨_, rfl⟩
    replace hw := hw S_4 eS_4
    have hP : va_P D vwCl (wC h cy S_4) H := by rw [eS_4, ← wCp_c_ruling]; exact hP
    have hD : va_D A (wC h cy S_4) := by rw [eS_4, ← wCp_c_ruling]; exact hD
    refine lv_iconst (v := 1) hx hb dX11_by_27 (by decide) ?_
    exact W.zret (v := 1) hx hb hr (by decide +kernel) (fun t ht hW => ⟨⟨1, S_4, rfl, hw, by rw [ht]; exact hP, va_K.moved hW.alike hK, hD⟩, hS.F ht⟩) hS.2.2 dX11_by_28
  · have hw := hc_3t c_3
    clear hc_3t hc_3f
    refine lv_iconst (v := 0) hx hb dX11_by_17 (by decide) ?_
    exact W.zret (v := 0) hx hb hr (by decide +kernel) (fun t ht hW => ⟨⟨0, S_2, rfl, hw, by rw [ht]; exact hP, va_K.moved hW.alike hK, hD⟩, hS.F ht⟩) hS.2.2 dX11_by_18
def wC_X0_hasClown (p1 : Int32) (S : CS) (post : Int32 → CS → Prop) : Prop := ((p1 < 0 → post 0 S) ∧ (¬ (p1 < 0) → (((k_at 74 (cx_c_now S) 73) ≤ p1 → post 0 S) ∧ (¬ ((k_at 74 (cx_c_now S) 73) ≤ p1) → post 1 S))))
set_option maxHeartbeats 4000000 in
set_option maxRecDepth 100000 in
theorem cC_X0_hasClown (l : Launch) (D : va_G) (h : Nat → Nat) (cy : Nat → ClassId) (p1 : Int32) (S : CS) (post : Int32 → CS → Prop) (hw : wC_X0_hasClown p1 S post) : e_Mi clE l yX0_hasClown wsX0_hasClown { frames := 1, cells := 0, slots := 0, locals := 21 } D (tyC cy) (wC h cy) [.ref (h 1), .int p1] S post := by
  intro sz
  refine Met.ofW (cc := cX0_hasClown) (maxL := 2) (ret := (some .boolean)) (by decide) rfl ?_
  intro p e s m args below meth c s₁ B hml hv
  obtain ⟨rfl, hsz, hP, hK, hD0, hs⟩ := hv
  have hx := B.exec
  have hb := B.bytes
  have hr := B.returns
  have hts := atoms_spec (ws := wsX0_hasClown) B.pre
  have hown : s.vm.findClass RX0 = some m.cls := findClass_of_methodNamed B.named
  have hlocks := B.notSynchronized
  subst hsz
  have hD := hD0.self (sz := s.heap.size)
  generalize hAe : va_A (wC h cy S) s.heap.size = A at hD hs ⊢
  have hA : ∀ q : Nat, s.heap.size ≤ q → A q := fun q h => by rw [← hAe]; exact Or.inr h
  have hS : va_S A s.heap s.heap [] := va_S.rf
  have hin0 : ∀ w ∈ wsX00, w ∈ wsX0_hasClown := fun _ h => List.mem_cons_of_mem _ (List.mem_append_right _ h)
  have w11 := hts (.fieldLink RX0 11 "ClownsMourn$City" "now" "[I") (List.mem_of_getElem? (i := 1) rfl)
  have wiX11 := hts (.initialized RX11) (List.mem_of_getElem? (i := 3) rfl)
  have wstat := hts (.static yX11_at) (List.mem_of_getElem? (i := 2) rfl)
  have hl := lv_entry ([.ref (h 1), .int p1]) (n := 2) (Nat.le_of_ble_eq_true rfl)
  rw [lg_entry_eq]
  generalize (lg_sl ([.ref (h 1), .int p1]) ++ List.replicate (2 - (lg_sl ([.ref (h 1), .int p1])).length) Slot.unset).toArray = ls at hl ⊢
  have hl : lv_has ls 2 [(0, .ref (h 1)), (1, .int p1)] := hl
  unfold wC_X0_hasClown at hw
  clear hD0
  refine lv_iload_n hx hb dX0_hasClown_0 rfl (lv_at hl 1 rfl) ?_
  obtain ⟨hc_1t, hc_1f⟩ := hw
  refine lv_if_lt (tgt := 21) hx hb dX0_hasClown_1 (by decide) (fun c_1 => ?_) (fun c_1 => ?_)
  · have hw := hc_1t c_1
    clear hc_1t hc_1f
    refine lv_iconst (v := 0) hx hb dX0_hasClown_21 (by decide) ?_
    exact W.zret (v := 0) hx hb hr (by decide +kernel) (fun t ht hW => ⟨⟨0, S, rfl, hw, by rw [ht]; exact hP, va_K.moved hW.alike hK, hD⟩, hS.F ht⟩) hS.2.2 dX0_hasClown_22
  · have hw := hc_1f c_1
    clear hc_1t hc_1f
    refine lv_iload_n hx hb dX0_hasClown_4 rfl (lv_at hl 1 rfl) ?_
    refine lv_aload_n hx hb dX0_hasClown_5 rfl (lv_at hl 0 rfl) ?_
    refine va_get (D := D) (ci := 0) (v := .ref (h 12)) (C := RX0) (T := TX0) (N := 16) hx hb hts hin0 hown hK hP 1 rfl rfl 0 (by decide) w11 (fun _ h9 => h9) rfl dX0_hasClown_6 ?_
    refine lv_bipush (v := 73) hx hb dX0_hasClown_9 (by decide) ?_
    refine e_callNi (As := [.ref (h 12), .int 73]) (rest := [.int p1]) clE_stable hs ⟨hx, hb, hml, hown, hts⟩ (cA_at l D clE (tyC cy) (wC h cy) S 12 0 _ _ 74 (cx_c_now S) rfl rfl (by decide) _ (fun r S0 => r = k_at 74 (cx_c_now S) 73 ∧ S = S0) ⟨rfl, rfl⟩) ⟨va_cnB 2 hts gX0_hasClown_X11_at_n86 rfl rfl rfl hs.1.2.2.2.2.2.2.1 wiX11 (by decide +kernel) ⟨Nat.le_of_ble_eq_true rfl, Nat.le_of_ble_eq_true rfl⟩, wstat, trivial⟩ hK hP hD hS hA rfl hl.1 rfl (Nat.le_of_ble_eq_true rfl) dX0_hasClown_11 ⟨Nat.zero_le _, Nat.zero_le _⟩ (fun r_ S_ H locs hq hP hD hS => ?_)
    obtain ⟨rfl, rfl⟩ := hq
    obtain ⟨hc_2t, hc_2f⟩ := hw
    refine lv_icmp_ge (tgt := 21) hx hb dX0_hasClown_14 (by decide) (fun c_2 => ?_) (fun c_2 => ?_)
    · have hw := hc_2t c_2
      clear hc_2t hc_2f
      refine lv_iconst (v := 0) hx hb dX0_hasClown_21 (by decide) ?_
      exact W.zret (v := 0) hx hb hr (by decide +kernel) (fun t ht hW => ⟨⟨0, S, rfl, hw, by rw [ht]; exact hP, va_K.moved hW.alike hK, hD⟩, hS.F ht⟩) hS.2.2 dX0_hasClown_22
    · have hw := hc_2f c_2
      clear hc_2t hc_2f
      refine lv_iconst (v := 1) hx hb dX0_hasClown_17 (by decide) ?_
      refine lv_goto (tgt := 22) hx hb dX0_hasClown_18 (by decide) ?_
      exact W.zret (v := 1) hx hb hr (by decide +kernel) (fun t ht hW => ⟨⟨1, S, rfl, hw, by rw [ht]; exact hP, va_K.moved hW.alike hK, hD⟩, hS.F ht⟩) hS.2.2 dX0_hasClown_22
def wC_X0_hasHouse (p1 : Int32) (S : CS) (post : Int32 → CS → Prop) : Prop := ((p1 < 0 → post 0 S) ∧ (¬ (p1 < 0) → (((k_at 74 (cx_c_now S) 72) ≤ p1 → post 0 S) ∧ (¬ ((k_at 74 (cx_c_now S) 72) ≤ p1) → post 1 S))))
set_option maxHeartbeats 4000000 in
set_option maxRecDepth 100000 in
theorem cC_X0_hasHouse (l : Launch) (D : va_G) (h : Nat → Nat) (cy : Nat → ClassId) (p1 : Int32) (S : CS) (post : Int32 → CS → Prop) (hw : wC_X0_hasHouse p1 S post) : e_Mi clE l yX0_hasHouse wsX0_hasHouse { frames := 1, cells := 0, slots := 0, locals := 21 } D (tyC cy) (wC h cy) [.ref (h 1), .int p1] S post := by
  intro sz
  refine Met.ofW (cc := cX0_hasHouse) (maxL := 2) (ret := (some .boolean)) (by decide) rfl ?_
  intro p e s m args below meth c s₁ B hml hv
  obtain ⟨rfl, hsz, hP, hK, hD0, hs⟩ := hv
  have hx := B.exec
  have hb := B.bytes
  have hr := B.returns
  have hts := atoms_spec (ws := wsX0_hasHouse) B.pre
  have hown : s.vm.findClass RX0 = some m.cls := findClass_of_methodNamed B.named
  have hlocks := B.notSynchronized
  subst hsz
  have hD := hD0.self (sz := s.heap.size)
  generalize hAe : va_A (wC h cy S) s.heap.size = A at hD hs ⊢
  have hA : ∀ q : Nat, s.heap.size ≤ q → A q := fun q h => by rw [← hAe]; exact Or.inr h
  have hS : va_S A s.heap s.heap [] := va_S.rf
  have hin0 : ∀ w ∈ wsX00, w ∈ wsX0_hasHouse := fun _ h => List.mem_cons_of_mem _ (List.mem_append_right _ h)
  have w11 := hts (.fieldLink RX0 11 "ClownsMourn$City" "now" "[I") (List.mem_of_getElem? (i := 1) rfl)
  have wiX11 := hts (.initialized RX11) (List.mem_of_getElem? (i := 3) rfl)
  have wstat := hts (.static yX11_at) (List.mem_of_getElem? (i := 2) rfl)
  have hl := lv_entry ([.ref (h 1), .int p1]) (n := 2) (Nat.le_of_ble_eq_true rfl)
  rw [lg_entry_eq]
  generalize (lg_sl ([.ref (h 1), .int p1]) ++ List.replicate (2 - (lg_sl ([.ref (h 1), .int p1])).length) Slot.unset).toArray = ls at hl ⊢
  have hl : lv_has ls 2 [(0, .ref (h 1)), (1, .int p1)] := hl
  unfold wC_X0_hasHouse at hw
  clear hD0
  refine lv_iload_n hx hb dX0_hasHouse_0 rfl (lv_at hl 1 rfl) ?_
  obtain ⟨hc_1t, hc_1f⟩ := hw
  refine lv_if_lt (tgt := 21) hx hb dX0_hasHouse_1 (by decide) (fun c_1 => ?_) (fun c_1 => ?_)
  · have hw := hc_1t c_1
    clear hc_1t hc_1f
    refine lv_iconst (v := 0) hx hb dX0_hasHouse_21 (by decide) ?_
    exact W.zret (v := 0) hx hb hr (by decide +kernel) (fun t ht hW => ⟨⟨0, S, rfl, hw, by rw [ht]; exact hP, va_K.moved hW.alike hK, hD⟩, hS.F ht⟩) hS.2.2 dX0_hasHouse_22
  · have hw := hc_1f c_1
    clear hc_1t hc_1f
    refine lv_iload_n hx hb dX0_hasHouse_4 rfl (lv_at hl 1 rfl) ?_
    refine lv_aload_n hx hb dX0_hasHouse_5 rfl (lv_at hl 0 rfl) ?_
    refine va_get (D := D) (ci := 0) (v := .ref (h 12)) (C := RX0) (T := TX0) (N := 16) hx hb hts hin0 hown hK hP 1 rfl rfl 0 (by decide) w11 (fun _ h9 => h9) rfl dX0_hasHouse_6 ?_
    refine lv_bipush (v := 72) hx hb dX0_hasHouse_9 (by decide) ?_
    refine e_callNi (As := [.ref (h 12), .int 72]) (rest := [.int p1]) clE_stable hs ⟨hx, hb, hml, hown, hts⟩ (cA_at l D clE (tyC cy) (wC h cy) S 12 0 _ _ 74 (cx_c_now S) rfl rfl (by decide) _ (fun r S0 => r = k_at 74 (cx_c_now S) 72 ∧ S = S0) ⟨rfl, rfl⟩) ⟨va_cnB 2 hts gX0_hasHouse_X11_at_n86 rfl rfl rfl hs.1.2.2.2.2.2.2.1 wiX11 (by decide +kernel) ⟨Nat.le_of_ble_eq_true rfl, Nat.le_of_ble_eq_true rfl⟩, wstat, trivial⟩ hK hP hD hS hA rfl hl.1 rfl (Nat.le_of_ble_eq_true rfl) dX0_hasHouse_11 ⟨Nat.zero_le _, Nat.zero_le _⟩ (fun r_ S_ H locs hq hP hD hS => ?_)
    obtain ⟨rfl, rfl⟩ := hq
    obtain ⟨hc_2t, hc_2f⟩ := hw
    refine lv_icmp_ge (tgt := 21) hx hb dX0_hasHouse_14 (by decide) (fun c_2 => ?_) (fun c_2 => ?_)
    · have hw := hc_2t c_2
      clear hc_2t hc_2f
      refine lv_iconst (v := 0) hx hb dX0_hasHouse_21 (by decide) ?_
      exact W.zret (v := 0) hx hb hr (by decide +kernel) (fun t ht hW => ⟨⟨0, S, rfl, hw, by rw [ht]; exact hP, va_K.moved hW.alike hK, hD⟩, hS.F ht⟩) hS.2.2 dX0_hasHouse_22
    · have hw := hc_2f c_2
      clear hc_2t hc_2f
      refine lv_iconst (v := 1) hx hb dX0_hasHouse_17 (by decide) ?_
      refine lv_goto (tgt := 22) hx hb dX0_hasHouse_18 (by decide) ?_
      exact W.zret (v := 1) hx hb hr (by decide +kernel) (fun t ht hW => ⟨⟨1, S, rfl, hw, by rw [ht]; exact hP, va_K.moved hW.alike hK, hD⟩, hS.F ht⟩) hS.2.2 dX0_hasHouse_22
def wC_X0_see (p1 : Int32) (p2 : Int32) (S : CS) (post : Int32 → CS → Prop) : Prop := post (k_at 74 (cx_c_now S) (p1 + p2)) S
set_option maxHeartbeats 4000000 in
set_option maxRecDepth 100000 in
theorem cC_X0_see (l : Launch) (D : va_G) (h : Nat → Nat) (cy : Nat → ClassId) (p1 : Int32) (p2 : Int32) (S : CS) (post : Int32 → CS → Prop) (hw : wC_X0_see p1 p2 S post) : e_Mi clE l yX0_see wsX0_see { frames := 1, cells := 0, slots := 0, locals := 21 } D (tyC cy) (wC h cy) [.ref (h 1), .int p1, .int p2] S post := by
  intro sz
  refine Met.ofW (cc := cX0_see) (maxL := 3) (ret := (some .int)) (by decide) rfl ?_
  intro p e s m args below meth c s₁ B hml hv
  obtain ⟨rfl, hsz, hP, hK, hD0, hs⟩ := hv
  have hx := B.exec
  have hb := B.bytes
  have hr := B.returns
  have hts := atoms_spec (ws := wsX0_see) B.pre
  have hown : s.vm.findClass RX0 = some m.cls := findClass_of_methodNamed B.named
  have hlocks := B.notSynchronized
  subst hsz
  have hD := hD0.self (sz := s.heap.size)
  generalize hAe : va_A (wC h cy S) s.heap.size = A at hD hs ⊢
  have hA : ∀ q : Nat, s.heap.size ≤ q → A q := fun q h => by rw [← hAe]; exact Or.inr h
  have hS : va_S A s.heap s.heap [] := va_S.rf
  have hin0 : ∀ w ∈ wsX00, w ∈ wsX0_see := fun _ h => List.mem_cons_of_mem _ (List.mem_append_right _ h)
  have w11 := hts (.fieldLink RX0 11 "ClownsMourn$City" "now" "[I") (List.mem_of_getElem? (i := 1) rfl)
  have wiX11 := hts (.initialized RX11) (List.mem_of_getElem? (i := 3) rfl)
  have wstat := hts (.static yX11_at) (List.mem_of_getElem? (i := 2) rfl)
  have hl := lv_entry ([.ref (h 1), .int p1, .int p2]) (n := 3) (Nat.le_of_ble_eq_true rfl)
  rw [lg_entry_eq]
  generalize (lg_sl ([.ref (h 1), .int p1, .int p2]) ++ List.replicate (3 - (lg_sl ([.ref (h 1), .int p1, .int p2])).length) Slot.unset).toArray = ls at hl ⊢
  have hl : lv_has ls 3 [(0, .ref (h 1)), (1, .int p1), (2, .int p2)] := hl
  unfold wC_X0_see at hw
  clear hD0
  refine lv_aload_n hx hb dX0_see_0 rfl (lv_at hl 0 rfl) ?_
  refine va_get (D := D) (ci := 0) (v := .ref (h 12)) (C := RX0) (T := TX0) (N := 16) hx hb hts hin0 hown hK hP 1 rfl rfl 0 (by decide) w11 (fun _ h9 => h9) rfl dX0_see_1 ?_
  refine lv_iload_n hx hb dX0_see_4 rfl (lv_at hl 1 rfl) ?_
  refine lv_iload_n hx hb dX0_see_5 rfl (lv_at hl 2 rfl) ?_
  refine lv_iadd hx hb dX0_see_6 ?_
  refine e_callNi (As := [.ref (h 12), .int (p1 + p2)]) (rest := []) clE_stable hs ⟨hx, hb, hml, hown, hts⟩ (cA_at l D clE (tyC cy) (wC h cy) S 12 0 _ _ 74 (cx_c_now S) rfl rfl (by decide) _ (fun r S0 => r = k_at 74 (cx_c_now S) (p1 + p2) ∧ S = S0) ⟨rfl, rfl⟩) ⟨va_cnB 2 hts gX0_see_X11_at_n86 rfl rfl rfl hs.1.2.2.2.2.2.2.1 wiX11 (by decide +kernel) ⟨Nat.le_of_ble_eq_true rfl, Nat.le_of_ble_eq_true rfl⟩, wstat, trivial⟩ hK hP hD hS hA rfl hl.1 rfl (Nat.le_of_ble_eq_true rfl) dX0_see_7 ⟨Nat.zero_le _, Nat.zero_le _⟩ (fun r_ S_ H locs hq hP hD hS => ?_)
  obtain ⟨rfl, rfl⟩ := hq
  exact W.iret (v := k_at 74 (cx_c_now S) (p1 + p2)) hx hb hr (fun t ht hW => ⟨⟨k_at 74 (cx_c_now S) (p1 + p2), S, rfl, hw, by rw [ht]; exact hP, va_K.moved hW.alike hK, hD⟩, hS.F ht⟩) hS.2.2 dX0_see_10
def wC_X2_canGo (p1 : Int32) (p2 : Int32) (S : CS) (post : Int32 → CS → Prop) : Prop := wC_X0_hasClown p1 S (fun r_1 S_2 => ((r_1 = 0 → post 0 S_2) ∧ (¬ (r_1 = 0) → wC_X0_hasHouse p2 S_2 (fun r_4 S_5 => ((r_4 = 0 → post 0 S_5) ∧ (¬ (r_4 = 0) → wC_X0_see 29 p1 S_5 (fun r_7 S_8 => ((r_7 = p2 → post 0 S_8) ∧ (¬ (r_7 = p2) → post 1 S_8)))))))))
set_option maxHeartbeats 4000000 in
set_option maxRecDepth 100000 in
theorem cC_X2_canGo (l : Launch) (D : va_G) (h : Nat → Nat) (cy : Nat → ClassId) (p1 : Int32) (p2 : Int32) (S : CS) (post : Int32 → CS → Prop) (hw : wC_X2_canGo p1 p2 S post) : e_Mi clE l yX2_canGo wsX2_canGo { frames := 2, cells := 0, slots := 0, locals := 43 } D (tyC cy) (wC h cy) [.ref (h 7), .int p1, .int p2] S post := by
  intro sz
  refine Met.ofW (cc := cX2_canGo) (maxL := 3) (ret := (some .boolean)) (by decide) rfl ?_
  intro p e s m args below meth c s₁ B hml hv
  obtain ⟨rfl, hsz, hP, hK, hD0, hs⟩ := hv
  have hx := B.exec
  have hb := B.bytes
  have hr := B.returns
  have hts := atoms_spec (ws := wsX2_canGo) B.pre
  have hown : s.vm.findClass RX2 = some m.cls := findClass_of_methodNamed B.named
  have hlocks := B.notSynchronized
  subst hsz
  have hD := hD0.self (sz := s.heap.size)
  generalize hAe : va_A (wC h cy S) s.heap.size = A at hD hs ⊢
  have hA : ∀ q : Nat, s.heap.size ≤ q → A q := fun q h => by rw [← hAe]; exact Or.inr h
  have hS : va_S A s.heap s.heap [] := va_S.rf
  have hin2 : ∀ w ∈ wsX20, w ∈ wsX2_canGo := fun _ h => List.mem_cons_of_mem _ (List.mem_append_left _ (List.mem_append_right _ h))
  have hin0 : ∀ w ∈ wsX00, w ∈ wsX2_canGo := fun _ h => List.mem_cons_of_mem _ (List.mem_append_right _ h)
  have w17 := hts (.fieldLink RX2 17 "ClownsMourn$Guild" "city" "LClownsMourn$City;") (List.mem_of_getElem? (i := 1) rfl)
  have hl := lv_entry ([.ref (h 7), .int p1, .int p2]) (n := 3) (Nat.le_of_ble_eq_true rfl)
  rw [lg_entry_eq]
  generalize (lg_sl ([.ref (h 7), .int p1, .int p2]) ++ List.replicate (3 - (lg_sl ([.ref (h 7), .int p1, .int p2])).length) Slot.unset).toArray = ls at hl ⊢
  have hl : lv_has ls 3 [(0, .ref (h 7)), (1, .int p1), (2, .int p2)] := hl
  unfold wC_X2_canGo at hw
  clear hD0
  refine lv_aload_n hx hb dX2_canGo_0 rfl (lv_at hl 0 rfl) ?_
  refine va_get (D := D) (ci := 2) (v := .ref (h 1)) (C := RX2) (T := TX2) (N := 3) hx hb hts hin2 hown hK hP 7 rfl rfl 0 (by decide) w17 (fun _ h9 => h9) rfl dX2_canGo_1 ?_
  refine lv_iload_n hx hb dX2_canGo_4 rfl (lv_at hl 1 rfl) ?_
  refine e_callVi (As := [.int p1]) (rest := []) clE_stable hs ⟨hx, hb, hml, hown, hts⟩ (cC_X0_hasClown l D h cy _ _ _ hw) (cwV 1 hts gX2_canGo_X0_hasClown rfl rfl rfl (by decide +kernel) ⟨Nat.le_of_ble_eq_true rfl, Nat.le_of_ble_eq_true rfl⟩) (va_recv hK hP (ci := 0) (q0 := 1) rfl rfl) hK hP hD hS hA rfl hl.1 rfl (Nat.le_of_ble_eq_true rfl) dX2_canGo_5 ⟨Nat.zero_le _, Nat.zero_le _⟩ (fun r_1 S_2 H locs hw hP hD hS => ?_)
  obtain ⟨hc_3t, hc_3f⟩ := hw
  refine lv_if_eq (tgt := 40) hx hb dX2_canGo_8 (by decide) (fun c_3 => ?_) (fun c_3 => ?_)
  · have hw := hc_3t c_3
    clear hc_3t hc_3f
    refine lv_iconst (v := 0) hx hb dX2_canGo_40 (by decide) ?_
    exact W.zret (v := 0) hx hb hr (by decide +kernel) (fun t ht hW => ⟨⟨0, S_2, rfl, hw, by rw [ht]; exact hP, va_K.moved hW.alike hK, hD⟩, hS.F ht⟩) hS.2.2 dX2_canGo_41
  · have hw := hc_3f c_3
    clear hc_3t hc_3f
    refine lv_aload_n hx hb dX2_canGo_11 rfl (lv_at hl 0 rfl) ?_
    refine va_get (D := D) (ci := 2) (v := .ref (h 1)) (C := RX2) (T := TX2) (N := 3) hx hb hts hin2 hown hK hP 7 rfl rfl 0 (by decide) w17 (fun _ h9 => h9) rfl dX2_canGo_12 ?_
    refine lv_iload_n hx hb dX2_canGo_15 rfl (lv_at hl 2 rfl) ?_
    refine e_callVi (As := [.int p2]) (rest := []) clE_stable hs ⟨hx, hb, hml, hown, hts⟩ (cC_X0_hasHouse l D h cy _ _ _ hw) (cwV 1 hts gX2_canGo_X0_hasHouse rfl rfl rfl (by decide +kernel) ⟨Nat.le_of_ble_eq_true rfl, Nat.le_of_ble_eq_true rfl⟩) (va_recv hK hP (ci := 0) (q0 := 1) rfl rfl) hK hP hD hS hA rfl hl.1 rfl (Nat.le_of_ble_eq_true rfl) dX2_canGo_16 ⟨Nat.zero_le _, Nat.zero_le _⟩ (fun r_4 S_5 H locs hw hP hD hS => ?_)
    obtain ⟨hc_6t, hc_6f⟩ := hw
    refine lv_if_eq (tgt := 40) hx hb dX2_canGo_19 (by decide) (fun c_6 => ?_) (fun c_6 => ?_)
    · have hw := hc_6t c_6
      clear hc_6t hc_6f
      refine lv_iconst (v := 0) hx hb dX2_canGo_40 (by decide) ?_
      exact W.zret (v := 0) hx hb hr (by decide +kernel) (fun t ht hW => ⟨⟨0, S_5, rfl, hw, by rw [ht]; exact hP, va_K.moved hW.alike hK, hD⟩, hS.F ht⟩) hS.2.2 dX2_canGo_41
    · have hw := hc_6f c_6
      clear hc_6t hc_6f
      refine lv_aload_n hx hb dX2_canGo_22 rfl (lv_at hl 0 rfl) ?_
      refine va_get (D := D) (ci := 2) (v := .ref (h 1)) (C := RX2) (T := TX2) (N := 3) hx hb hts hin2 hown hK hP 7 rfl rfl 0 (by decide) w17 (fun _ h9 => h9) rfl dX2_canGo_23 ?_
      refine lv_bipush (v := 29) hx hb dX2_canGo_26 (by decide) ?_
      refine lv_iload_n hx hb dX2_canGo_28 rfl (lv_at hl 1 rfl) ?_
      refine e_callVi (As := [.int 29, .int p1]) (rest := []) clE_stable hs ⟨hx, hb, hml, hown, hts⟩ (cC_X0_see l D h cy _ _ _ _ hw) (cwV 2 hts gX2_canGo_X0_see rfl rfl rfl (by decide +kernel) ⟨Nat.le_of_ble_eq_true rfl, Nat.le_of_ble_eq_true rfl⟩) (va_recv hK hP (ci := 0) (q0 := 1) rfl rfl) hK hP hD hS hA rfl hl.1 rfl (Nat.le_of_ble_eq_true rfl) dX2_canGo_29 ⟨Nat.zero_le _, Nat.zero_le _⟩ (fun r_7 S_8 H locs hw hP hD hS => ?_)
      refine lv_iload_n hx hb dX2_canGo_32 rfl (lv_at hl 2 rfl) ?_
      obtain ⟨hc_9t, hc_9f⟩ := hw
      refine lv_icmp_eq (tgt := 40) hx hb dX2_canGo_33 (by decide) (fun c_9 => ?_) (fun c_9 => ?_)
      · have hw := hc_9t c_9
        clear hc_9t hc_9f
        refine lv_iconst (v := 0) hx hb dX2_canGo_40 (by decide) ?_
        exact W.zret (v := 0) hx hb hr (by decide +kernel) (fun t ht hW => ⟨⟨0, S_8, rfl, hw, by rw [ht]; exact hP, va_K.moved hW.alike hK, hD⟩, hS.F ht⟩) hS.2.2 dX2_canGo_41
      · have hw := hc_9f c_9
        clear hc_9t hc_9f
        refine lv_iconst (v := 1) hx hb dX2_canGo_36 (by decide) ?_
        refine lv_goto (tgt := 41) hx hb dX2_canGo_37 (by decide) ?_
        exact W.zret (v := 1) hx hb hr (by decide +kernel) (fun t ht hW => ⟨⟨1, S_8, rfl, hw, by rw [ht]; exact hP, va_K.moved hW.alike hK, hD⟩, hS.F ht⟩) hS.2.2 dX2_canGo_41
def wC_X8_startOf (p1 : Int32) (S : CS) (post : Int32 → CS → Prop) : Prop := post ((k_rem ((cx_cs_first S) + p1) 30) * 74) S
set_option maxHeartbeats 4000000 in
set_option maxRecDepth 100000 in
theorem cC_X8_startOf (l : Launch) (D : va_G) (h : Nat → Nat) (cy : Nat → ClassId) (p1 : Int32) (S : CS) (post : Int32 → CS → Prop) (hw : wC_X8_startOf p1 S post) : e_Mi clE l yX8_startOf wsX8_startOf { frames := 0, cells := 0, slots := 0, locals := 0 } D (tyC cy) (wC h cy) [.ref (h 2), .int p1] S post := by
  intro sz
  refine Met.ofW (cc := cX8_startOf) (maxL := 2) (ret := (some .int)) (by decide) rfl ?_
  intro p e s m args below meth c s₁ B hml hv
  obtain ⟨rfl, hsz, hP, hK, hD0, hs⟩ := hv
  have hx := B.exec
  have hb := B.bytes
  have hr := B.returns
  have hts := atoms_spec (ws := wsX8_startOf) B.pre
  have hown : s.vm.findClass RX8 = some m.cls := findClass_of_methodNamed B.named
  have hlocks := B.notSynchronized
  subst hsz
  have hD := hD0.self (sz := s.heap.size)
  generalize hAe : va_A (wC h cy S) s.heap.size = A at hD hs ⊢
  have hA : ∀ q : Nat, s.heap.size ≤ q → A q := fun q h => by rw [← hAe]; exact Or.inr h
  have hS : va_S A s.heap s.heap [] := va_S.rf
  have hin8 : ∀ w ∈ wsX80, w ∈ wsX8_startOf := fun _ h => List.mem_cons_of_mem _ (List.mem_append_right _ h)
  have w15 := hts (.fieldLink RX8 15 "ClownsMourn$Steps" "first" "I") (List.mem_of_getElem? (i := 1) rfl)
  have hl := lv_entry ([.ref (h 2), .int p1]) (n := 2) (Nat.le_of_ble_eq_true rfl)
  rw [lg_entry_eq]
  generalize (lg_sl ([.ref (h 2), .int p1]) ++ List.replicate (2 - (lg_sl ([.ref (h 2), .int p1])).length) Slot.unset).toArray = ls at hl ⊢
  have hl : lv_has ls 2 [(0, .ref (h 2)), (1, .int p1)] := hl
  unfold wC_X8_startOf at hw
  clear hD0
  refine lv_aload_n hx hb dX8_startOf_0 rfl (lv_at hl 0 rfl) ?_
  refine va_get (D := D) (ci := 8) (v := .int (cx_cs_first S)) (C := RX8) (T := TX8) (N := 3) hx hb hts hin8 hown hK hP 2 rfl rfl 1 (by decide) w15 (fun _ h9 => h9) rfl dX8_startOf_1 ?_
  refine lv_iload_n hx hb dX8_startOf_4 rfl (lv_at hl 1 rfl) ?_
  refine lv_iadd hx hb dX8_startOf_5 ?_
  refine lv_bipush (v := 30) hx hb dX8_startOf_6 (by decide) ?_
  refine k_irem hx hb dX8_startOf_8 (by decide) ?_
  refine lv_bipush (v := 74) hx hb dX8_startOf_9 (by decide) ?_
  refine lv_imul hx hb dX8_startOf_11 ?_
  exact W.iret (v := (k_rem ((cx_cs_first S) + p1) 30) * 74) hx hb hr (fun t ht hW => ⟨⟨(k_rem ((cx_cs_first S) + p1) 30) * 74, S, rfl, hw, by rw [ht]; exact hP, va_K.moved hW.alike hK, hD⟩, hS.F ht⟩) hS.2.2 dX8_startOf_12
def wC_X8_keepRow_city_now_28 (post : CS → Prop) (S : CS) : Prop := wC_X8_startOf (cx_cs_count S) S (fun r_1 S_2 => (∀ S_3 : CS, S_3 = (cx_set_cs_rows S_2 (k_copyP 74 2220 (cx_c_now S_2) 0 (cx_cs_rows S_2) r_1 74)) → (∀ S_4 : CS, S_4 = (cx_set_cs_count S_3 ((cx_cs_count S_3) + 1)) → post S_4)))
def wC_X8_keepRow_city_now (S : CS) (post : CS → Prop) : Prop := (((cx_cs_count S) < 30 → wC_X8_keepRow_city_now_28 post S) ∧ (¬ ((cx_cs_count S) < 30) → (∀ S_2 : CS, S_2 = (cx_set_cs_first S (k_rem ((cx_cs_first S) + 1) 30)) → (∀ S_3 : CS, S_3 = (cx_set_cs_count S_2 29) → wC_X8_keepRow_city_now_28 post S_3))))
set_option maxHeartbeats 4000000 in
set_option maxRecDepth 100000 in
theorem cC_X8_keepRow_city_now (l : Launch) (D : va_G) (h : Nat → Nat) (cy : Nat → ClassId) (S : CS) (post : CS → Prop) (hw : wC_X8_keepRow_city_now S post) : e_Mv clE l yX8_keepRow wsX8_keepRow { frames := 2, cells := 0, slots := 0, locals := 84 } D (tyC cy) (wC h cy) [.ref (h 2), .ref (h 12)] S post := by
  intro sz
  refine Met.ofW (cc := cX8_keepRow) (maxL := 2) (ret := none) (by decide) rfl ?_
  intro p e s m args below meth c s₁ B hml hv
  obtain ⟨rfl, hsz, hP, hK, hD0, hs⟩ := hv
  have hx := B.exec
  have hb := B.bytes
  have hr := B.returns
  have hts := atoms_spec (ws := wsX8_keepRow) B.pre
  have hown : s.vm.findClass RX8 = some m.cls := findClass_of_methodNamed B.named
  have hlocks := B.notSynchronized
  subst hsz
  have hD := hD0.self (sz := s.heap.size)
  generalize hAe : va_A (wC h cy S) s.heap.size = A at hD hs ⊢
  have hA : ∀ q : Nat, s.heap.size ≤ q → A q := fun q h => by rw [← hAe]; exact Or.inr h
  have hS : va_S A s.heap s.heap [] := va_S.rf
  have hin8 : ∀ w ∈ wsX80, w ∈ wsX8_keepRow := fun _ h => List.mem_cons_of_mem _ (List.mem_append_right _ h)
  have w11 := hts (.fieldLink RX8 11 "ClownsMourn$Steps" "rows" "[I") (List.mem_of_getElem? (i := 3) rfl)
  have w15 := hts (.fieldLink RX8 15 "ClownsMourn$Steps" "first" "I") (List.mem_of_getElem? (i := 2) rfl)
  have w19 := hts (.fieldLink RX8 19 "ClownsMourn$Steps" "count" "I") (List.mem_of_getElem? (i := 1) rfl)
  have wiX11 := hts (.initialized RX11) (List.mem_of_getElem? (i := 10) rfl)
  have wstcopyPart := hts (.static yX11_copyPart) (List.mem_of_getElem? (i := 9) rfl)
  have hl := lv_entry ([.ref (h 2), .ref (h 12)]) (n := 2) (Nat.le_of_ble_eq_true rfl)
  rw [lg_entry_eq]
  generalize (lg_sl ([.ref (h 2), .ref (h 12)]) ++ List.replicate (2 - (lg_sl ([.ref (h 2), .ref (h 12)])).length) Slot.unset).toArray = ls at hl ⊢
  have hl : lv_has ls 2 [(0, .ref (h 2)), (1, .ref (h 12))] := hl
  unfold wC_X8_keepRow_city_now at hw
  clear hD0
  have J_28 : ∀ (S : CS) (H : Heap) (locs : List Loc) (ls : Array Slot), wC_X8_keepRow_city_now_28 post S → va_P D vwCl (wC h cy S) H → va_D A (wC h cy S) → va_S A s.heap H locs → lv_has ls 2 [(0, .ref (h 2)), (1, .ref (h 12))] → W p l e (headSpec wsX8_keepRow { frames := 2, cells := 0, slots := 0, locals := 84 }).room s m (([.ref (h 2), .ref (h 12)] : List Value).toArray) below meth c H locs 0 0 (MQ below (va_Qv post (k_Post D (tyC cy) (wC h cy) A) A) (([.ref (h 2), .ref (h 12)] : List Value).toArray) s 0 0 A) (F0 m 28 ls []) := by
    intro S H locs ls hw hP hD hS hl
    unfold wC_X8_keepRow_city_now_28 at hw
    refine lv_aload_n hx hb dX8_keepRow_28 rfl (lv_at hl 1 rfl) ?_
    refine lv_iconst (v := 0) hx hb dX8_keepRow_29 (by decide) ?_
    refine lv_aload_n hx hb dX8_keepRow_30 rfl (lv_at hl 0 rfl) ?_
    refine va_get (D := D) (ci := 8) (v := .ref (h 23)) (C := RX8) (T := TX8) (N := 3) hx hb hts hin8 hown hK hP 2 rfl rfl 0 (by decide) w11 (fun _ h9 => h9) rfl dX8_keepRow_31 ?_
    refine lv_aload_n hx hb dX8_keepRow_34 rfl (lv_at hl 0 rfl) ?_
    refine lv_aload_n hx hb dX8_keepRow_35 rfl (lv_at hl 0 rfl) ?_
    refine va_get (D := D) (ci := 8) (v := .int (cx_cs_count S)) (C := RX8) (T := TX8) (N := 3) hx hb hts hin8 hown hK hP 2 rfl rfl 2 (by decide) w19 (fun _ h9 => h9) rfl dX8_keepRow_36 ?_
    refine e_callVi (As := [.int (cx_cs_count S)]) (rest := [.ref (h 23), .int 0, .ref (h 12)]) clE_stable hs ⟨hx, hb, hml, hown, hts⟩ (cC_X8_startOf l D h cy _ _ _ hw) (cwV 1 hts gX8_keepRow_X8_startOf rfl rfl rfl (by decide +kernel) ⟨Nat.le_of_ble_eq_true rfl, Nat.le_of_ble_eq_true rfl⟩) (va_recv hK hP (ci := 8) (q0 := 2) rfl rfl) hK hP hD hS hA rfl hl.1 rfl (Nat.le_of_ble_eq_true rfl) dX8_keepRow_39 ⟨Nat.zero_le _, Nat.zero_le _⟩ (fun r_1 S_2 H locs hw hP hD hS => ?_)
    refine lv_bipush (v := 74) hx hb dX8_keepRow_42 (by decide) ?_
    refine e_callNv (As := [.ref (h 12), .int 0, .ref (h 23), .int r_1, .int 74]) (rest := []) clE_stable hs ⟨hx, hb, hml, hown, hts⟩ (cA_copyPart l D clE (tyC cy) (wC h cy) S_2 12 0 23 11 _ _ _ _ 74 2220 cx_c_now cx_cs_rows cx_set_cs_rows rfl rfl (wCs_cs_rows h cy S_2) rfl rfl (by decide) (by decide) _ _ _ (fun S0 => S0 = (cx_set_cs_rows S_2 (k_copyP 74 2220 (cx_c_now S_2) 0 (cx_cs_rows S_2) r_1 74))) rfl) ⟨va_cnB 5 hts gX8_keepRow_X11_copyPart_n32 rfl rfl rfl hs.1.2.2.2.2.2.2.2.2.2.2.2.1 wiX11 (by decide +kernel) ⟨Nat.le_of_ble_eq_true rfl, Nat.le_of_ble_eq_true rfl⟩, wstcopyPart, trivial⟩ hK hP hD hS hA rfl hl.1 rfl (Nat.le_of_ble_eq_true rfl) dX8_keepRow_44 ⟨Nat.zero_le _, Nat.zero_le _⟩ (fun S_3 H locs eS_3 hP hD hS => ?_)
    replace hw := hw S_3 eS_3
    refine lv_aload_n hx hb dX8_keepRow_47 rfl (lv_at hl 0 rfl) ?_
    refine lv_dup hx hb dX8_keepRow_48 rfl ?_
    refine va_get (D := D) (ci := 8) (v := .int (cx_cs_count S_3)) (C := RX8) (T := TX8) (N := 3) hx hb hts hin8 hown hK hP 2 rfl rfl 2 (by decide) w19 (fun _ h9 => h9) rfl dX8_keepRow_49 ?_
    refine lv_iconst (v := 1) hx hb dX8_keepRow_52 (by decide) ?_
    refine lv_iadd hx hb dX8_keepRow_53 ?_
    refine va_put (D := D) (ci := 8) (v := .int ((cx_cs_count S_3) + 1)) (ty := .int) (C := RX8) (T := TX8) (N := 3) hx hb hts hin8 tyX8 tyX8_ok nmX8 hown hK hP hD hS 2 rfl rfl 2 (by decide) w19 (fun _ h9 => h9) rfl (tyX8_ok 2 (by decide)) rfl rfl (Nat.le_of_ble_eq_true rfl) dX8_keepRow_54 (fun H locs hP hD hS => ?_)
    obtain ⟨S_4, eS_4⟩ : ∃ z : CS, z = (cx_set_cs_count S_3 ((cx_cs_count S_3) + 1)) := ⟨_, rfl⟩
    replace hw := hw S_4 eS_4
    have hP : va_P D vwCl (wC h cy S_4) H := by rw [eS_4, ← wCp_cs_count]; exact hP
    have hD : va_D A (wC h cy S_4) := by rw [eS_4, ← wCp_cs_count]; exact hD
    exact W.vret hx hb hr (fun t ht hW => ⟨⟨S_4, rfl, hw, by rw [ht]; exact hP, va_K.moved hW.alike hK, hD⟩, hS.F ht⟩) hS.2.2 dX8_keepRow_57
  refine lv_aload_n hx hb dX8_keepRow_0 rfl (lv_at hl 0 rfl) ?_
  refine va_get (D := D) (ci := 8) (v := .int (cx_cs_count S)) (C := RX8) (T := TX8) (N := 3) hx hb hts hin8 hown hK hP 2 rfl rfl 2 (by decide) w19 (fun _ h9 => h9) rfl dX8_keepRow_1 ?_
  refine lv_bipush (v := 30) hx hb dX8_keepRow_4 (by decide) ?_
  obtain ⟨hc_5t, hc_5f⟩ := hw
  refine lv_icmp_lt (tgt := 28) hx hb dX8_keepRow_6 (by decide) (fun c_5 => ?_) (fun c_5 => ?_)
  · have hw := hc_5t c_5
    clear hc_5t hc_5f
    exact J_28 S _ _ _ hw hP hD hS (lv_sub hl [0, 1] rfl)
  · have hw := hc_5f c_5
    clear hc_5t hc_5f
    refine lv_aload_n hx hb dX8_keepRow_9 rfl (lv_at hl 0 rfl) ?_
    refine lv_aload_n hx hb dX8_keepRow_10 rfl (lv_at hl 0 rfl) ?_
    refine va_get (D := D) (ci := 8) (v := .int (cx_cs_first S)) (C := RX8) (T := TX8) (N := 3) hx hb hts hin8 hown hK hP 2 rfl rfl 1 (by decide) w15 (fun _ h9 => h9) rfl dX8_keepRow_11 ?_
    refine lv_iconst (v := 1) hx hb dX8_keepRow_14 (by decide) ?_
    refine lv_iadd hx hb dX8_keepRow_15 ?_
    refine lv_bipush (v := 30) hx hb dX8_keepRow_16 (by decide) ?_
    refine k_irem hx hb dX8_keepRow_18 (by decide) ?_
    refine va_put (D := D) (ci := 8) (v := .int (k_rem ((cx_cs_first S) + 1) 30)) (ty := .int) (C := RX8) (T := TX8) (N := 3) hx hb hts hin8 tyX8 tyX8_ok nmX8 hown hK hP hD hS 2 rfl rfl 1 (by decide) w15 (fun _ h9 => h9) rfl (tyX8_ok 1 (by decide)) rfl rfl (Nat.le_of_ble_eq_true rfl) dX8_keepRow_19 (fun H locs hP hD hS => ?_)
    obtain ⟨S_6, eS_6⟩ : ∃ z : CS, z = (cx_set_cs_first S (k_rem ((cx_cs_first S) + 1) 30)) := ⟨_, rfl⟩
    replace hw := hw S_6 eS_6
    have hP : va_P D vwCl (wC h cy S_6) H := by rw [eS_6, ← wCp_cs_first]; exact hP
    have hD : va_D A (wC h cy S_6) := by rw [eS_6, ← wCp_cs_first]; exact hD
    refine lv_aload_n hx hb dX8_keepRow_22 rfl (lv_at hl 0 rfl) ?_
    refine lv_bipush (v := 29) hx hb dX8_keepRow_23 (by decide) ?_
    refine va_put (D := D) (ci := 8) (v := .int 29) (ty := .int) (C := RX8) (T := TX8) (N := 3) hx hb hts hin8 tyX8 tyX8_ok nmX8 hown hK hP hD hS 2 rfl rfl 2 (by decide) w19 (fun _ h9 => h9) rfl (tyX8_ok 2 (by decide)) rfl rfl (Nat.le_of_ble_eq_true rfl) dX8_keepRow_25 (fun H locs hP hD hS => ?_)
    obtain ⟨S_7, eS_7⟩ : ∃ z : CS, z = (cx_set_cs_count S_6 29) := ⟨_, rfl⟩
    replace hw := hw S_7 eS_7
    have hP : va_P D vwCl (wC h cy S_7) H := by rw [eS_7, ← wCp_cs_count]; exact hP
    have hD : va_D A (wC h cy S_7) := by rw [eS_7, ← wCp_cs_count]; exact hD
    exact J_28 S_7 _ _ _ hw hP hD hS (lv_sub hl [0, 1] rfl)
def wC_X2_goes (p1 : Int32) (p2 : Int32) (S : CS) (post : CS → Prop) : Prop := wC_X0_set 29 p1 p2 S (fun S_2 => post S_2)
set_option maxHeartbeats 4000000 in
set_option maxRecDepth 100000 in
theorem cC_X2_goes (l : Launch) (D : va_G) (h : Nat → Nat) (cy : Nat → ClassId) (p1 : Int32) (p2 : Int32) (S : CS) (post : CS → Prop) (hw : wC_X2_goes p1 p2 S post) : e_Mv clE l yX2_goes wsX2_goes { frames := 2, cells := 0, slots := 0, locals := 45 } D (tyC cy) (wC h cy) [.ref (h 7), .int p1, .int p2] S post := by
  intro sz
  refine Met.ofW (cc := cX2_goes) (maxL := 3) (ret := none) (by decide) rfl ?_
  intro p e s m args below meth c s₁ B hml hv
  obtain ⟨rfl, hsz, hP, hK, hD0, hs⟩ := hv
  have hx := B.exec
  have hb := B.bytes
  have hr := B.returns
  have hts := atoms_spec (ws := wsX2_goes) B.pre
  have hown : s.vm.findClass RX2 = some m.cls := findClass_of_methodNamed B.named
  have hlocks := B.notSynchronized
  subst hsz
  have hD := hD0.self (sz := s.heap.size)
  generalize hAe : va_A (wC h cy S) s.heap.size = A at hD hs ⊢
  have hA : ∀ q : Nat, s.heap.size ≤ q → A q := fun q h => by rw [← hAe]; exact Or.inr h
  have hS : va_S A s.heap s.heap [] := va_S.rf
  have hin2 : ∀ w ∈ wsX20, w ∈ wsX2_goes := fun _ h => List.mem_cons_of_mem _ (List.mem_append_left _ (List.mem_append_right _ h))
  have hin0 : ∀ w ∈ wsX00, w ∈ wsX2_goes := fun _ h => List.mem_cons_of_mem _ (List.mem_append_right _ h)
  have w17 := hts (.fieldLink RX2 17 "ClownsMourn$Guild" "city" "LClownsMourn$City;") (List.mem_of_getElem? (i := 1) rfl)
  have hl := lv_entry ([.ref (h 7), .int p1, .int p2]) (n := 3) (Nat.le_of_ble_eq_true rfl)
  rw [lg_entry_eq]
  generalize (lg_sl ([.ref (h 7), .int p1, .int p2]) ++ List.replicate (3 - (lg_sl ([.ref (h 7), .int p1, .int p2])).length) Slot.unset).toArray = ls at hl ⊢
  have hl : lv_has ls 3 [(0, .ref (h 7)), (1, .int p1), (2, .int p2)] := hl
  unfold wC_X2_goes at hw
  clear hD0
  refine lv_aload_n hx hb dX2_goes_0 rfl (lv_at hl 0 rfl) ?_
  refine va_get (D := D) (ci := 2) (v := .ref (h 1)) (C := RX2) (T := TX2) (N := 3) hx hb hts hin2 hown hK hP 7 rfl rfl 0 (by decide) w17 (fun _ h9 => h9) rfl dX2_goes_1 ?_
  refine lv_bipush (v := 29) hx hb dX2_goes_4 (by decide) ?_
  refine lv_iload_n hx hb dX2_goes_6 rfl (lv_at hl 1 rfl) ?_
  refine lv_iload_n hx hb dX2_goes_7 rfl (lv_at hl 2 rfl) ?_
  refine e_callVv (As := [.int 29, .int p1, .int p2]) (rest := []) clE_stable hs ⟨hx, hb, hml, hown, hts⟩ (cC_X0_set l D h cy _ _ _ _ _ hw) (cwV 3 hts gX2_goes_X0_set rfl rfl rfl (by decide +kernel) ⟨Nat.le_of_ble_eq_true rfl, Nat.le_of_ble_eq_true rfl⟩) (va_recv hK hP (ci := 0) (q0 := 1) rfl rfl) hK hP hD hS hA rfl hl.1 rfl (Nat.le_of_ble_eq_true rfl) dX2_goes_8 ⟨Nat.zero_le _, Nat.zero_le _⟩ (fun S_2 H locs hw hP hD hS => ?_)
  exact W.vret hx hb hr (fun t ht hW => ⟨⟨S_2, rfl, hw, by rw [ht]; exact hP, va_K.moved hW.alike hK, hD⟩, hS.F ht⟩) hS.2.2 dX2_goes_11
def wC_X11_send (p1 : Int32) (p2 : Int32) (S : CS) (post : Int32 → CS → Prop) : Prop := wC_X2_canGo p1 p2 S (fun r_1 S_2 => ((r_1 = 0 → post 0 S_2) ∧ (¬ (r_1 = 0) → wC_X8_keepRow_city_now S_2 (fun S_5 => wC_X2_goes p1 p2 S_5 (fun S_7 => post 1 S_7)))))
set_option maxHeartbeats 4000000 in
set_option maxRecDepth 100000 in
theorem cC_X11_send (l : Launch) (D : va_G) (h : Nat → Nat) (cy : Nat → ClassId) (p1 : Int32) (p2 : Int32) (S : CS) (post : Int32 → CS → Prop) (hw : wC_X11_send p1 p2 S post) : e_Mi clE l yX11_send wsX11_send { frames := 3, cells := 0, slots := 0, locals := 105 } D (tyC cy) (wC h cy) [.ref (h 0), .int p1, .int p2] S post := by
  intro sz
  refine Met.ofW (cc := cX11_send) (maxL := 3) (ret := (some .boolean)) (by decide) rfl ?_
  intro p e s m args below meth c s₁ B hml hv
  obtain ⟨rfl, hsz, hP, hK, hD0, hs⟩ := hv
  have hx := B.exec
  have hb := B.bytes
  have hr := B.returns
  have hts := atoms_spec (ws := wsX11_send) B.pre
  have hown : s.vm.findClass RX11 = some m.cls := findClass_of_methodNamed B.named
  have hlocks := B.notSynchronized
  subst hsz
  have hD := hD0.self (sz := s.heap.size)
  generalize hAe : va_A (wC h cy S) s.heap.size = A at hD hs ⊢
  have hA : ∀ q : Nat, s.heap.size ≤ q → A q := fun q h => by rw [← hAe]; exact Or.inr h
  have hS : va_S A s.heap s.heap [] := va_S.rf
  have hin11 : ∀ w ∈ wsX110, w ∈ wsX11_send := fun _ h => List.mem_cons_of_mem _ (List.mem_append_left _ (List.mem_append_left _ (List.mem_append_left _ (List.mem_append_right _ h))))
  have hin0 : ∀ w ∈ wsX00, w ∈ wsX11_send := fun _ h => List.mem_cons_of_mem _ (List.mem_append_left _ (List.mem_append_left _ (List.mem_append_right _ h)))
  have hin2 : ∀ w ∈ wsX20, w ∈ wsX11_send := fun _ h => List.mem_cons_of_mem _ (List.mem_append_left _ (List.mem_append_right _ h))
  have hin8 : ∀ w ∈ wsX80, w ∈ wsX11_send := fun _ h => List.mem_cons_of_mem _ (List.mem_append_right _ h)
  have w10 := hts (.fieldLink RX11 10 "ClownsMourn" "city" "LClownsMourn$City;") (List.mem_of_getElem? (i := 2) rfl)
  have w134 := hts (.fieldLink RX11 134 "ClownsMourn$City" "steps" "LClownsMourn$Steps;") (List.mem_of_getElem? (i := 3) rfl)
  have w138 := hts (.fieldLink RX11 138 "ClownsMourn$City" "now" "[I") (List.mem_of_getElem? (i := 4) rfl)
  have w40 := hts (.fieldLink RX11 40 "ClownsMourn" "guild" "LClownsMourn$Guild;") (List.mem_of_getElem? (i := 1) rfl)
  have hl := lv_entry ([.ref (h 0), .int p1, .int p2]) (n := 3) (Nat.le_of_ble_eq_true rfl)
  rw [lg_entry_eq]
  generalize (lg_sl ([.ref (h 0), .int p1, .int p2]) ++ List.replicate (3 - (lg_sl ([.ref (h 0), .int p1, .int p2])).length) Slot.unset).toArray = ls at hl ⊢
  have hl : lv_has ls 3 [(0, .ref (h 0)), (1, .int p1), (2, .int p2)] := hl
  unfold wC_X11_send at hw
  clear hD0
  refine lv_aload_n hx hb dX11_send_0 rfl (lv_at hl 0 rfl) ?_
  refine va_get (D := D) (ci := 10) (v := .ref (h 7)) (C := RX11) (T := TX11) (N := 9) hx hb hts hin11 hown hK hP 0 rfl rfl 4 (by decide) w40 (fun _ h9 => h9) rfl dX11_send_1 ?_
  refine lv_iload_n hx hb dX11_send_4 rfl (lv_at hl 1 rfl) ?_
  refine lv_iload_n hx hb dX11_send_5 rfl (lv_at hl 2 rfl) ?_
  refine e_callVi (As := [.int p1, .int p2]) (rest := []) clE_stable hs ⟨hx, hb, hml, hown, hts⟩ (cC_X2_canGo l D h cy _ _ _ _ hw) (cwV 2 hts gX11_send_X2_canGo rfl rfl rfl (by decide +kernel) ⟨Nat.le_of_ble_eq_true rfl, Nat.le_of_ble_eq_true rfl⟩) (va_recv hK hP (ci := 2) (q0 := 7) rfl rfl) hK hP hD hS hA rfl hl.1 rfl (Nat.le_of_ble_eq_true rfl) dX11_send_6 ⟨Nat.zero_le _, Nat.zero_le _⟩ (fun r_1 S_2 H locs hw hP hD hS => ?_)
  obtain ⟨hc_3t, hc_3f⟩ := hw
  refine lv_if_ne (tgt := 14) hx hb dX11_send_9 (by decide) (fun c_3 => ?_) (fun c_3 => ?_)
  · have hw := hc_3f c_3
    clear hc_3t hc_3f
    refine lv_aload_n hx hb dX11_send_14 rfl (lv_at hl 0 rfl) ?_
    refine va_get (D := D) (ci := 10) (v := .ref (h 1)) (C := RX11) (T := TX11) (N := 9) hx hb hts hin11 hown hK hP 0 rfl rfl 0 (by decide) w10 (fun _ h9 => h9) rfl dX11_send_15 ?_
    refine va_get (D := D) (ci := 0) (v := .ref (h 2)) (C := RX0) (T := TX0) (N := 16) hx hb hts hin0 hown hK hP 1 rfl rfl 1 (by decide) w134 (fun _ h9 => h9) rfl dX11_send_18 ?_
    refine lv_aload_n hx hb dX11_send_21 rfl (lv_at hl 0 rfl) ?_
    refine va_get (D := D) (ci := 10) (v := .ref (h 1)) (C := RX11) (T := TX11) (N := 9) hx hb hts hin11 hown hK hP 0 rfl rfl 0 (by decide) w10 (fun _ h9 => h9) rfl dX11_send_22 ?_
    refine va_get (D := D) (ci := 0) (v := .ref (h 12)) (C := RX0) (T := TX0) (N := 16) hx hb hts hin0 hown hK hP 1 rfl rfl 0 (by decide) w138 (fun _ h9 => h9) rfl dX11_send_25 ?_
    refine e_callVv (As := [.ref (h 12)]) (rest := []) clE_stable hs ⟨hx, hb, hml, hown, hts⟩ (cC_X8_keepRow_city_now l D h cy _ _ hw) (cwV 1 hts gX11_send_X8_keepRow rfl rfl rfl (by decide +kernel) ⟨Nat.le_of_ble_eq_true rfl, Nat.le_of_ble_eq_true rfl⟩) (va_recv hK hP (ci := 8) (q0 := 2) rfl rfl) hK hP hD hS hA rfl hl.1 rfl (Nat.le_of_ble_eq_true rfl) dX11_send_28 ⟨Nat.zero_le _, Nat.zero_le _⟩ (fun S_5 H locs hw hP hD hS => ?_)
    refine lv_aload_n hx hb dX11_send_31 rfl (lv_at hl 0 rfl) ?_
    refine va_get (D := D) (ci := 10) (v := .ref (h 7)) (C := RX11) (T := TX11) (N := 9) hx hb hts hin11 hown hK hP 0 rfl rfl 4 (by decide) w40 (fun _ h9 => h9) rfl dX11_send_32 ?_
    refine lv_iload_n hx hb dX11_send_35 rfl (lv_at hl 1 rfl) ?_
    refine lv_iload_n hx hb dX11_send_36 rfl (lv_at hl 2 rfl) ?_
    refine e_callVv (As := [.int p1, .int p2]) (rest := []) clE_stable hs ⟨hx, hb, hml, hown, hts⟩ (cC_X2_goes l D h cy _ _ _ _ hw) (cwV 2 hts gX11_send_X2_goes rfl rfl rfl (by decide +kernel) ⟨Nat.le_of_ble_eq_true rfl, Nat.le_of_ble_eq_true rfl⟩) (va_recv hK hP (ci := 2) (q0 := 7) rfl rfl) hK hP hD hS hA rfl hl.1 rfl (Nat.le_of_ble_eq_true rfl) dX11_send_37 ⟨Nat.zero_le _, Nat.zero_le _⟩ (fun S_7 H locs hw hP hD hS => ?_)
    refine lv_iconst (v := 1) hx hb dX11_send_40 (by decide) ?_
    exact W.zret (v := 1) hx hb hr (by decide +kernel) (fun t ht hW => ⟨⟨1, S_7, rfl, hw, by rw [ht]; exact hP, va_K.moved hW.alike hK, hD⟩, hS.F ht⟩) hS.2.2 dX11_send_41
  · have hw := hc_3t c_3
    clear hc_3t hc_3f
    refine lv_iconst (v := 0) hx hb dX11_send_12 (by decide) ?_
    exact W.zret (v := 0) hx hb hr (by decide +kernel) (fun t ht hW => ⟨⟨0, S_2, rfl, hw, by rw [ht]; exact hP, va_K.moved hW.alike hK, hD⟩, hS.F ht⟩) hS.2.2 dX11_send_13
def wC_X0_isOut (p1 : Int32) (S : CS) (post : Int32 → CS → Prop) : Prop := wC_X0_hasClown p1 S (fun r_1 S_2 => ((r_1 = 0 → post 0 S_2) ∧ (¬ (r_1 = 0) → wC_X0_see 29 p1 S_2 (fun r_4 S_5 => ((r_4 = (-1) → post 0 S_5) ∧ (¬ (r_4 = (-1)) → post 1 S_5))))))
set_option maxHeartbeats 4000000 in
set_option maxRecDepth 100000 in
theorem cC_X0_isOut (l : Launch) (D : va_G) (h : Nat → Nat) (cy : Nat → ClassId) (p1 : Int32) (S : CS) (post : Int32 → CS → Prop) (hw : wC_X0_isOut p1 S post) : e_Mi clE l yX0_isOut wsX0_isOut { frames := 2, cells := 0, slots := 0, locals := 43 } D (tyC cy) (wC h cy) [.ref (h 1), .int p1] S post := by
  intro sz
  refine Met.ofW (cc := cX0_isOut) (maxL := 2) (ret := (some .boolean)) (by decide) rfl ?_
  intro p e s m args below meth c s₁ B hml hv
  obtain ⟨rfl, hsz, hP, hK, hD0, hs⟩ := hv
  have hx := B.exec
  have hb := B.bytes
  have hr := B.returns
  have hts := atoms_spec (ws := wsX0_isOut) B.pre
  have hown : s.vm.findClass RX0 = some m.cls := findClass_of_methodNamed B.named
  have hlocks := B.notSynchronized
  subst hsz
  have hD := hD0.self (sz := s.heap.size)
  generalize hAe : va_A (wC h cy S) s.heap.size = A at hD hs ⊢
  have hA : ∀ q : Nat, s.heap.size ≤ q → A q := fun q h => by rw [← hAe]; exact Or.inr h
  have hS : va_S A s.heap s.heap [] := va_S.rf
  have hl := lv_entry ([.ref (h 1), .int p1]) (n := 2) (Nat.le_of_ble_eq_true rfl)
  rw [lg_entry_eq]
  generalize (lg_sl ([.ref (h 1), .int p1]) ++ List.replicate (2 - (lg_sl ([.ref (h 1), .int p1])).length) Slot.unset).toArray = ls at hl ⊢
  have hl : lv_has ls 2 [(0, .ref (h 1)), (1, .int p1)] := hl
  unfold wC_X0_isOut at hw
  clear hD0
  refine lv_aload_n hx hb dX0_isOut_0 rfl (lv_at hl 0 rfl) ?_
  refine lv_iload_n hx hb dX0_isOut_1 rfl (lv_at hl 1 rfl) ?_
  refine e_callVi (As := [.int p1]) (rest := []) clE_stable hs ⟨hx, hb, hml, hown, hts⟩ (cC_X0_hasClown l D h cy _ _ _ hw) (cwV 1 hts gX0_isOut_X0_hasClown rfl rfl rfl (by decide +kernel) ⟨Nat.le_of_ble_eq_true rfl, Nat.le_of_ble_eq_true rfl⟩) (va_recv hK hP (ci := 0) (q0 := 1) rfl rfl) hK hP hD hS hA rfl hl.1 rfl (Nat.le_of_ble_eq_true rfl) dX0_isOut_2 ⟨Nat.zero_le _, Nat.zero_le _⟩ (fun r_1 S_2 H locs hw hP hD hS => ?_)
  obtain ⟨hc_3t, hc_3f⟩ := hw
  refine lv_if_eq (tgt := 23) hx hb dX0_isOut_5 (by decide) (fun c_3 => ?_) (fun c_3 => ?_)
  · have hw := hc_3t c_3
    clear hc_3t hc_3f
    refine lv_iconst (v := 0) hx hb dX0_isOut_23 (by decide) ?_
    exact W.zret (v := 0) hx hb hr (by decide +kernel) (fun t ht hW => ⟨⟨0, S_2, rfl, hw, by rw [ht]; exact hP, va_K.moved hW.alike hK, hD⟩, hS.F ht⟩) hS.2.2 dX0_isOut_24
  · have hw := hc_3f c_3
    clear hc_3t hc_3f
    refine lv_aload_n hx hb dX0_isOut_8 rfl (lv_at hl 0 rfl) ?_
    refine lv_bipush (v := 29) hx hb dX0_isOut_9 (by decide) ?_
    refine lv_iload_n hx hb dX0_isOut_11 rfl (lv_at hl 1 rfl) ?_
    refine e_callVi (As := [.int 29, .int p1]) (rest := []) clE_stable hs ⟨hx, hb, hml, hown, hts⟩ (cC_X0_see l D h cy _ _ _ _ hw) (cwV 2 hts gX0_isOut_X0_see rfl rfl rfl (by decide +kernel) ⟨Nat.le_of_ble_eq_true rfl, Nat.le_of_ble_eq_true rfl⟩) (va_recv hK hP (ci := 0) (q0 := 1) rfl rfl) hK hP hD hS hA rfl hl.1 rfl (Nat.le_of_ble_eq_true rfl) dX0_isOut_12 ⟨Nat.zero_le _, Nat.zero_le _⟩ (fun r_4 S_5 H locs hw hP hD hS => ?_)
    refine lv_iconst (v := (-1)) hx hb dX0_isOut_15 (by decide) ?_
    obtain ⟨hc_6t, hc_6f⟩ := hw
    refine lv_icmp_eq (tgt := 23) hx hb dX0_isOut_16 (by decide) (fun c_6 => ?_) (fun c_6 => ?_)
    · have hw := hc_6t c_6
      clear hc_6t hc_6f
      refine lv_iconst (v := 0) hx hb dX0_isOut_23 (by decide) ?_
      exact W.zret (v := 0) hx hb hr (by decide +kernel) (fun t ht hW => ⟨⟨0, S_5, rfl, hw, by rw [ht]; exact hP, va_K.moved hW.alike hK, hD⟩, hS.F ht⟩) hS.2.2 dX0_isOut_24
    · have hw := hc_6f c_6
      clear hc_6t hc_6f
      refine lv_iconst (v := 1) hx hb dX0_isOut_19 (by decide) ?_
      refine lv_goto (tgt := 24) hx hb dX0_isOut_20 (by decide) ?_
      exact W.zret (v := 1) hx hb hr (by decide +kernel) (fun t ht hW => ⟨⟨1, S_5, rfl, hw, by rw [ht]; exact hP, va_K.moved hW.alike hK, hD⟩, hS.F ht⟩) hS.2.2 dX0_isOut_24
def wC_X2_canFall (p1 : Int32) (p2 : Int32) (S : CS) (post : Int32 → CS → Prop) : Prop := wC_X11_isFall p2 S (fun r_1 S_2 => ((r_1 = 0 → post 0 S_2) ∧ (¬ (r_1 = 0) → wC_X0_isOut p1 S_2 (fun r_4 S_5 => ((r_4 = 0 → post 0 S_5) ∧ (¬ (r_4 = 0) → wC_X0_see 24 p1 S_5 (fun r_7 S_8 => ((9 ≤ r_7 → post 0 S_8) ∧ (¬ (9 ≤ r_7) → post 1 S_8)))))))))
set_option maxHeartbeats 4000000 in
set_option maxRecDepth 100000 in
theorem cC_X2_canFall (l : Launch) (D : va_G) (h : Nat → Nat) (cy : Nat → ClassId) (p1 : Int32) (p2 : Int32) (S : CS) (post : Int32 → CS → Prop) (hw : wC_X2_canFall p1 p2 S post) : e_Mi clE l yX2_canFall wsX2_canFall { frames := 3, cells := 0, slots := 0, locals := 64 } D (tyC cy) (wC h cy) [.ref (h 7), .int p1, .int p2] S post := by
  intro sz
  refine Met.ofW (cc := cX2_canFall) (maxL := 3) (ret := (some .boolean)) (by decide) rfl ?_
  intro p e s m args below meth c s₁ B hml hv
  obtain ⟨rfl, hsz, hP, hK, hD0, hs⟩ := hv
  have hx := B.exec
  have hb := B.bytes
  have hr := B.returns
  have hts := atoms_spec (ws := wsX2_canFall) B.pre
  have hown : s.vm.findClass RX2 = some m.cls := findClass_of_methodNamed B.named
  have hlocks := B.notSynchronized
  subst hsz
  have hD := hD0.self (sz := s.heap.size)
  generalize hAe : va_A (wC h cy S) s.heap.size = A at hD hs ⊢
  have hA : ∀ q : Nat, s.heap.size ≤ q → A q := fun q h => by rw [← hAe]; exact Or.inr h
  have hS : va_S A s.heap s.heap [] := va_S.rf
  have hin2 : ∀ w ∈ wsX20, w ∈ wsX2_canFall := fun _ h => List.mem_cons_of_mem _ (List.mem_append_left _ (List.mem_append_right _ h))
  have hin0 : ∀ w ∈ wsX00, w ∈ wsX2_canFall := fun _ h => List.mem_cons_of_mem _ (List.mem_append_right _ h)
  have w17 := hts (.fieldLink RX2 17 "ClownsMourn$Guild" "city" "LClownsMourn$City;") (List.mem_of_getElem? (i := 1) rfl)
  have wiX11 := hts (.initialized RX11) (List.mem_of_getElem? (i := 3) rfl)
  have wstisFall := hts (.static yX11_isFall) (List.mem_of_getElem? (i := 2) rfl)
  have hl := lv_entry ([.ref (h 7), .int p1, .int p2]) (n := 3) (Nat.le_of_ble_eq_true rfl)
  rw [lg_entry_eq]
  generalize (lg_sl ([.ref (h 7), .int p1, .int p2]) ++ List.replicate (3 - (lg_sl ([.ref (h 7), .int p1, .int p2])).length) Slot.unset).toArray = ls at hl ⊢
  have hl : lv_has ls 3 [(0, .ref (h 7)), (1, .int p1), (2, .int p2)] := hl
  unfold wC_X2_canFall at hw
  clear hD0
  refine lv_iload_n hx hb dX2_canFall_0 rfl (lv_at hl 2 rfl) ?_
  refine e_callNi (As := [.int p2]) (rest := []) clE_stable hs ⟨hx, hb, hml, hown, hts⟩ (cC_X11_isFall l D h cy _ _ _ hw) ⟨va_cnB 1 hts gX2_canFall_X11_isFall_n39 rfl rfl rfl hs.1.2.2.2.2.2.2.2.2.2.2.2.2.1 wiX11 (by decide +kernel) ⟨Nat.le_of_ble_eq_true rfl, Nat.le_of_ble_eq_true rfl⟩, wstisFall, trivial⟩ hK hP hD hS hA rfl hl.1 rfl (Nat.le_of_ble_eq_true rfl) dX2_canFall_1 ⟨Nat.zero_le _, Nat.zero_le _⟩ (fun r_1 S_2 H locs hw hP hD hS => ?_)
  obtain ⟨hc_3t, hc_3f⟩ := hw
  refine lv_if_eq (tgt := 37) hx hb dX2_canFall_4 (by decide) (fun c_3 => ?_) (fun c_3 => ?_)
  · have hw := hc_3t c_3
    clear hc_3t hc_3f
    refine lv_iconst (v := 0) hx hb dX2_canFall_37 (by decide) ?_
    exact W.zret (v := 0) hx hb hr (by decide +kernel) (fun t ht hW => ⟨⟨0, S_2, rfl, hw, by rw [ht]; exact hP, va_K.moved hW.alike hK, hD⟩, hS.F ht⟩) hS.2.2 dX2_canFall_38
  · have hw := hc_3f c_3
    clear hc_3t hc_3f
    refine lv_aload_n hx hb dX2_canFall_7 rfl (lv_at hl 0 rfl) ?_
    refine va_get (D := D) (ci := 2) (v := .ref (h 1)) (C := RX2) (T := TX2) (N := 3) hx hb hts hin2 hown hK hP 7 rfl rfl 0 (by decide) w17 (fun _ h9 => h9) rfl dX2_canFall_8 ?_
    refine lv_iload_n hx hb dX2_canFall_11 rfl (lv_at hl 1 rfl) ?_
    refine e_callVi (As := [.int p1]) (rest := []) clE_stable hs ⟨hx, hb, hml, hown, hts⟩ (cC_X0_isOut l D h cy _ _ _ hw) (cwV 1 hts gX2_canFall_X0_isOut rfl rfl rfl (by decide +kernel) ⟨Nat.le_of_ble_eq_true rfl, Nat.le_of_ble_eq_true rfl⟩) (va_recv hK hP (ci := 0) (q0 := 1) rfl rfl) hK hP hD hS hA rfl hl.1 rfl (Nat.le_of_ble_eq_true rfl) dX2_canFall_12 ⟨Nat.zero_le _, Nat.zero_le _⟩ (fun r_4 S_5 H locs hw hP hD hS => ?_)
    obtain ⟨hc_6t, hc_6f⟩ := hw
    refine lv_if_eq (tgt := 37) hx hb dX2_canFall_15 (by decide) (fun c_6 => ?_) (fun c_6 => ?_)
    · have hw := hc_6t c_6
      clear hc_6t hc_6f
      refine lv_iconst (v := 0) hx hb dX2_canFall_37 (by decide) ?_
      exact W.zret (v := 0) hx hb hr (by decide +kernel) (fun t ht hW => ⟨⟨0, S_5, rfl, hw, by rw [ht]; exact hP, va_K.moved hW.alike hK, hD⟩, hS.F ht⟩) hS.2.2 dX2_canFall_38
    · have hw := hc_6f c_6
      clear hc_6t hc_6f
      refine lv_aload_n hx hb dX2_canFall_18 rfl (lv_at hl 0 rfl) ?_
      refine va_get (D := D) (ci := 2) (v := .ref (h 1)) (C := RX2) (T := TX2) (N := 3) hx hb hts hin2 hown hK hP 7 rfl rfl 0 (by decide) w17 (fun _ h9 => h9) rfl dX2_canFall_19 ?_
      refine lv_bipush (v := 24) hx hb dX2_canFall_22 (by decide) ?_
      refine lv_iload_n hx hb dX2_canFall_24 rfl (lv_at hl 1 rfl) ?_
      refine e_callVi (As := [.int 24, .int p1]) (rest := []) clE_stable hs ⟨hx, hb, hml, hown, hts⟩ (cC_X0_see l D h cy _ _ _ _ hw) (cwV 2 hts gX2_canFall_X0_see rfl rfl rfl (by decide +kernel) ⟨Nat.le_of_ble_eq_true rfl, Nat.le_of_ble_eq_true rfl⟩) (va_recv hK hP (ci := 0) (q0 := 1) rfl rfl) hK hP hD hS hA rfl hl.1 rfl (Nat.le_of_ble_eq_true rfl) dX2_canFall_25 ⟨Nat.zero_le _, Nat.zero_le _⟩ (fun r_7 S_8 H locs hw hP hD hS => ?_)
      refine lv_bipush (v := 9) hx hb dX2_canFall_28 (by decide) ?_
      obtain ⟨hc_9t, hc_9f⟩ := hw
      refine lv_icmp_ge (tgt := 37) hx hb dX2_canFall_30 (by decide) (fun c_9 => ?_) (fun c_9 => ?_)
      · have hw := hc_9t c_9
        clear hc_9t hc_9f
        refine lv_iconst (v := 0) hx hb dX2_canFall_37 (by decide) ?_
        exact W.zret (v := 0) hx hb hr (by decide +kernel) (fun t ht hW => ⟨⟨0, S_8, rfl, hw, by rw [ht]; exact hP, va_K.moved hW.alike hK, hD⟩, hS.F ht⟩) hS.2.2 dX2_canFall_38
      · have hw := hc_9f c_9
        clear hc_9t hc_9f
        refine lv_iconst (v := 1) hx hb dX2_canFall_33 (by decide) ?_
        refine lv_goto (tgt := 38) hx hb dX2_canFall_34 (by decide) ?_
        exact W.zret (v := 1) hx hb hr (by decide +kernel) (fun t ht hW => ⟨⟨1, S_8, rfl, hw, by rw [ht]; exact hP, va_K.moved hW.alike hK, hD⟩, hS.F ht⟩) hS.2.2 dX2_canFall_38
def wC_X0_textAt (p1 : Int32) (S : CS) (post : Option Nat → CS → Prop) : Prop := ((p1 < 0 → post none S) ∧ (¬ (p1 < 0) → (((cx_c_textCount S) ≤ p1 → post none S) ∧ (¬ ((cx_c_textCount S) ≤ p1) → ((4 ≤ p1 → post none S) ∧ (¬ (4 ≤ p1) → (vp_in p1 4 ∧ post ((cx_c_texts S) p1.toNatClampNeg) S)))))))
set_option maxHeartbeats 4000000 in
set_option maxRecDepth 100000 in
theorem cC_X0_textAt (l : Launch) (D : va_G) (h : Nat → Nat) (cy : Nat → ClassId) (p1 : Int32) (S : CS) (post : Option Nat → CS → Prop) (hw : wC_X0_textAt p1 S post) : e_Mq clE l yX0_textAt wsX0_textAt { frames := 0, cells := 0, slots := 0, locals := 0 } D (tyC cy) (wC h cy) [.ref (h 1), .int p1] S post := by
  intro sz
  refine Met.ofW (cc := cX0_textAt) (maxL := 2) (ret := (some (.object "ClownsMourn$Text"))) (by decide) rfl ?_
  intro p e s m args below meth c s₁ B hml hv
  obtain ⟨rfl, hsz, hP, hK, hD0, hs⟩ := hv
  have hx := B.exec
  have hb := B.bytes
  have hr := B.returns
  have hts := atoms_spec (ws := wsX0_textAt) B.pre
  have hown : s.vm.findClass RX0 = some m.cls := findClass_of_methodNamed B.named
  have hlocks := B.notSynchronized
  subst hsz
  have hD := hD0.self (sz := s.heap.size)
  generalize hAe : va_A (wC h cy S) s.heap.size = A at hD hs ⊢
  have hA : ∀ q : Nat, s.heap.size ≤ q → A q := fun q h => by rw [← hAe]; exact Or.inr h
  have hS : va_S A s.heap s.heap [] := va_S.rf
  have hin0 : ∀ w ∈ wsX00, w ∈ wsX0_textAt := fun _ h => List.mem_cons_of_mem _ (List.mem_append_right _ h)
  have w36 := hts (.fieldLink RX0 36 "ClownsMourn$City" "texts" "[LClownsMourn$Text;") (List.mem_of_getElem? (i := 2) rfl)
  have w40 := hts (.fieldLink RX0 40 "ClownsMourn$City" "textCount" "I") (List.mem_of_getElem? (i := 1) rfl)
  have hl := lv_entry ([.ref (h 1), .int p1]) (n := 2) (Nat.le_of_ble_eq_true rfl)
  rw [lg_entry_eq]
  generalize (lg_sl ([.ref (h 1), .int p1]) ++ List.replicate (2 - (lg_sl ([.ref (h 1), .int p1])).length) Slot.unset).toArray = ls at hl ⊢
  have hl : lv_has ls 2 [(0, .ref (h 1)), (1, .int p1)] := hl
  unfold wC_X0_textAt at hw
  clear hD0
  refine lv_iload_n hx hb dX0_textAt_0 rfl (lv_at hl 1 rfl) ?_
  obtain ⟨hc_1t, hc_1f⟩ := hw
  refine lv_if_lt (tgt := 30) hx hb dX0_textAt_1 (by decide) (fun c_1 => ?_) (fun c_1 => ?_)
  · have hw := hc_1t c_1
    clear hc_1t hc_1f
    refine lv_null hx hb dX0_textAt_30 ?_
    exact W.aret (v := va_rf none) hx hb hr (Or.inl ⟨_, rfl⟩) (va_rf_or _) (fun t ht hW => ⟨⟨none, S, rfl, hw, by rw [ht]; exact hP, va_K.moved hW.alike hK, hD⟩, hS.F ht⟩) hS.2.2 dX0_textAt_31
  · have hw := hc_1f c_1
    clear hc_1t hc_1f
    refine lv_iload_n hx hb dX0_textAt_4 rfl (lv_at hl 1 rfl) ?_
    refine lv_aload_n hx hb dX0_textAt_5 rfl (lv_at hl 0 rfl) ?_
    refine va_get (D := D) (ci := 0) (v := .int (cx_c_textCount S)) (C := RX0) (T := TX0) (N := 16) hx hb hts hin0 hown hK hP 1 rfl rfl 7 (by decide) w40 (fun _ h9 => h9) rfl dX0_textAt_6 ?_
    obtain ⟨hc_2t, hc_2f⟩ := hw
    refine lv_icmp_ge (tgt := 30) hx hb dX0_textAt_9 (by decide) (fun c_2 => ?_) (fun c_2 => ?_)
    · have hw := hc_2t c_2
      clear hc_2t hc_2f
      refine lv_null hx hb dX0_textAt_30 ?_
      exact W.aret (v := va_rf none) hx hb hr (Or.inl ⟨_, rfl⟩) (va_rf_or _) (fun t ht hW => ⟨⟨none, S, rfl, hw, by rw [ht]; exact hP, va_K.moved hW.alike hK, hD⟩, hS.F ht⟩) hS.2.2 dX0_textAt_31
    · have hw := hc_2f c_2
      clear hc_2t hc_2f
      refine lv_iload_n hx hb dX0_textAt_12 rfl (lv_at hl 1 rfl) ?_
      refine lv_aload_n hx hb dX0_textAt_13 rfl (lv_at hl 0 rfl) ?_
      refine va_get (D := D) (ci := 0) (v := .ref (h 17)) (C := RX0) (T := TX0) (N := 16) hx hb hts hin0 hown hK hP 1 rfl rfl 6 (by decide) w36 (fun _ h9 => h9) rfl dX0_textAt_14 ?_
      refine va_alen (v := 4) hx hb hK hP 17 5 rfl rfl (show Int32.ofNat 4 = 4 by decide) dX0_textAt_17 ?_
      obtain ⟨hc_3t, hc_3f⟩ := hw
      refine lv_icmp_ge (tgt := 30) hx hb dX0_textAt_18 (by decide) (fun c_3 => ?_) (fun c_3 => ?_)
      · have hw := hc_3t c_3
        clear hc_3t hc_3f
        refine lv_null hx hb dX0_textAt_30 ?_
        exact W.aret (v := va_rf none) hx hb hr (Or.inl ⟨_, rfl⟩) (va_rf_or _) (fun t ht hW => ⟨⟨none, S, rfl, hw, by rw [ht]; exact hP, va_K.moved hW.alike hK, hD⟩, hS.F ht⟩) hS.2.2 dX0_textAt_31
      · have hw := hc_3f c_3
        clear hc_3t hc_3f
        refine lv_aload_n hx hb dX0_textAt_21 rfl (lv_at hl 0 rfl) ?_
        refine va_get (D := D) (ci := 0) (v := .ref (h 17)) (C := RX0) (T := TX0) (N := 16) hx hb hts hin0 hown hK hP 1 rfl rfl 6 (by decide) w36 (fun _ h9 => h9) rfl dX0_textAt_22 ?_
        refine lv_iload_n hx hb dX0_textAt_25 rfl (lv_at hl 1 rfl) ?_
        obtain ⟨hi_4, hw⟩ := hw
        refine va_aldq (C := "ClownsMourn$Text") (f := (cx_c_texts S)) hx hb hK hP 17 5 rfl rfl hi_4 dX0_textAt_26 ?_
        refine lv_goto (tgt := 31) hx hb dX0_textAt_27 (by decide) ?_
        exact W.aret (v := va_rf ((cx_c_texts S) p1.toNatClampNeg)) hx hb hr (Or.inl ⟨_, rfl⟩) (va_rf_or _) (fun t ht hW => ⟨⟨(cx_c_texts S) p1.toNatClampNeg, S, rfl, hw, by rw [ht]; exact hP, va_K.moved hW.alike hK, hD⟩, hS.F ht⟩) hS.2.2 dX0_textAt_31
def wC_X9_startOf (t0 : Nat) (p1 : Int32) (S : CS) (post : Int32 → CS → Prop) : Prop := (∃ B_1 : TB, (t0, B_1) ∈ cx_px S ∧ (B_1.2.2.2.2.1 < 2 ^ 31 ∧ post (k_at B_1.2.2.2.2.1 B_1.2.2.2.2.2 (p1 * 2)) S))
set_option maxHeartbeats 4000000 in
set_option maxRecDepth 100000 in
theorem cC_X9_startOf (l : Launch) (D : va_G) (h : Nat → Nat) (cy : Nat → ClassId) (t0 : Nat) (p1 : Int32) (S : CS) (post : Int32 → CS → Prop) (hw : wC_X9_startOf t0 p1 S post) : e_Mi clE l yX9_startOf wsX9_startOf { frames := 1, cells := 0, slots := 0, locals := 21 } D (tyC cy) (wC h cy) [.ref t0, .int p1] S post := by
  intro sz
  refine Met.ofW (cc := cX9_startOf) (maxL := 2) (ret := (some .int)) (by decide) rfl ?_
  intro p e s m args below meth c s₁ B hml hv
  obtain ⟨rfl, hsz, hP, hK, hD0, hs⟩ := hv
  have hx := B.exec
  have hb := B.bytes
  have hr := B.returns
  have hts := atoms_spec (ws := wsX9_startOf) B.pre
  have hown : s.vm.findClass RX9 = some m.cls := findClass_of_methodNamed B.named
  have hlocks := B.notSynchronized
  subst hsz
  have hD := hD0.self (sz := s.heap.size)
  generalize hAe : va_A (wC h cy S) s.heap.size = A at hD hs ⊢
  have hA : ∀ q : Nat, s.heap.size ≤ q → A q := fun q h => by rw [← hAe]; exact Or.inr h
  have hS : va_S A s.heap s.heap [] := va_S.rf
  have hin9 : ∀ w ∈ wsX90, w ∈ wsX9_startOf := fun _ h => List.mem_cons_of_mem _ (List.mem_append_right _ h)
  have w20 := hts (.fieldLink RX9 20 "ClownsMourn$Text" "bounds" "[I") (List.mem_of_getElem? (i := 1) rfl)
  have wiX11 := hts (.initialized RX11) (List.mem_of_getElem? (i := 3) rfl)
  have wstat := hts (.static yX11_at) (List.mem_of_getElem? (i := 2) rfl)
  have hl := lv_entry ([.ref t0, .int p1]) (n := 2) (Nat.le_of_ble_eq_true rfl)
  rw [lg_entry_eq]
  generalize (lg_sl ([.ref t0, .int p1]) ++ List.replicate (2 - (lg_sl ([.ref t0, .int p1])).length) Slot.unset).toArray = ls at hl ⊢
  have hl : lv_has ls 2 [(0, .ref t0), (1, .int p1)] := hl
  unfold wC_X9_startOf at hw
  clear hD0
  refine lv_aload_n hx hb dX9_startOf_0 rfl (lv_at hl 0 rfl) ?_
  obtain ⟨B_1, hmB_1, hw⟩ := hw
  obtain ⟨qB_1, hqB_1⟩ := px_obj (h := h) (cy := cy) hmB_1
  refine va_get (D := D) (ci := 9) (v := .ref B_1.2.1.2.2) (C := RX9) (T := TX9) (N := 4) hx hb hts hin9 hown hK hP qB_1 hqB_1 rfl 3 (by decide) w20 (fun _ h9 => h9) rfl dX9_startOf_1 ?_
  refine lv_iload_n hx hb dX9_startOf_4 rfl (lv_at hl 1 rfl) ?_
  refine lv_iconst (v := 2) hx hb dX9_startOf_5 (by decide) ?_
  refine lv_imul hx hb dX9_startOf_6 ?_
  obtain ⟨hnq_2, hw⟩ := hw
  obtain ⟨q_2, hq_2⟩ := px_r3 (h := h) (cy := cy) hmB_1
  refine e_callNi (As := [.ref B_1.2.1.2.2, .int (p1 * 2)]) (rest := []) clE_stable hs ⟨hx, hb, hml, hown, hts⟩ (cA_at l D clE (tyC cy) (wC h cy) S q_2 24 _ _ B_1.2.2.2.2.1 B_1.2.2.2.2.2 hq_2 rfl hnq_2 _ (fun r S0 => r = k_at B_1.2.2.2.2.1 B_1.2.2.2.2.2 (p1 * 2) ∧ S = S0) ⟨rfl, rfl⟩) ⟨va_cnB 2 hts gX9_startOf_X11_at_n25 rfl rfl rfl hs.1.2.2.2.2.2.2.2.2.2.2.2.2.2.1 wiX11 (by decide +kernel) ⟨Nat.le_of_ble_eq_true rfl, Nat.le_of_ble_eq_true rfl⟩, wstat, trivial⟩ hK hP hD hS hA rfl hl.1 rfl (Nat.le_of_ble_eq_true rfl) dX9_startOf_7 ⟨Nat.zero_le _, Nat.zero_le _⟩ (fun r_ S_ H locs hq hP hD hS => ?_)
  obtain ⟨rfl, rfl⟩ := hq
  exact W.iret (v := k_at B_1.2.2.2.2.1 B_1.2.2.2.2.2 (p1 * 2)) hx hb hr (fun t ht hW => ⟨⟨k_at B_1.2.2.2.2.1 B_1.2.2.2.2.2 (p1 * 2), S, rfl, hw, by rw [ht]; exact hP, va_K.moved hW.alike hK, hD⟩, hS.F ht⟩) hS.2.2 dX9_startOf_10
def wC_X9_stopOf (t0 : Nat) (p1 : Int32) (S : CS) (post : Int32 → CS → Prop) : Prop := (∃ B_1 : TB, (t0, B_1) ∈ cx_px S ∧ (B_1.2.2.2.2.1 < 2 ^ 31 ∧ post (k_at B_1.2.2.2.2.1 B_1.2.2.2.2.2 ((p1 * 2) + 1)) S))
set_option maxHeartbeats 4000000 in
set_option maxRecDepth 100000 in
theorem cC_X9_stopOf (l : Launch) (D : va_G) (h : Nat → Nat) (cy : Nat → ClassId) (t0 : Nat) (p1 : Int32) (S : CS) (post : Int32 → CS → Prop) (hw : wC_X9_stopOf t0 p1 S post) : e_Mi clE l yX9_stopOf wsX9_stopOf { frames := 1, cells := 0, slots := 0, locals := 21 } D (tyC cy) (wC h cy) [.ref t0, .int p1] S post := by
  intro sz
  refine Met.ofW (cc := cX9_stopOf) (maxL := 2) (ret := (some .int)) (by decide) rfl ?_
  intro p e s m args below meth c s₁ B hml hv
  obtain ⟨rfl, hsz, hP, hK, hD0, hs⟩ := hv
  have hx := B.exec
  have hb := B.bytes
  have hr := B.returns
  have hts := atoms_spec (ws := wsX9_stopOf) B.pre
  have hown : s.vm.findClass RX9 = some m.cls := findClass_of_methodNamed B.named
  have hlocks := B.notSynchronized
  subst hsz
  have hD := hD0.self (sz := s.heap.size)
  generalize hAe : va_A (wC h cy S) s.heap.size = A at hD hs ⊢
  have hA : ∀ q : Nat, s.heap.size ≤ q → A q := fun q h => by rw [← hAe]; exact Or.inr h
  have hS : va_S A s.heap s.heap [] := va_S.rf
  have hin9 : ∀ w ∈ wsX90, w ∈ wsX9_stopOf := fun _ h => List.mem_cons_of_mem _ (List.mem_append_right _ h)
  have w20 := hts (.fieldLink RX9 20 "ClownsMourn$Text" "bounds" "[I") (List.mem_of_getElem? (i := 1) rfl)
  have wiX11 := hts (.initialized RX11) (List.mem_of_getElem? (i := 3) rfl)
  have wstat := hts (.static yX11_at) (List.mem_of_getElem? (i := 2) rfl)
  have hl := lv_entry ([.ref t0, .int p1]) (n := 2) (Nat.le_of_ble_eq_true rfl)
  rw [lg_entry_eq]
  generalize (lg_sl ([.ref t0, .int p1]) ++ List.replicate (2 - (lg_sl ([.ref t0, .int p1])).length) Slot.unset).toArray = ls at hl ⊢
  have hl : lv_has ls 2 [(0, .ref t0), (1, .int p1)] := hl
  unfold wC_X9_stopOf at hw
  clear hD0
  refine lv_aload_n hx hb dX9_stopOf_0 rfl (lv_at hl 0 rfl) ?_
  obtain ⟨B_1, hmB_1, hw⟩ := hw
  obtain ⟨qB_1, hqB_1⟩ := px_obj (h := h) (cy := cy) hmB_1
  refine va_get (D := D) (ci := 9) (v := .ref B_1.2.1.2.2) (C := RX9) (T := TX9) (N := 4) hx hb hts hin9 hown hK hP qB_1 hqB_1 rfl 3 (by decide) w20 (fun _ h9 => h9) rfl dX9_stopOf_1 ?_
  refine lv_iload_n hx hb dX9_stopOf_4 rfl (lv_at hl 1 rfl) ?_
  refine lv_iconst (v := 2) hx hb dX9_stopOf_5 (by decide) ?_
  refine lv_imul hx hb dX9_stopOf_6 ?_
  refine lv_iconst (v := 1) hx hb dX9_stopOf_7 (by decide) ?_
  refine lv_iadd hx hb dX9_stopOf_8 ?_
  obtain ⟨hnq_2, hw⟩ := hw
  obtain ⟨q_2, hq_2⟩ := px_r3 (h := h) (cy := cy) hmB_1
  refine e_callNi (As := [.ref B_1.2.1.2.2, .int ((p1 * 2) + 1)]) (rest := []) clE_stable hs ⟨hx, hb, hml, hown, hts⟩ (cA_at l D clE (tyC cy) (wC h cy) S q_2 24 _ _ B_1.2.2.2.2.1 B_1.2.2.2.2.2 hq_2 rfl hnq_2 _ (fun r S0 => r = k_at B_1.2.2.2.2.1 B_1.2.2.2.2.2 ((p1 * 2) + 1) ∧ S = S0) ⟨rfl, rfl⟩) ⟨va_cnB 2 hts gX9_stopOf_X11_at_n25 rfl rfl rfl hs.1.2.2.2.2.2.2.2.2.2.2.2.2.2.1 wiX11 (by decide +kernel) ⟨Nat.le_of_ble_eq_true rfl, Nat.le_of_ble_eq_true rfl⟩, wstat, trivial⟩ hK hP hD hS hA rfl hl.1 rfl (Nat.le_of_ble_eq_true rfl) dX9_stopOf_9 ⟨Nat.zero_le _, Nat.zero_le _⟩ (fun r_ S_ H locs hq hP hD hS => ?_)
  obtain ⟨rfl, rfl⟩ := hq
  exact W.iret (v := k_at B_1.2.2.2.2.1 B_1.2.2.2.2.2 ((p1 * 2) + 1)) hx hb hr (fun t ht hW => ⟨⟨k_at B_1.2.2.2.2.1 B_1.2.2.2.2.2 ((p1 * 2) + 1), S, rfl, hw, by rw [ht]; exact hP, va_K.moved hW.alike hK, hD⟩, hS.F ht⟩) hS.2.2 dX9_stopOf_12
def wC_X9_hasLaw (t0 : Nat) (p1 : Int32) (S : CS) (post : Int32 → CS → Prop) : Prop := (∃ B_1 : TB, (t0, B_1) ∈ cx_px S ∧ wC_X9_startOf t0 p1 S (fun r_2 S_3 => (∃ B_4 : TB, (t0, B_4) ∈ cx_px S_3 ∧ wC_X9_stopOf t0 p1 S_3 (fun r_5 S_6 => ((r_5 ≤ r_2 → post 0 S_6) ∧ (¬ (r_5 ≤ r_2) → post 1 S_6))))))
set_option maxHeartbeats 4000000 in
set_option maxRecDepth 100000 in
theorem cC_X9_hasLaw (l : Launch) (D : va_G) (h : Nat → Nat) (cy : Nat → ClassId) (t0 : Nat) (p1 : Int32) (S : CS) (post : Int32 → CS → Prop) (hw : wC_X9_hasLaw t0 p1 S post) : e_Mi clE l yX9_hasLaw wsX9_hasLaw { frames := 2, cells := 0, slots := 0, locals := 42 } D (tyC cy) (wC h cy) [.ref t0, .int p1] S post := by
  intro sz
  refine Met.ofW (cc := cX9_hasLaw) (maxL := 2) (ret := (some .boolean)) (by decide) rfl ?_
  intro p e s m args below meth c s₁ B hml hv
  obtain ⟨rfl, hsz, hP, hK, hD0, hs⟩ := hv
  have hx := B.exec
  have hb := B.bytes
  have hr := B.returns
  have hts := atoms_spec (ws := wsX9_hasLaw) B.pre
  have hown : s.vm.findClass RX9 = some m.cls := findClass_of_methodNamed B.named
  have hlocks := B.notSynchronized
  subst hsz
  have hD := hD0.self (sz := s.heap.size)
  generalize hAe : va_A (wC h cy S) s.heap.size = A at hD hs ⊢
  have hA : ∀ q : Nat, s.heap.size ≤ q → A q := fun q h => by rw [← hAe]; exact Or.inr h
  have hS : va_S A s.heap s.heap [] := va_S.rf
  have hl := lv_entry ([.ref t0, .int p1]) (n := 2) (Nat.le_of_ble_eq_true rfl)
  rw [lg_entry_eq]
  generalize (lg_sl ([.ref t0, .int p1]) ++ List.replicate (2 - (lg_sl ([.ref t0, .int p1])).length) Slot.unset).toArray = ls at hl ⊢
  have hl : lv_has ls 2 [(0, .ref t0), (1, .int p1)] := hl
  unfold wC_X9_hasLaw at hw
  clear hD0
  refine lv_aload_n hx hb dX9_hasLaw_0 rfl (lv_at hl 0 rfl) ?_
  refine lv_iload_n hx hb dX9_hasLaw_1 rfl (lv_at hl 1 rfl) ?_
  obtain ⟨B_1, hmB_1, hw⟩ := hw
  obtain ⟨qB_1, hqB_1⟩ := px_obj (h := h) (cy := cy) hmB_1
  refine e_callVi (As := [.int p1]) (rest := []) clE_stable hs ⟨hx, hb, hml, hown, hts⟩ (cC_X9_startOf l D h cy _ _ _ _ hw) (cwV 1 hts gX9_hasLaw_X9_startOf rfl rfl rfl (by decide +kernel) ⟨Nat.le_of_ble_eq_true rfl, Nat.le_of_ble_eq_true rfl⟩) (va_recv hK hP (ci := 9) (q0 := qB_1) rfl hqB_1) hK hP hD hS hA rfl hl.1 rfl (Nat.le_of_ble_eq_true rfl) dX9_hasLaw_2 ⟨Nat.zero_le _, Nat.zero_le _⟩ (fun r_2 S_3 H locs hw hP hD hS => ?_)
  refine lv_aload_n hx hb dX9_hasLaw_5 rfl (lv_at hl 0 rfl) ?_
  refine lv_iload_n hx hb dX9_hasLaw_6 rfl (lv_at hl 1 rfl) ?_
  obtain ⟨B_4, hmB_4, hw⟩ := hw
  obtain ⟨qB_4, hqB_4⟩ := px_obj (h := h) (cy := cy) hmB_4
  refine e_callVi (As := [.int p1]) (rest := [.int r_2]) clE_stable hs ⟨hx, hb, hml, hown, hts⟩ (cC_X9_stopOf l D h cy _ _ _ _ hw) (cwV 1 hts gX9_hasLaw_X9_stopOf rfl rfl rfl (by decide +kernel) ⟨Nat.le_of_ble_eq_true rfl, Nat.le_of_ble_eq_true rfl⟩) (va_recv hK hP (ci := 9) (q0 := qB_4) rfl hqB_4) hK hP hD hS hA rfl hl.1 rfl (Nat.le_of_ble_eq_true rfl) dX9_hasLaw_7 ⟨Nat.zero_le _, Nat.zero_le _⟩ (fun r_5 S_6 H locs hw hP hD hS => ?_)
  obtain ⟨hc_7t, hc_7f⟩ := hw
  refine lv_icmp_ge (tgt := 17) hx hb dX9_hasLaw_10 (by decide) (fun c_7 => ?_) (fun c_7 => ?_)
  · have hw := hc_7t c_7
    clear hc_7t hc_7f
    refine lv_iconst (v := 0) hx hb dX9_hasLaw_17 (by decide) ?_
    exact W.zret (v := 0) hx hb hr (by decide +kernel) (fun t ht hW => ⟨⟨0, S_6, rfl, hw, by rw [ht]; exact hP, va_K.moved hW.alike hK, hD⟩, hS.F ht⟩) hS.2.2 dX9_hasLaw_18
  · have hw := hc_7f c_7
    clear hc_7t hc_7f
    refine lv_iconst (v := 1) hx hb dX9_hasLaw_13 (by decide) ?_
    refine lv_goto (tgt := 18) hx hb dX9_hasLaw_14 (by decide) ?_
    exact W.zret (v := 1) hx hb hr (by decide +kernel) (fun t ht hW => ⟨⟨1, S_6, rfl, hw, by rw [ht]; exact hP, va_K.moved hW.alike hK, hD⟩, hS.F ht⟩) hS.2.2 dX9_hasLaw_18
def wC_X0_today (S : CS) (post : Int32 → CS → Prop) : Prop := post (k_at 74 (cx_c_now S) 39) S
set_option maxHeartbeats 4000000 in
set_option maxRecDepth 100000 in
theorem cC_X0_today (l : Launch) (D : va_G) (h : Nat → Nat) (cy : Nat → ClassId) (S : CS) (post : Int32 → CS → Prop) (hw : wC_X0_today S post) : e_Mi clE l yX0_today wsX0_today { frames := 1, cells := 0, slots := 0, locals := 21 } D (tyC cy) (wC h cy) [.ref (h 1)] S post := by
  intro sz
  refine Met.ofW (cc := cX0_today) (maxL := 1) (ret := (some .int)) (by decide) rfl ?_
  intro p e s m args below meth c s₁ B hml hv
  obtain ⟨rfl, hsz, hP, hK, hD0, hs⟩ := hv
  have hx := B.exec
  have hb := B.bytes
  have hr := B.returns
  have hts := atoms_spec (ws := wsX0_today) B.pre
  have hown : s.vm.findClass RX0 = some m.cls := findClass_of_methodNamed B.named
  have hlocks := B.notSynchronized
  subst hsz
  have hD := hD0.self (sz := s.heap.size)
  generalize hAe : va_A (wC h cy S) s.heap.size = A at hD hs ⊢
  have hA : ∀ q : Nat, s.heap.size ≤ q → A q := fun q h => by rw [← hAe]; exact Or.inr h
  have hS : va_S A s.heap s.heap [] := va_S.rf
  have hin0 : ∀ w ∈ wsX00, w ∈ wsX0_today := fun _ h => List.mem_cons_of_mem _ (List.mem_append_right _ h)
  have w11 := hts (.fieldLink RX0 11 "ClownsMourn$City" "now" "[I") (List.mem_of_getElem? (i := 1) rfl)
  have wiX11 := hts (.initialized RX11) (List.mem_of_getElem? (i := 3) rfl)
  have wstat := hts (.static yX11_at) (List.mem_of_getElem? (i := 2) rfl)
  have hl := lv_entry ([.ref (h 1)]) (n := 1) (Nat.le_of_ble_eq_true rfl)
  rw [lg_entry_eq]
  generalize (lg_sl ([.ref (h 1)]) ++ List.replicate (1 - (lg_sl ([.ref (h 1)])).length) Slot.unset).toArray = ls at hl ⊢
  have hl : lv_has ls 1 [(0, .ref (h 1))] := hl
  unfold wC_X0_today at hw
  clear hD0
  refine lv_aload_n hx hb dX0_today_0 rfl (lv_at hl 0 rfl) ?_
  refine va_get (D := D) (ci := 0) (v := .ref (h 12)) (C := RX0) (T := TX0) (N := 16) hx hb hts hin0 hown hK hP 1 rfl rfl 0 (by decide) w11 (fun _ h9 => h9) rfl dX0_today_1 ?_
  refine lv_bipush (v := 39) hx hb dX0_today_4 (by decide) ?_
  refine e_callNi (As := [.ref (h 12), .int 39]) (rest := []) clE_stable hs ⟨hx, hb, hml, hown, hts⟩ (cA_at l D clE (tyC cy) (wC h cy) S 12 0 _ _ 74 (cx_c_now S) rfl rfl (by decide) _ (fun r S0 => r = k_at 74 (cx_c_now S) 39 ∧ S = S0) ⟨rfl, rfl⟩) ⟨va_cnB 2 hts gX0_today_X11_at_n86 rfl rfl rfl hs.1.2.2.2.2.2.2.1 wiX11 (by decide +kernel) ⟨Nat.le_of_ble_eq_true rfl, Nat.le_of_ble_eq_true rfl⟩, wstat, trivial⟩ hK hP hD hS hA rfl hl.1 rfl (Nat.le_of_ble_eq_true rfl) dX0_today_6 ⟨Nat.zero_le _, Nat.zero_le _⟩ (fun r_ S_ H locs hq hP hD hS => ?_)
  obtain ⟨rfl, rfl⟩ := hq
  exact W.iret (v := k_at 74 (cx_c_now S) 39) hx hb hr (fun t ht hW => ⟨⟨k_at 74 (cx_c_now S) 39, S, rfl, hw, by rw [ht]; exact hP, va_K.moved hW.alike hK, hD⟩, hS.F ht⟩) hS.2.2 dX0_today_9
def wC_X3_nameHouse (p1 : Int32) (S : CS) (post : CS → Prop) : Prop := wC_X0_today S (fun r_1 S_2 => (∀ S_3 : CS, S_3 = (cx_set_l_named S_2 (k_put 12 (cx_l_named S_2) 0 r_1)) → (∀ S_4 : CS, S_4 = (cx_set_l_named S_3 (k_put 12 (cx_l_named S_3) 1 (k_at 6 (cx_c_kinds S_3) p1))) → wC_X0_see 0 p1 S_4 (fun r_5 S_6 => (∀ S_7 : CS, S_7 = (cx_set_l_named S_6 (k_put 12 (cx_l_named S_6) 2 r_5)) → wC_X0_see 6 p1 S_7 (fun r_8 S_9 => (∀ S_10 : CS, S_10 = (cx_set_l_named S_9 (k_put 12 (cx_l_named S_9) 3 r_8)) → wC_X0_see 18 p1 S_10 (fun r_11 S_12 => (∀ S_13 : CS, S_13 = (cx_set_l_named S_12 (k_put 12 (cx_l_named S_12) 4 r_11)) → (∀ S_14 : CS, S_14 = (cx_set_l_named S_13 (k_put 12 (cx_l_named S_13) 5 p1)) → post S_14))))))))))
set_option maxHeartbeats 4000000 in
set_option maxRecDepth 100000 in
theorem cC_X3_nameHouse (l : Launch) (D : va_G) (h : Nat → Nat) (cy : Nat → ClassId) (p1 : Int32) (S : CS) (post : CS → Prop) (hw : wC_X3_nameHouse p1 S post) : e_Mv clE l yX3_nameHouse wsX3_nameHouse { frames := 2, cells := 0, slots := 0, locals := 43 } D (tyC cy) (wC h cy) [.ref (h 6), .int p1] S post := by
  intro sz
  refine Met.ofW (cc := cX3_nameHouse) (maxL := 2) (ret := none) (by decide) rfl ?_
  intro p e s m args below meth c s₁ B hml hv
  obtain ⟨rfl, hsz, hP, hK, hD0, hs⟩ := hv
  have hx := B.exec
  have hb := B.bytes
  have hr := B.returns
  have hts := atoms_spec (ws := wsX3_nameHouse) B.pre
  have hown : s.vm.findClass RX3 = some m.cls := findClass_of_methodNamed B.named
  have hlocks := B.notSynchronized
  subst hsz
  have hD := hD0.self (sz := s.heap.size)
  generalize hAe : va_A (wC h cy S) s.heap.size = A at hD hs ⊢
  have hA : ∀ q : Nat, s.heap.size ≤ q → A q := fun q h => by rw [← hAe]; exact Or.inr h
  have hS : va_S A s.heap s.heap [] := va_S.rf
  have hin3 : ∀ w ∈ wsX30, w ∈ wsX3_nameHouse := fun _ h => List.mem_cons_of_mem _ (List.mem_append_left _ (List.mem_append_right _ h))
  have hin0 : ∀ w ∈ wsX00, w ∈ wsX3_nameHouse := fun _ h => List.mem_cons_of_mem _ (List.mem_append_right _ h)
  have w22 := hts (.fieldLink RX3 22 "ClownsMourn$Laws" "city" "LClownsMourn$City;") (List.mem_of_getElem? (i := 2) rfl)
  have w87 := hts (.fieldLink RX3 87 "ClownsMourn$City" "kinds" "[I") (List.mem_of_getElem? (i := 3) rfl)
  have w9 := hts (.fieldLink RX3 9 "ClownsMourn$Laws" "named" "[I") (List.mem_of_getElem? (i := 1) rfl)
  have wiX11 := hts (.initialized RX11) (List.mem_of_getElem? (i := 11) rfl)
  have wstat := hts (.static yX11_at) (List.mem_of_getElem? (i := 10) rfl)
  have wstput := hts (.static yX11_put) (List.mem_of_getElem? (i := 13) rfl)
  have hl := lv_entry ([.ref (h 6), .int p1]) (n := 2) (Nat.le_of_ble_eq_true rfl)
  rw [lg_entry_eq]
  generalize (lg_sl ([.ref (h 6), .int p1]) ++ List.replicate (2 - (lg_sl ([.ref (h 6), .int p1])).length) Slot.unset).toArray = ls at hl ⊢
  have hl : lv_has ls 2 [(0, .ref (h 6)), (1, .int p1)] := hl
  unfold wC_X3_nameHouse at hw
  clear hD0
  refine lv_aload_n hx hb dX3_nameHouse_0 rfl (lv_at hl 0 rfl) ?_
  refine va_get (D := D) (ci := 3) (v := .ref (h 40)) (C := RX3) (T := TX3) (N := 4) hx hb hts hin3 hown hK hP 6 rfl rfl 1 (by decide) w9 (fun _ h9 => h9) rfl dX3_nameHouse_1 ?_
  refine lv_iconst (v := 0) hx hb dX3_nameHouse_4 (by decide) ?_
  refine lv_aload_n hx hb dX3_nameHouse_5 rfl (lv_at hl 0 rfl) ?_
  refine va_get (D := D) (ci := 3) (v := .ref (h 1)) (C := RX3) (T := TX3) (N := 4) hx hb hts hin3 hown hK hP 6 rfl rfl 0 (by decide) w22 (fun _ h9 => h9) rfl dX3_nameHouse_6 ?_
  refine e_callVi (As := []) (rest := [.int 0, .ref (h 40)]) clE_stable hs ⟨hx, hb, hml, hown, hts⟩ (cC_X0_today l D h cy _ _ hw) (cwV 0 hts gX3_nameHouse_X0_today rfl rfl rfl (by decide +kernel) ⟨Nat.le_of_ble_eq_true rfl, Nat.le_of_ble_eq_true rfl⟩) (va_recv hK hP (ci := 0) (q0 := 1) rfl rfl) hK hP hD hS hA rfl hl.1 rfl (Nat.le_of_ble_eq_true rfl) dX3_nameHouse_9 ⟨Nat.zero_le _, Nat.zero_le _⟩ (fun r_1 S_2 H locs hw hP hD hS => ?_)
  refine e_callNv (As := [.ref (h 40), .int 0, .int r_1]) (rest := []) clE_stable hs ⟨hx, hb, hml, hown, hts⟩ (cA_put l D clE (tyC cy) (wC h cy) cx_l_named cx_set_l_named S_2 40 28 _ _ 12 rfl (wCs_l_named h cy S_2) rfl (by decide) _ _ (fun S0 => S0 = (cx_set_l_named S_2 (k_put 12 (cx_l_named S_2) 0 r_1))) rfl) ⟨va_cnB 3 hts gX3_nameHouse_X11_put_n79 rfl rfl rfl hs.1.2.2.2.2.2.2.2.2.2.2.2.2.2.2.2.1 wiX11 (by decide +kernel) ⟨Nat.le_of_ble_eq_true rfl, Nat.le_of_ble_eq_true rfl⟩, wstput, trivial⟩ hK hP hD hS hA rfl hl.1 rfl (Nat.le_of_ble_eq_true rfl) dX3_nameHouse_12 ⟨Nat.zero_le _, Nat.zero_le _⟩ (fun S_3 H locs eS_3 hP hD hS => ?_)
  replace hw := hw S_3 eS_3
  refine lv_aload_n hx hb dX3_nameHouse_15 rfl (lv_at hl 0 rfl) ?_
  refine va_get (D := D) (ci := 3) (v := .ref (h 40)) (C := RX3) (T := TX3) (N := 4) hx hb hts hin3 hown hK hP 6 rfl rfl 1 (by decide) w9 (fun _ h9 => h9) rfl dX3_nameHouse_16 ?_
  refine lv_iconst (v := 1) hx hb dX3_nameHouse_19 (by decide) ?_
  refine lv_aload_n hx hb dX3_nameHouse_20 rfl (lv_at hl 0 rfl) ?_
  refine va_get (D := D) (ci := 3) (v := .ref (h 1)) (C := RX3) (T := TX3) (N := 4) hx hb hts hin3 hown hK hP 6 rfl rfl 0 (by decide) w22 (fun _ h9 => h9) rfl dX3_nameHouse_21 ?_
  refine va_get (D := D) (ci := 0) (v := .ref (h 13)) (C := RX0) (T := TX0) (N := 16) hx hb hts hin0 hown hK hP 1 rfl rfl 2 (by decide) w87 (fun _ h9 => h9) rfl dX3_nameHouse_24 ?_
  refine lv_iload_n hx hb dX3_nameHouse_27 rfl (lv_at hl 1 rfl) ?_
  refine e_callNi (As := [.ref (h 13), .int p1]) (rest := [.int 1, .ref (h 40)]) clE_stable hs ⟨hx, hb, hml, hown, hts⟩ (cA_at l D clE (tyC cy) (wC h cy) S_3 13 1 _ _ 6 (cx_c_kinds S_3) rfl rfl (by decide) _ (fun r S0 => r = k_at 6 (cx_c_kinds S_3) p1 ∧ S_3 = S0) ⟨rfl, rfl⟩) ⟨va_cnB 2 hts gX3_nameHouse_X11_at_n44 rfl rfl rfl hs.1.2.2.2.2.2.2.2.2.2.2.2.2.2.2.1 wiX11 (by decide +kernel) ⟨Nat.le_of_ble_eq_true rfl, Nat.le_of_ble_eq_true rfl⟩, wstat, trivial⟩ hK hP hD hS hA rfl hl.1 rfl (Nat.le_of_ble_eq_true rfl) dX3_nameHouse_28 ⟨Nat.zero_le _, Nat.zero_le _⟩ (fun r_ S_ H locs hq hP hD hS => ?_)
  obtain ⟨rfl, rfl⟩ := hq
  refine e_callNv (As := [.ref (h 40), .int 1, .int (k_at 6 (cx_c_kinds S_3) p1)]) (rest := []) clE_stable hs ⟨hx, hb, hml, hown, hts⟩ (cA_put l D clE (tyC cy) (wC h cy) cx_l_named cx_set_l_named S_3 40 28 _ _ 12 rfl (wCs_l_named h cy S_3) rfl (by decide) _ _ (fun S0 => S0 = (cx_set_l_named S_3 (k_put 12 (cx_l_named S_3) 1 (k_at 6 (cx_c_kinds S_3) p1)))) rfl) ⟨va_cnB 3 hts gX3_nameHouse_X11_put_n79 rfl rfl rfl hs.1.2.2.2.2.2.2.2.2.2.2.2.2.2.2.2.1 wiX11 (by decide +kernel) ⟨Nat.le_of_ble_eq_true rfl, Nat.le_of_ble_eq_true rfl⟩, wstput, trivial⟩ hK hP hD hS hA rfl hl.1 rfl (Nat.le_of_ble_eq_true rfl) dX3_nameHouse_31 ⟨Nat.zero_le _, Nat.zero_le _⟩ (fun S_4 H locs eS_4 hP hD hS => ?_)
  replace hw := hw S_4 eS_4
  refine lv_aload_n hx hb dX3_nameHouse_34 rfl (lv_at hl 0 rfl) ?_
  refine va_get (D := D) (ci := 3) (v := .ref (h 40)) (C := RX3) (T := TX3) (N := 4) hx hb hts hin3 hown hK hP 6 rfl rfl 1 (by decide) w9 (fun _ h9 => h9) rfl dX3_nameHouse_35 ?_
  refine lv_iconst (v := 2) hx hb dX3_nameHouse_38 (by decide) ?_
  refine lv_aload_n hx hb dX3_nameHouse_39 rfl (lv_at hl 0 rfl) ?_
  refine va_get (D := D) (ci := 3) (v := .ref (h 1)) (C := RX3) (T := TX3) (N := 4) hx hb hts hin3 hown hK hP 6 rfl rfl 0 (by decide) w22 (fun _ h9 => h9) rfl dX3_nameHouse_40 ?_
  refine lv_iconst (v := 0) hx hb dX3_nameHouse_43 (by decide) ?_
  refine lv_iload_n hx hb dX3_nameHouse_44 rfl (lv_at hl 1 rfl) ?_
  refine e_callVi (As := [.int 0, .int p1]) (rest := [.int 2, .ref (h 40)]) clE_stable hs ⟨hx, hb, hml, hown, hts⟩ (cC_X0_see l D h cy _ _ _ _ hw) (cwV 2 hts gX3_nameHouse_X0_see rfl rfl rfl (by decide +kernel) ⟨Nat.le_of_ble_eq_true rfl, Nat.le_of_ble_eq_true rfl⟩) (va_recv hK hP (ci := 0) (q0 := 1) rfl rfl) hK hP hD hS hA rfl hl.1 rfl (Nat.le_of_ble_eq_true rfl) dX3_nameHouse_45 ⟨Nat.zero_le _, Nat.zero_le _⟩ (fun r_5 S_6 H locs hw hP hD hS => ?_)
  refine e_callNv (As := [.ref (h 40), .int 2, .int r_5]) (rest := []) clE_stable hs ⟨hx, hb, hml, hown, hts⟩ (cA_put l D clE (tyC cy) (wC h cy) cx_l_named cx_set_l_named S_6 40 28 _ _ 12 rfl (wCs_l_named h cy S_6) rfl (by decide) _ _ (fun S0 => S0 = (cx_set_l_named S_6 (k_put 12 (cx_l_named S_6) 2 r_5))) rfl) ⟨va_cnB 3 hts gX3_nameHouse_X11_put_n79 rfl rfl rfl hs.1.2.2.2.2.2.2.2.2.2.2.2.2.2.2.2.1 wiX11 (by decide +kernel) ⟨Nat.le_of_ble_eq_true rfl, Nat.le_of_ble_eq_true rfl⟩, wstput, trivial⟩ hK hP hD hS hA rfl hl.1 rfl (Nat.le_of_ble_eq_true rfl) dX3_nameHouse_48 ⟨Nat.zero_le _, Nat.zero_le _⟩ (fun S_7 H locs eS_7 hP hD hS => ?_)
  replace hw := hw S_7 eS_7
  refine lv_aload_n hx hb dX3_nameHouse_51 rfl (lv_at hl 0 rfl) ?_
  refine va_get (D := D) (ci := 3) (v := .ref (h 40)) (C := RX3) (T := TX3) (N := 4) hx hb hts hin3 hown hK hP 6 rfl rfl 1 (by decide) w9 (fun _ h9 => h9) rfl dX3_nameHouse_52 ?_
  refine lv_iconst (v := 3) hx hb dX3_nameHouse_55 (by decide) ?_
  refine lv_aload_n hx hb dX3_nameHouse_56 rfl (lv_at hl 0 rfl) ?_
  refine va_get (D := D) (ci := 3) (v := .ref (h 1)) (C := RX3) (T := TX3) (N := 4) hx hb hts hin3 hown hK hP 6 rfl rfl 0 (by decide) w22 (fun _ h9 => h9) rfl dX3_nameHouse_57 ?_
  refine lv_bipush (v := 6) hx hb dX3_nameHouse_60 (by decide) ?_
  refine lv_iload_n hx hb dX3_nameHouse_62 rfl (lv_at hl 1 rfl) ?_
  refine e_callVi (As := [.int 6, .int p1]) (rest := [.int 3, .ref (h 40)]) clE_stable hs ⟨hx, hb, hml, hown, hts⟩ (cC_X0_see l D h cy _ _ _ _ hw) (cwV 2 hts gX3_nameHouse_X0_see rfl rfl rfl (by decide +kernel) ⟨Nat.le_of_ble_eq_true rfl, Nat.le_of_ble_eq_true rfl⟩) (va_recv hK hP (ci := 0) (q0 := 1) rfl rfl) hK hP hD hS hA rfl hl.1 rfl (Nat.le_of_ble_eq_true rfl) dX3_nameHouse_63 ⟨Nat.zero_le _, Nat.zero_le _⟩ (fun r_8 S_9 H locs hw hP hD hS => ?_)
  refine e_callNv (As := [.ref (h 40), .int 3, .int r_8]) (rest := []) clE_stable hs ⟨hx, hb, hml, hown, hts⟩ (cA_put l D clE (tyC cy) (wC h cy) cx_l_named cx_set_l_named S_9 40 28 _ _ 12 rfl (wCs_l_named h cy S_9) rfl (by decide) _ _ (fun S0 => S0 = (cx_set_l_named S_9 (k_put 12 (cx_l_named S_9) 3 r_8))) rfl) ⟨va_cnB 3 hts gX3_nameHouse_X11_put_n79 rfl rfl rfl hs.1.2.2.2.2.2.2.2.2.2.2.2.2.2.2.2.1 wiX11 (by decide +kernel) ⟨Nat.le_of_ble_eq_true rfl, Nat.le_of_ble_eq_true rfl⟩, wstput, trivial⟩ hK hP hD hS hA rfl hl.1 rfl (Nat.le_of_ble_eq_true rfl) dX3_nameHouse_66 ⟨Nat.zero_le _, Nat.zero_le _⟩ (fun S_10 H locs eS_10 hP hD hS => ?_)
  replace hw := hw S_10 eS_10
  refine lv_aload_n hx hb dX3_nameHouse_69 rfl (lv_at hl 0 rfl) ?_
  refine va_get (D := D) (ci := 3) (v := .ref (h 40)) (C := RX3) (T := TX3) (N := 4) hx hb hts hin3 hown hK hP 6 rfl rfl 1 (by decide) w9 (fun _ h9 => h9) rfl dX3_nameHouse_70 ?_
  refine lv_iconst (v := 4) hx hb dX3_nameHouse_73 (by decide) ?_
  refine lv_aload_n hx hb dX3_nameHouse_74 rfl (lv_at hl 0 rfl) ?_
  refine va_get (D := D) (ci := 3) (v := .ref (h 1)) (C := RX3) (T := TX3) (N := 4) hx hb hts hin3 hown hK hP 6 rfl rfl 0 (by decide) w22 (fun _ h9 => h9) rfl dX3_nameHouse_75 ?_
  refine lv_bipush (v := 18) hx hb dX3_nameHouse_78 (by decide) ?_
  refine lv_iload_n hx hb dX3_nameHouse_80 rfl (lv_at hl 1 rfl) ?_
  refine e_callVi (As := [.int 18, .int p1]) (rest := [.int 4, .ref (h 40)]) clE_stable hs ⟨hx, hb, hml, hown, hts⟩ (cC_X0_see l D h cy _ _ _ _ hw) (cwV 2 hts gX3_nameHouse_X0_see rfl rfl rfl (by decide +kernel) ⟨Nat.le_of_ble_eq_true rfl, Nat.le_of_ble_eq_true rfl⟩) (va_recv hK hP (ci := 0) (q0 := 1) rfl rfl) hK hP hD hS hA rfl hl.1 rfl (Nat.le_of_ble_eq_true rfl) dX3_nameHouse_81 ⟨Nat.zero_le _, Nat.zero_le _⟩ (fun r_11 S_12 H locs hw hP hD hS => ?_)
  refine e_callNv (As := [.ref (h 40), .int 4, .int r_11]) (rest := []) clE_stable hs ⟨hx, hb, hml, hown, hts⟩ (cA_put l D clE (tyC cy) (wC h cy) cx_l_named cx_set_l_named S_12 40 28 _ _ 12 rfl (wCs_l_named h cy S_12) rfl (by decide) _ _ (fun S0 => S0 = (cx_set_l_named S_12 (k_put 12 (cx_l_named S_12) 4 r_11))) rfl) ⟨va_cnB 3 hts gX3_nameHouse_X11_put_n79 rfl rfl rfl hs.1.2.2.2.2.2.2.2.2.2.2.2.2.2.2.2.1 wiX11 (by decide +kernel) ⟨Nat.le_of_ble_eq_true rfl, Nat.le_of_ble_eq_true rfl⟩, wstput, trivial⟩ hK hP hD hS hA rfl hl.1 rfl (Nat.le_of_ble_eq_true rfl) dX3_nameHouse_84 ⟨Nat.zero_le _, Nat.zero_le _⟩ (fun S_13 H locs eS_13 hP hD hS => ?_)
  replace hw := hw S_13 eS_13
  refine lv_aload_n hx hb dX3_nameHouse_87 rfl (lv_at hl 0 rfl) ?_
  refine va_get (D := D) (ci := 3) (v := .ref (h 40)) (C := RX3) (T := TX3) (N := 4) hx hb hts hin3 hown hK hP 6 rfl rfl 1 (by decide) w9 (fun _ h9 => h9) rfl dX3_nameHouse_88 ?_
  refine lv_iconst (v := 5) hx hb dX3_nameHouse_91 (by decide) ?_
  refine lv_iload_n hx hb dX3_nameHouse_92 rfl (lv_at hl 1 rfl) ?_
  refine e_callNv (As := [.ref (h 40), .int 5, .int p1]) (rest := []) clE_stable hs ⟨hx, hb, hml, hown, hts⟩ (cA_put l D clE (tyC cy) (wC h cy) cx_l_named cx_set_l_named S_13 40 28 _ _ 12 rfl (wCs_l_named h cy S_13) rfl (by decide) _ _ (fun S0 => S0 = (cx_set_l_named S_13 (k_put 12 (cx_l_named S_13) 5 p1))) rfl) ⟨va_cnB 3 hts gX3_nameHouse_X11_put_n79 rfl rfl rfl hs.1.2.2.2.2.2.2.2.2.2.2.2.2.2.2.2.1 wiX11 (by decide +kernel) ⟨Nat.le_of_ble_eq_true rfl, Nat.le_of_ble_eq_true rfl⟩, wstput, trivial⟩ hK hP hD hS hA rfl hl.1 rfl (Nat.le_of_ble_eq_true rfl) dX3_nameHouse_93 ⟨Nat.zero_le _, Nat.zero_le _⟩ (fun S_14 H locs eS_14 hP hD hS => ?_)
  replace hw := hw S_14 eS_14
  exact W.vret hx hb hr (fun t ht hW => ⟨⟨S_14, rfl, hw, by rw [ht]; exact hP, va_K.moved hW.alike hK, hD⟩, hS.F ht⟩) hS.2.2 dX3_nameHouse_96
def wC_X3_nameClown (p1 : Int32) (p2 : Int32) (S : CS) (post : CS → Prop) : Prop := (∀ S_1 : CS, S_1 = (cx_set_l_named S (k_put 12 (cx_l_named S) 6 (k_at 5 (cx_c_skills S) p1))) → (∀ S_2 : CS, S_2 = (cx_set_l_named S_1 (k_put 12 (cx_l_named S_1) 7 (k_at 5 (cx_c_ages S_1) p1))) → wC_X0_see 24 p1 S_2 (fun r_3 S_4 => (∀ S_5 : CS, S_5 = (cx_set_l_named S_4 (k_put 12 (cx_l_named S_4) 8 r_3)) → (∀ S_6 : CS, S_6 = (cx_set_l_named S_5 (k_put 12 (cx_l_named S_5) 9 p2)) → (∀ S_7 : CS, S_7 = (cx_set_l_named S_6 (k_put 12 (cx_l_named S_6) 10 p1)) → post S_7))))))
set_option maxHeartbeats 4000000 in
set_option maxRecDepth 100000 in
theorem cC_X3_nameClown (l : Launch) (D : va_G) (h : Nat → Nat) (cy : Nat → ClassId) (p1 : Int32) (p2 : Int32) (S : CS) (post : CS → Prop) (hw : wC_X3_nameClown p1 p2 S post) : e_Mv clE l yX3_nameClown wsX3_nameClown { frames := 2, cells := 0, slots := 0, locals := 43 } D (tyC cy) (wC h cy) [.ref (h 6), .int p1, .int p2] S post := by
  intro sz
  refine Met.ofW (cc := cX3_nameClown) (maxL := 3) (ret := none) (by decide) rfl ?_
  intro p e s m args below meth c s₁ B hml hv
  obtain ⟨rfl, hsz, hP, hK, hD0, hs⟩ := hv
  have hx := B.exec
  have hb := B.bytes
  have hr := B.returns
  have hts := atoms_spec (ws := wsX3_nameClown) B.pre
  have hown : s.vm.findClass RX3 = some m.cls := findClass_of_methodNamed B.named
  have hlocks := B.notSynchronized
  subst hsz
  have hD := hD0.self (sz := s.heap.size)
  generalize hAe : va_A (wC h cy S) s.heap.size = A at hD hs ⊢
  have hA : ∀ q : Nat, s.heap.size ≤ q → A q := fun q h => by rw [← hAe]; exact Or.inr h
  have hS : va_S A s.heap s.heap [] := va_S.rf
  have hin3 : ∀ w ∈ wsX30, w ∈ wsX3_nameClown := fun _ h => List.mem_cons_of_mem _ (List.mem_append_left _ (List.mem_append_right _ h))
  have hin0 : ∀ w ∈ wsX00, w ∈ wsX3_nameClown := fun _ h => List.mem_cons_of_mem _ (List.mem_append_right _ h)
  have w22 := hts (.fieldLink RX3 22 "ClownsMourn$Laws" "city" "LClownsMourn$City;") (List.mem_of_getElem? (i := 2) rfl)
  have w41 := hts (.fieldLink RX3 41 "ClownsMourn$City" "skills" "[I") (List.mem_of_getElem? (i := 3) rfl)
  have w9 := hts (.fieldLink RX3 9 "ClownsMourn$Laws" "named" "[I") (List.mem_of_getElem? (i := 1) rfl)
  have w90 := hts (.fieldLink RX3 90 "ClownsMourn$City" "ages" "[I") (List.mem_of_getElem? (i := 4) rfl)
  have wiX11 := hts (.initialized RX11) (List.mem_of_getElem? (i := 6) rfl)
  have wstat := hts (.static yX11_at) (List.mem_of_getElem? (i := 5) rfl)
  have wstput := hts (.static yX11_put) (List.mem_of_getElem? (i := 8) rfl)
  have hl := lv_entry ([.ref (h 6), .int p1, .int p2]) (n := 3) (Nat.le_of_ble_eq_true rfl)
  rw [lg_entry_eq]
  generalize (lg_sl ([.ref (h 6), .int p1, .int p2]) ++ List.replicate (3 - (lg_sl ([.ref (h 6), .int p1, .int p2])).length) Slot.unset).toArray = ls at hl ⊢
  have hl : lv_has ls 3 [(0, .ref (h 6)), (1, .int p1), (2, .int p2)] := hl
  unfold wC_X3_nameClown at hw
  clear hD0
  refine lv_aload_n hx hb dX3_nameClown_0 rfl (lv_at hl 0 rfl) ?_
  refine va_get (D := D) (ci := 3) (v := .ref (h 40)) (C := RX3) (T := TX3) (N := 4) hx hb hts hin3 hown hK hP 6 rfl rfl 1 (by decide) w9 (fun _ h9 => h9) rfl dX3_nameClown_1 ?_
  refine lv_bipush (v := 6) hx hb dX3_nameClown_4 (by decide) ?_
  refine lv_aload_n hx hb dX3_nameClown_6 rfl (lv_at hl 0 rfl) ?_
  refine va_get (D := D) (ci := 3) (v := .ref (h 1)) (C := RX3) (T := TX3) (N := 4) hx hb hts hin3 hown hK hP 6 rfl rfl 0 (by decide) w22 (fun _ h9 => h9) rfl dX3_nameClown_7 ?_
  refine va_get (D := D) (ci := 0) (v := .ref (h 14)) (C := RX0) (T := TX0) (N := 16) hx hb hts hin0 hown hK hP 1 rfl rfl 3 (by decide) w41 (fun _ h9 => h9) rfl dX3_nameClown_10 ?_
  refine lv_iload_n hx hb dX3_nameClown_13 rfl (lv_at hl 1 rfl) ?_
  refine e_callNi (As := [.ref (h 14), .int p1]) (rest := [.int 6, .ref (h 40)]) clE_stable hs ⟨hx, hb, hml, hown, hts⟩ (cA_at l D clE (tyC cy) (wC h cy) S 14 2 _ _ 5 (cx_c_skills S) rfl rfl (by decide) _ (fun r S0 => r = k_at 5 (cx_c_skills S) p1 ∧ S = S0) ⟨rfl, rfl⟩) ⟨va_cnB 2 hts gX3_nameClown_X11_at_n44 rfl rfl rfl hs.1.2.2.2.2.2.2.2.2.2.2.2.2.2.2.1 wiX11 (by decide +kernel) ⟨Nat.le_of_ble_eq_true rfl, Nat.le_of_ble_eq_true rfl⟩, wstat, trivial⟩ hK hP hD hS hA rfl hl.1 rfl (Nat.le_of_ble_eq_true rfl) dX3_nameClown_14 ⟨Nat.zero_le _, Nat.zero_le _⟩ (fun r_ S_ H locs hq hP hD hS => ?_)
  obtain ⟨rfl, rfl⟩ := hq
  refine e_callNv (As := [.ref (h 40), .int 6, .int (k_at 5 (cx_c_skills S) p1)]) (rest := []) clE_stable hs ⟨hx, hb, hml, hown, hts⟩ (cA_put l D clE (tyC cy) (wC h cy) cx_l_named cx_set_l_named S 40 28 _ _ 12 rfl (wCs_l_named h cy S) rfl (by decide) _ _ (fun S0 => S0 = (cx_set_l_named S (k_put 12 (cx_l_named S) 6 (k_at 5 (cx_c_skills S) p1)))) rfl) ⟨va_cnB 3 hts gX3_nameClown_X11_put_n79 rfl rfl rfl hs.1.2.2.2.2.2.2.2.2.2.2.2.2.2.2.2.1 wiX11 (by decide +kernel) ⟨Nat.le_of_ble_eq_true rfl, Nat.le_of_ble_eq_true rfl⟩, wstput, trivial⟩ hK hP hD hS hA rfl hl.1 rfl (Nat.le_of_ble_eq_true rfl) dX3_nameClown_17 ⟨Nat.zero_le _, Nat.zero_le _⟩ (fun S_1 H locs eS_1 hP hD hS => ?_)
  replace hw := hw S_1 eS_1
  refine lv_aload_n hx hb dX3_nameClown_20 rfl (lv_at hl 0 rfl) ?_
  refine va_get (D := D) (ci := 3) (v := .ref (h 40)) (C := RX3) (T := TX3) (N := 4) hx hb hts hin3 hown hK hP 6 rfl rfl 1 (by decide) w9 (fun _ h9 => h9) rfl dX3_nameClown_21 ?_
  refine lv_bipush (v := 7) hx hb dX3_nameClown_24 (by decide) ?_
  refine lv_aload_n hx hb dX3_nameClown_26 rfl (lv_at hl 0 rfl) ?_
  refine va_get (D := D) (ci := 3) (v := .ref (h 1)) (C := RX3) (T := TX3) (N := 4) hx hb hts hin3 hown hK hP 6 rfl rfl 0 (by decide) w22 (fun _ h9 => h9) rfl dX3_nameClown_27 ?_
  refine va_get (D := D) (ci := 0) (v := .ref (h 15)) (C := RX0) (T := TX0) (N := 16) hx hb hts hin0 hown hK hP 1 rfl rfl 4 (by decide) w90 (fun _ h9 => h9) rfl dX3_nameClown_30 ?_
  refine lv_iload_n hx hb dX3_nameClown_33 rfl (lv_at hl 1 rfl) ?_
  refine e_callNi (As := [.ref (h 15), .int p1]) (rest := [.int 7, .ref (h 40)]) clE_stable hs ⟨hx, hb, hml, hown, hts⟩ (cA_at l D clE (tyC cy) (wC h cy) S_1 15 3 _ _ 5 (cx_c_ages S_1) rfl rfl (by decide) _ (fun r S0 => r = k_at 5 (cx_c_ages S_1) p1 ∧ S_1 = S0) ⟨rfl, rfl⟩) ⟨va_cnB 2 hts gX3_nameClown_X11_at_n44 rfl rfl rfl hs.1.2.2.2.2.2.2.2.2.2.2.2.2.2.2.1 wiX11 (by decide +kernel) ⟨Nat.le_of_ble_eq_true rfl, Nat.le_of_ble_eq_true rfl⟩, wstat, trivial⟩ hK hP hD hS hA rfl hl.1 rfl (Nat.le_of_ble_eq_true rfl) dX3_nameClown_34 ⟨Nat.zero_le _, Nat.zero_le _⟩ (fun r_ S_ H locs hq hP hD hS => ?_)
  obtain ⟨rfl, rfl⟩ := hq
  refine e_callNv (As := [.ref (h 40), .int 7, .int (k_at 5 (cx_c_ages S_1) p1)]) (rest := []) clE_stable hs ⟨hx, hb, hml, hown, hts⟩ (cA_put l D clE (tyC cy) (wC h cy) cx_l_named cx_set_l_named S_1 40 28 _ _ 12 rfl (wCs_l_named h cy S_1) rfl (by decide) _ _ (fun S0 => S0 = (cx_set_l_named S_1 (k_put 12 (cx_l_named S_1) 7 (k_at 5 (cx_c_ages S_1) p1)))) rfl) ⟨va_cnB 3 hts gX3_nameClown_X11_put_n79 rfl rfl rfl hs.1.2.2.2.2.2.2.2.2.2.2.2.2.2.2.2.1 wiX11 (by decide +kernel) ⟨Nat.le_of_ble_eq_true rfl, Nat.le_of_ble_eq_true rfl⟩, wstput, trivial⟩ hK hP hD hS hA rfl hl.1 rfl (Nat.le_of_ble_eq_true rfl) dX3_nameClown_37 ⟨Nat.zero_le _, Nat.zero_le _⟩ (fun S_2 H locs eS_2 hP hD hS => ?_)
  replace hw := hw S_2 eS_2
  refine lv_aload_n hx hb dX3_nameClown_40 rfl (lv_at hl 0 rfl) ?_
  refine va_get (D := D) (ci := 3) (v := .ref (h 40)) (C := RX3) (T := TX3) (N := 4) hx hb hts hin3 hown hK hP 6 rfl rfl 1 (by decide) w9 (fun _ h9 => h9) rfl dX3_nameClown_41 ?_
  refine lv_bipush (v := 8) hx hb dX3_nameClown_44 (by decide) ?_
  refine lv_aload_n hx hb dX3_nameClown_46 rfl (lv_at hl 0 rfl) ?_
  refine va_get (D := D) (ci := 3) (v := .ref (h 1)) (C := RX3) (T := TX3) (N := 4) hx hb hts hin3 hown hK hP 6 rfl rfl 0 (by decide) w22 (fun _ h9 => h9) rfl dX3_nameClown_47 ?_
  refine lv_bipush (v := 24) hx hb dX3_nameClown_50 (by decide) ?_
  refine lv_iload_n hx hb dX3_nameClown_52 rfl (lv_at hl 1 rfl) ?_
  refine e_callVi (As := [.int 24, .int p1]) (rest := [.int 8, .ref (h 40)]) clE_stable hs ⟨hx, hb, hml, hown, hts⟩ (cC_X0_see l D h cy _ _ _ _ hw) (cwV 2 hts gX3_nameClown_X0_see rfl rfl rfl (by decide +kernel) ⟨Nat.le_of_ble_eq_true rfl, Nat.le_of_ble_eq_true rfl⟩) (va_recv hK hP (ci := 0) (q0 := 1) rfl rfl) hK hP hD hS hA rfl hl.1 rfl (Nat.le_of_ble_eq_true rfl) dX3_nameClown_53 ⟨Nat.zero_le _, Nat.zero_le _⟩ (fun r_3 S_4 H locs hw hP hD hS => ?_)
  refine e_callNv (As := [.ref (h 40), .int 8, .int r_3]) (rest := []) clE_stable hs ⟨hx, hb, hml, hown, hts⟩ (cA_put l D clE (tyC cy) (wC h cy) cx_l_named cx_set_l_named S_4 40 28 _ _ 12 rfl (wCs_l_named h cy S_4) rfl (by decide) _ _ (fun S0 => S0 = (cx_set_l_named S_4 (k_put 12 (cx_l_named S_4) 8 r_3))) rfl) ⟨va_cnB 3 hts gX3_nameClown_X11_put_n79 rfl rfl rfl hs.1.2.2.2.2.2.2.2.2.2.2.2.2.2.2.2.1 wiX11 (by decide +kernel) ⟨Nat.le_of_ble_eq_true rfl, Nat.le_of_ble_eq_true rfl⟩, wstput, trivial⟩ hK hP hD hS hA rfl hl.1 rfl (Nat.le_of_ble_eq_true rfl) dX3_nameClown_56 ⟨Nat.zero_le _, Nat.zero_le _⟩ (fun S_5 H locs eS_5 hP hD hS => ?_)
  replace hw := hw S_5 eS_5
  refine lv_aload_n hx hb dX3_nameClown_59 rfl (lv_at hl 0 rfl) ?_
  refine va_get (D := D) (ci := 3) (v := .ref (h 40)) (C := RX3) (T := TX3) (N := 4) hx hb hts hin3 hown hK hP 6 rfl rfl 1 (by decide) w9 (fun _ h9 => h9) rfl dX3_nameClown_60 ?_
  refine lv_bipush (v := 9) hx hb dX3_nameClown_63 (by decide) ?_
  refine lv_iload_n hx hb dX3_nameClown_65 rfl (lv_at hl 2 rfl) ?_
  refine e_callNv (As := [.ref (h 40), .int 9, .int p2]) (rest := []) clE_stable hs ⟨hx, hb, hml, hown, hts⟩ (cA_put l D clE (tyC cy) (wC h cy) cx_l_named cx_set_l_named S_5 40 28 _ _ 12 rfl (wCs_l_named h cy S_5) rfl (by decide) _ _ (fun S0 => S0 = (cx_set_l_named S_5 (k_put 12 (cx_l_named S_5) 9 p2))) rfl) ⟨va_cnB 3 hts gX3_nameClown_X11_put_n79 rfl rfl rfl hs.1.2.2.2.2.2.2.2.2.2.2.2.2.2.2.2.1 wiX11 (by decide +kernel) ⟨Nat.le_of_ble_eq_true rfl, Nat.le_of_ble_eq_true rfl⟩, wstput, trivial⟩ hK hP hD hS hA rfl hl.1 rfl (Nat.le_of_ble_eq_true rfl) dX3_nameClown_66 ⟨Nat.zero_le _, Nat.zero_le _⟩ (fun S_6 H locs eS_6 hP hD hS => ?_)
  replace hw := hw S_6 eS_6
  refine lv_aload_n hx hb dX3_nameClown_69 rfl (lv_at hl 0 rfl) ?_
  refine va_get (D := D) (ci := 3) (v := .ref (h 40)) (C := RX3) (T := TX3) (N := 4) hx hb hts hin3 hown hK hP 6 rfl rfl 1 (by decide) w9 (fun _ h9 => h9) rfl dX3_nameClown_70 ?_
  refine lv_bipush (v := 10) hx hb dX3_nameClown_73 (by decide) ?_
  refine lv_iload_n hx hb dX3_nameClown_75 rfl (lv_at hl 1 rfl) ?_
  refine e_callNv (As := [.ref (h 40), .int 10, .int p1]) (rest := []) clE_stable hs ⟨hx, hb, hml, hown, hts⟩ (cA_put l D clE (tyC cy) (wC h cy) cx_l_named cx_set_l_named S_6 40 28 _ _ 12 rfl (wCs_l_named h cy S_6) rfl (by decide) _ _ (fun S0 => S0 = (cx_set_l_named S_6 (k_put 12 (cx_l_named S_6) 10 p1))) rfl) ⟨va_cnB 3 hts gX3_nameClown_X11_put_n79 rfl rfl rfl hs.1.2.2.2.2.2.2.2.2.2.2.2.2.2.2.2.1 wiX11 (by decide +kernel) ⟨Nat.le_of_ble_eq_true rfl, Nat.le_of_ble_eq_true rfl⟩, wstput, trivial⟩ hK hP hD hS hA rfl hl.1 rfl (Nat.le_of_ble_eq_true rfl) dX3_nameClown_76 ⟨Nat.zero_le _, Nat.zero_le _⟩ (fun S_7 H locs eS_7 hP hD hS => ?_)
  replace hw := hw S_7 eS_7
  exact W.vret hx hb hr (fun t ht hW => ⟨⟨S_7, rfl, hw, by rw [ht]; exact hP, va_K.moved hW.alike hK, hD⟩, hS.F ht⟩) hS.2.2 dX3_nameClown_79
def wC_X3_pop (S : CS) (post : Int32 → CS → Prop) : Prop := (∀ S_1 : CS, S_1 = (cx_set_l_height S ((cx_l_height S) - 1)) → post (k_at 64 (cx_l_stack S_1) (cx_l_height S_1)) S_1)
set_option maxHeartbeats 4000000 in
set_option maxRecDepth 100000 in
theorem cC_X3_pop (l : Launch) (D : va_G) (h : Nat → Nat) (cy : Nat → ClassId) (S : CS) (post : Int32 → CS → Prop) (hw : wC_X3_pop S post) : e_Mi clE l yX3_pop wsX3_pop { frames := 1, cells := 0, slots := 0, locals := 21 } D (tyC cy) (wC h cy) [.ref (h 6)] S post := by
  intro sz
  refine Met.ofW (cc := cX3_pop) (maxL := 1) (ret := (some .int)) (by decide) rfl ?_
  intro p e s m args below meth c s₁ B hml hv
  obtain ⟨rfl, hsz, hP, hK, hD0, hs⟩ := hv
  have hx := B.exec
  have hb := B.bytes
  have hr := B.returns
  have hts := atoms_spec (ws := wsX3_pop) B.pre
  have hown : s.vm.findClass RX3 = some m.cls := findClass_of_methodNamed B.named
  have hlocks := B.notSynchronized
  subst hsz
  have hD := hD0.self (sz := s.heap.size)
  generalize hAe : va_A (wC h cy S) s.heap.size = A at hD hs ⊢
  have hA : ∀ q : Nat, s.heap.size ≤ q → A q := fun q h => by rw [← hAe]; exact Or.inr h
  have hS : va_S A s.heap s.heap [] := va_S.rf
  have hin3 : ∀ w ∈ wsX30, w ∈ wsX3_pop := fun _ h => List.mem_cons_of_mem _ (List.mem_append_right _ h)
  have w15 := hts (.fieldLink RX3 15 "ClownsMourn$Laws" "stack" "[I") (List.mem_of_getElem? (i := 2) rfl)
  have w18 := hts (.fieldLink RX3 18 "ClownsMourn$Laws" "height" "I") (List.mem_of_getElem? (i := 1) rfl)
  have wiX11 := hts (.initialized RX11) (List.mem_of_getElem? (i := 4) rfl)
  have wstat := hts (.static yX11_at) (List.mem_of_getElem? (i := 3) rfl)
  have hl := lv_entry ([.ref (h 6)]) (n := 1) (Nat.le_of_ble_eq_true rfl)
  rw [lg_entry_eq]
  generalize (lg_sl ([.ref (h 6)]) ++ List.replicate (1 - (lg_sl ([.ref (h 6)])).length) Slot.unset).toArray = ls at hl ⊢
  have hl : lv_has ls 1 [(0, .ref (h 6))] := hl
  unfold wC_X3_pop at hw
  clear hD0
  refine lv_aload_n hx hb dX3_pop_0 rfl (lv_at hl 0 rfl) ?_
  refine lv_dup hx hb dX3_pop_1 rfl ?_
  refine va_get (D := D) (ci := 3) (v := .int (cx_l_height S)) (C := RX3) (T := TX3) (N := 4) hx hb hts hin3 hown hK hP 6 rfl rfl 3 (by decide) w18 (fun _ h9 => h9) rfl dX3_pop_2 ?_
  refine lv_iconst (v := 1) hx hb dX3_pop_5 (by decide) ?_
  refine lv_isub hx hb dX3_pop_6 ?_
  refine va_put (D := D) (ci := 3) (v := .int ((cx_l_height S) - 1)) (ty := .int) (C := RX3) (T := TX3) (N := 4) hx hb hts hin3 tyX3 tyX3_ok nmX3 hown hK hP hD hS 6 rfl rfl 3 (by decide) w18 (fun _ h9 => h9) rfl (tyX3_ok 3 (by decide)) rfl rfl (Nat.le_of_ble_eq_true rfl) dX3_pop_7 (fun H locs hP hD hS => ?_)
  obtain ⟨S_1, eS_1⟩ : ∃ z : CS, z = (cx_set_l_height S ((cx_l_height S) - 1)) := ⟨_, rfl⟩
  replace hw := hw S_1 eS_1
  have hP : va_P D vwCl (wC h cy S_1) H := by rw [eS_1, ← wCp_l_height]; exact hP
  have hD : va_D A (wC h cy S_1) := by rw [eS_1, ← wCp_l_height]; exact hD
  refine lv_aload_n hx hb dX3_pop_10 rfl (lv_at hl 0 rfl) ?_
  refine va_get (D := D) (ci := 3) (v := .ref (h 41)) (C := RX3) (T := TX3) (N := 4) hx hb hts hin3 hown hK hP 6 rfl rfl 2 (by decide) w15 (fun _ h9 => h9) rfl dX3_pop_11 ?_
  refine lv_aload_n hx hb dX3_pop_14 rfl (lv_at hl 0 rfl) ?_
  refine va_get (D := D) (ci := 3) (v := .int (cx_l_height S_1)) (C := RX3) (T := TX3) (N := 4) hx hb hts hin3 hown hK hP 6 rfl rfl 3 (by decide) w18 (fun _ h9 => h9) rfl dX3_pop_15 ?_
  refine e_callNi (As := [.ref (h 41), .int (cx_l_height S_1)]) (rest := []) clE_stable hs ⟨hx, hb, hml, hown, hts⟩ (cA_at l D clE (tyC cy) (wC h cy) S_1 41 29 _ _ 64 (cx_l_stack S_1) rfl rfl (by decide) _ (fun r S0 => r = k_at 64 (cx_l_stack S_1) (cx_l_height S_1) ∧ S_1 = S0) ⟨rfl, rfl⟩) ⟨va_cnB 2 hts gX3_pop_X11_at_n44 rfl rfl rfl hs.1.2.2.2.2.2.2.2.2.2.2.2.2.2.2.1 wiX11 (by decide +kernel) ⟨Nat.le_of_ble_eq_true rfl, Nat.le_of_ble_eq_true rfl⟩, wstat, trivial⟩ hK hP hD hS hA rfl hl.1 rfl (Nat.le_of_ble_eq_true rfl) dX3_pop_18 ⟨Nat.zero_le _, Nat.zero_le _⟩ (fun r_ S_ H locs hq hP hD hS => ?_)
  obtain ⟨rfl, rfl⟩ := hq
  exact W.iret (v := k_at 64 (cx_l_stack S_1) (cx_l_height S_1)) hx hb hr (fun t ht hW => ⟨⟨k_at 64 (cx_l_stack S_1) (cx_l_height S_1), S_1, rfl, hw, by rw [ht]; exact hP, va_K.moved hW.alike hK, hD⟩, hS.F ht⟩) hS.2.2 dX3_pop_21
def wC_X11_held (p1 : Int32) (p2 : Int32) (p3 : Int32) (S : CS) (post : Int32 → CS → Prop) : Prop := ((p2 ≤ p1 → ((p1 ≤ p3 → post p1 S) ∧ (¬ (p1 ≤ p3) → post p3 S))) ∧ (¬ (p2 ≤ p1) → ((p2 ≤ p3 → post p2 S) ∧ (¬ (p2 ≤ p3) → post p3 S))))
set_option maxHeartbeats 4000000 in
set_option maxRecDepth 100000 in
theorem cC_X11_held (l : Launch) (D : va_G) (h : Nat → Nat) (cy : Nat → ClassId) (p1 : Int32) (p2 : Int32) (p3 : Int32) (S : CS) (post : Int32 → CS → Prop) (hw : wC_X11_held p1 p2 p3 S post) : e_Mi clE l yX11_held wsX11_held { frames := 0, cells := 0, slots := 0, locals := 0 } D (tyC cy) (wC h cy) [.int p1, .int p2, .int p3] S post := by
  intro sz
  refine Met.ofW (cc := cX11_held) (maxL := 4) (ret := (some .int)) (by decide) rfl ?_
  intro p e s m args below meth c s₁ B hml hv
  obtain ⟨rfl, hsz, hP, hK, hD0, hs⟩ := hv
  have hx := B.exec
  have hb := B.bytes
  have hr := B.returns
  have hts := atoms_spec (ws := wsX11_held) B.pre
  have hown : s.vm.findClass RX11 = some m.cls := findClass_of_methodNamed B.named
  have hlocks := B.notSynchronized
  subst hsz
  have hD := hD0.self (sz := s.heap.size)
  generalize hAe : va_A (wC h cy S) s.heap.size = A at hD hs ⊢
  have hA : ∀ q : Nat, s.heap.size ≤ q → A q := fun q h => by rw [← hAe]; exact Or.inr h
  have hS : va_S A s.heap s.heap [] := va_S.rf
  have hl := lv_entry ([.int p1, .int p2, .int p3]) (n := 4) (Nat.le_of_ble_eq_true rfl)
  rw [lg_entry_eq]
  generalize (lg_sl ([.int p1, .int p2, .int p3]) ++ List.replicate (4 - (lg_sl ([.int p1, .int p2, .int p3])).length) Slot.unset).toArray = ls at hl ⊢
  have hl : lv_has ls 4 [(0, .int p1), (1, .int p2), (2, .int p3)] := hl
  unfold wC_X11_held at hw
  clear hD0
  refine lv_iload_n hx hb dX11_held_0 rfl (lv_at hl 0 rfl) ?_
  refine lv_iload_n hx hb dX11_held_1 rfl (lv_at hl 1 rfl) ?_
  obtain ⟨hc_1t, hc_1f⟩ := hw
  refine lv_icmp_ge (tgt := 9) hx hb dX11_held_2 (by decide) (fun c_1 => ?_) (fun c_1 => ?_)
  · have hw := hc_1t c_1
    clear hc_1t hc_1f
    refine lv_iload_n hx hb dX11_held_9 rfl (lv_at hl 0 rfl) ?_
    refine lv_istore_n (lv' := [(3, .int p1), (0, .int p1), (1, .int p2), (2, .int p3)]) hx hb dX11_held_10 rfl hl (by decide) rfl (fun ls hl => ?_)
    refine lv_iload_n hx hb dX11_held_11 rfl (lv_at hl 0 rfl) ?_
    refine lv_iload_n hx hb dX11_held_12 rfl (lv_at hl 3 rfl) ?_
    obtain ⟨hc_2t, hc_2f⟩ := hw
    refine lv_icmp_le (tgt := 20) hx hb dX11_held_13 (by decide) (fun c_2 => ?_) (fun c_2 => ?_)
    · have hw := hc_2t c_2
      clear hc_2t hc_2f
      refine lv_iload_n hx hb dX11_held_20 rfl (lv_at hl 0 rfl) ?_
      exact W.iret (v := p1) hx hb hr (fun t ht hW => ⟨⟨p1, S, rfl, hw, by rw [ht]; exact hP, va_K.moved hW.alike hK, hD⟩, hS.F ht⟩) hS.2.2 dX11_held_21
    · have hw := hc_2f c_2
      clear hc_2t hc_2f
      refine lv_iload_n hx hb dX11_held_16 rfl (lv_at hl 3 rfl) ?_
      refine lv_goto (tgt := 21) hx hb dX11_held_17 (by decide) ?_
      exact W.iret (v := p3) hx hb hr (fun t ht hW => ⟨⟨p3, S, rfl, hw, by rw [ht]; exact hP, va_K.moved hW.alike hK, hD⟩, hS.F ht⟩) hS.2.2 dX11_held_21
  · have hw := hc_1f c_1
    clear hc_1t hc_1f
    refine lv_iload_n hx hb dX11_held_5 rfl (lv_at hl 1 rfl) ?_
    refine lv_goto (tgt := 10) hx hb dX11_held_6 (by decide) ?_
    refine lv_istore_n (lv' := [(3, .int p2), (0, .int p1), (1, .int p2), (2, .int p3)]) hx hb dX11_held_10 rfl hl (by decide) rfl (fun ls hl => ?_)
    refine lv_iload_n hx hb dX11_held_11 rfl (lv_at hl 0 rfl) ?_
    refine lv_iload_n hx hb dX11_held_12 rfl (lv_at hl 3 rfl) ?_
    obtain ⟨hc_3t, hc_3f⟩ := hw
    refine lv_icmp_le (tgt := 20) hx hb dX11_held_13 (by decide) (fun c_3 => ?_) (fun c_3 => ?_)
    · have hw := hc_3t c_3
      clear hc_3t hc_3f
      refine lv_iload_n hx hb dX11_held_20 rfl (lv_at hl 0 rfl) ?_
      exact W.iret (v := p2) hx hb hr (fun t ht hW => ⟨⟨p2, S, rfl, hw, by rw [ht]; exact hP, va_K.moved hW.alike hK, hD⟩, hS.F ht⟩) hS.2.2 dX11_held_21
    · have hw := hc_3f c_3
      clear hc_3t hc_3f
      refine lv_iload_n hx hb dX11_held_16 rfl (lv_at hl 3 rfl) ?_
      refine lv_goto (tgt := 21) hx hb dX11_held_17 (by decide) ?_
      exact W.iret (v := p3) hx hb hr (fun t ht hW => ⟨⟨p3, S, rfl, hw, by rw [ht]; exact hP, va_K.moved hW.alike hK, hD⟩, hS.F ht⟩) hS.2.2 dX11_held_21
def wC_X3_push (p1 : Int32) (S : CS) (post : CS → Prop) : Prop := (∀ S_1 : CS, S_1 = (cx_set_l_stack S (k_put 64 (cx_l_stack S) (cx_l_height S) p1)) → (∀ S_2 : CS, S_2 = (cx_set_l_height S_1 ((cx_l_height S_1) + 1)) → post S_2))
set_option maxHeartbeats 4000000 in
set_option maxRecDepth 100000 in
theorem cC_X3_push (l : Launch) (D : va_G) (h : Nat → Nat) (cy : Nat → ClassId) (p1 : Int32) (S : CS) (post : CS → Prop) (hw : wC_X3_push p1 S post) : e_Mv clE l yX3_push wsX3_push { frames := 1, cells := 0, slots := 0, locals := 22 } D (tyC cy) (wC h cy) [.ref (h 6), .int p1] S post := by
  intro sz
  refine Met.ofW (cc := cX3_push) (maxL := 2) (ret := none) (by decide) rfl ?_
  intro p e s m args below meth c s₁ B hml hv
  obtain ⟨rfl, hsz, hP, hK, hD0, hs⟩ := hv
  have hx := B.exec
  have hb := B.bytes
  have hr := B.returns
  have hts := atoms_spec (ws := wsX3_push) B.pre
  have hown : s.vm.findClass RX3 = some m.cls := findClass_of_methodNamed B.named
  have hlocks := B.notSynchronized
  subst hsz
  have hD := hD0.self (sz := s.heap.size)
  generalize hAe : va_A (wC h cy S) s.heap.size = A at hD hs ⊢
  have hA : ∀ q : Nat, s.heap.size ≤ q → A q := fun q h => by rw [← hAe]; exact Or.inr h
  have hS : va_S A s.heap s.heap [] := va_S.rf
  have hin3 : ∀ w ∈ wsX30, w ∈ wsX3_push := fun _ h => List.mem_cons_of_mem _ (List.mem_append_right _ h)
  have w15 := hts (.fieldLink RX3 15 "ClownsMourn$Laws" "stack" "[I") (List.mem_of_getElem? (i := 1) rfl)
  have w18 := hts (.fieldLink RX3 18 "ClownsMourn$Laws" "height" "I") (List.mem_of_getElem? (i := 2) rfl)
  have wiX11 := hts (.initialized RX11) (List.mem_of_getElem? (i := 4) rfl)
  have wstput := hts (.static yX11_put) (List.mem_of_getElem? (i := 3) rfl)
  have hl := lv_entry ([.ref (h 6), .int p1]) (n := 2) (Nat.le_of_ble_eq_true rfl)
  rw [lg_entry_eq]
  generalize (lg_sl ([.ref (h 6), .int p1]) ++ List.replicate (2 - (lg_sl ([.ref (h 6), .int p1])).length) Slot.unset).toArray = ls at hl ⊢
  have hl : lv_has ls 2 [(0, .ref (h 6)), (1, .int p1)] := hl
  unfold wC_X3_push at hw
  clear hD0
  refine lv_aload_n hx hb dX3_push_0 rfl (lv_at hl 0 rfl) ?_
  refine va_get (D := D) (ci := 3) (v := .ref (h 41)) (C := RX3) (T := TX3) (N := 4) hx hb hts hin3 hown hK hP 6 rfl rfl 2 (by decide) w15 (fun _ h9 => h9) rfl dX3_push_1 ?_
  refine lv_aload_n hx hb dX3_push_4 rfl (lv_at hl 0 rfl) ?_
  refine va_get (D := D) (ci := 3) (v := .int (cx_l_height S)) (C := RX3) (T := TX3) (N := 4) hx hb hts hin3 hown hK hP 6 rfl rfl 3 (by decide) w18 (fun _ h9 => h9) rfl dX3_push_5 ?_
  refine lv_iload_n hx hb dX3_push_8 rfl (lv_at hl 1 rfl) ?_
  refine e_callNv (As := [.ref (h 41), .int (cx_l_height S), .int p1]) (rest := []) clE_stable hs ⟨hx, hb, hml, hown, hts⟩ (cA_put l D clE (tyC cy) (wC h cy) cx_l_stack cx_set_l_stack S 41 29 _ _ 64 rfl (wCs_l_stack h cy S) rfl (by decide) _ _ (fun S0 => S0 = (cx_set_l_stack S (k_put 64 (cx_l_stack S) (cx_l_height S) p1))) rfl) ⟨va_cnB 3 hts gX3_push_X11_put_n79 rfl rfl rfl hs.1.2.2.2.2.2.2.2.2.2.2.2.2.2.2.2.1 wiX11 (by decide +kernel) ⟨Nat.le_of_ble_eq_true rfl, Nat.le_of_ble_eq_true rfl⟩, wstput, trivial⟩ hK hP hD hS hA rfl hl.1 rfl (Nat.le_of_ble_eq_true rfl) dX3_push_9 ⟨Nat.zero_le _, Nat.zero_le _⟩ (fun S_1 H locs eS_1 hP hD hS => ?_)
  replace hw := hw S_1 eS_1
  refine lv_aload_n hx hb dX3_push_12 rfl (lv_at hl 0 rfl) ?_
  refine lv_dup hx hb dX3_push_13 rfl ?_
  refine va_get (D := D) (ci := 3) (v := .int (cx_l_height S_1)) (C := RX3) (T := TX3) (N := 4) hx hb hts hin3 hown hK hP 6 rfl rfl 3 (by decide) w18 (fun _ h9 => h9) rfl dX3_push_14 ?_
  refine lv_iconst (v := 1) hx hb dX3_push_17 (by decide) ?_
  refine lv_iadd hx hb dX3_push_18 ?_
  refine va_put (D := D) (ci := 3) (v := .int ((cx_l_height S_1) + 1)) (ty := .int) (C := RX3) (T := TX3) (N := 4) hx hb hts hin3 tyX3 tyX3_ok nmX3 hown hK hP hD hS 6 rfl rfl 3 (by decide) w18 (fun _ h9 => h9) rfl (tyX3_ok 3 (by decide)) rfl rfl (Nat.le_of_ble_eq_true rfl) dX3_push_19 (fun H locs hP hD hS => ?_)
  obtain ⟨S_2, eS_2⟩ : ∃ z : CS, z = (cx_set_l_height S_1 ((cx_l_height S_1) + 1)) := ⟨_, rfl⟩
  replace hw := hw S_2 eS_2
  have hP : va_P D vwCl (wC h cy S_2) H := by rw [eS_2, ← wCp_l_height]; exact hP
  have hD : va_D A (wC h cy S_2) := by rw [eS_2, ← wCp_l_height]; exact hD
  exact W.vret hx hb hr (fun t ht hW => ⟨⟨S_2, rfl, hw, by rw [ht]; exact hP, va_K.moved hW.alike hK, hD⟩, hS.F ht⟩) hS.2.2 dX3_push_22
def wC_X3_moodOf_25 (post : Int32 → CS → Prop) (x1 : Int32) (t0 : Int32) (S : CS) : Prop := ((t0 = 0 → post 0 S) ∧ (¬ (t0 = 0) → post (k_at 74 (cx_c_now S) (6 + x1)) S))
def wC_X3_moodOf (p1 : Int32) (S : CS) (post : Int32 → CS → Prop) : Prop := ((p1 < 0 → wC_X3_moodOf_25 post p1 0 S) ∧ (¬ (p1 < 0) → (((k_at 74 (cx_c_now S) 72) ≤ p1 → wC_X3_moodOf_25 post p1 0 S) ∧ (¬ ((k_at 74 (cx_c_now S) 72) ≤ p1) → wC_X3_moodOf_25 post p1 1 S))))
set_option maxHeartbeats 4000000 in
set_option maxRecDepth 100000 in
theorem cC_X3_moodOf (l : Launch) (D : va_G) (h : Nat → Nat) (cy : Nat → ClassId) (p1 : Int32) (S : CS) (post : Int32 → CS → Prop) (hw : wC_X3_moodOf p1 S post) : e_Mi clE l yX3_moodOf wsX3_moodOf { frames := 1, cells := 0, slots := 0, locals := 21 } D (tyC cy) (wC h cy) [.ref (h 6), .int p1] S post := by
  intro sz
  refine Met.ofW (cc := cX3_moodOf) (maxL := 3) (ret := (some .int)) (by decide) rfl ?_
  intro p e s m args below meth c s₁ B hml hv
  obtain ⟨rfl, hsz, hP, hK, hD0, hs⟩ := hv
  have hx := B.exec
  have hb := B.bytes
  have hr := B.returns
  have hts := atoms_spec (ws := wsX3_moodOf) B.pre
  have hown : s.vm.findClass RX3 = some m.cls := findClass_of_methodNamed B.named
  have hlocks := B.notSynchronized
  subst hsz
  have hD := hD0.self (sz := s.heap.size)
  generalize hAe : va_A (wC h cy S) s.heap.size = A at hD hs ⊢
  have hA : ∀ q : Nat, s.heap.size ≤ q → A q := fun q h => by rw [← hAe]; exact Or.inr h
  have hS : va_S A s.heap s.heap [] := va_S.rf
  have hin3 : ∀ w ∈ wsX30, w ∈ wsX3_moodOf := fun _ h => List.mem_cons_of_mem _ (List.mem_append_left _ (List.mem_append_right _ h))
  have hin0 : ∀ w ∈ wsX00, w ∈ wsX3_moodOf := fun _ h => List.mem_cons_of_mem _ (List.mem_append_right _ h)
  have w114 := hts (.fieldLink RX3 114 "ClownsMourn$City" "now" "[I") (List.mem_of_getElem? (i := 2) rfl)
  have w22 := hts (.fieldLink RX3 22 "ClownsMourn$Laws" "city" "LClownsMourn$City;") (List.mem_of_getElem? (i := 1) rfl)
  have wiX11 := hts (.initialized RX11) (List.mem_of_getElem? (i := 4) rfl)
  have wstat := hts (.static yX11_at) (List.mem_of_getElem? (i := 3) rfl)
  have hl := lv_entry ([.ref (h 6), .int p1]) (n := 3) (Nat.le_of_ble_eq_true rfl)
  rw [lg_entry_eq]
  generalize (lg_sl ([.ref (h 6), .int p1]) ++ List.replicate (3 - (lg_sl ([.ref (h 6), .int p1])).length) Slot.unset).toArray = ls at hl ⊢
  have hl : lv_has ls 3 [(0, .ref (h 6)), (1, .int p1)] := hl
  unfold wC_X3_moodOf at hw
  clear hD0
  have J_25 : ∀ (x1 : Int32) (t0 : Int32) (S : CS) (H : Heap) (locs : List Loc) (ls : Array Slot), wC_X3_moodOf_25 post x1 t0 S → va_P D vwCl (wC h cy S) H → va_D A (wC h cy S) → va_S A s.heap H locs → lv_has ls 3 [(0, .ref (h 6)), (1, .int x1)] → W p l e (headSpec wsX3_moodOf { frames := 1, cells := 0, slots := 0, locals := 21 }).room s m (([.ref (h 6), .int p1] : List Value).toArray) below meth c H locs 0 0 (MQ below (va_Qi post (k_Post D (tyC cy) (wC h cy) A) A) (([.ref (h 6), .int p1] : List Value).toArray) s 0 0 A) (F0 m 25 ls [.int t0]) := by
    intro x1 t0 S H locs ls hw hP hD hS hl
    unfold wC_X3_moodOf_25 at hw
    refine lv_istore_n (lv' := [(2, .int t0), (0, .ref (h 6)), (1, .int x1)]) hx hb dX3_moodOf_25 rfl hl (by decide) rfl (fun ls hl => ?_)
    refine lv_iload_n hx hb dX3_moodOf_26 rfl (lv_at hl 0 rfl) ?_
    obtain ⟨hc_1t, hc_1f⟩ := hw
    refine lv_if_eq (tgt := 47) hx hb dX3_moodOf_27 (by decide) (fun c_1 => ?_) (fun c_1 => ?_)
    · have hw := hc_1t c_1
      clear hc_1t hc_1f
      refine lv_iconst (v := 0) hx hb dX3_moodOf_47 (by decide) ?_
      exact W.iret (v := 0) hx hb hr (fun t ht hW => ⟨⟨0, S, rfl, hw, by rw [ht]; exact hP, va_K.moved hW.alike hK, hD⟩, hS.F ht⟩) hS.2.2 dX3_moodOf_48
    · have hw := hc_1f c_1
      clear hc_1t hc_1f
      refine lv_aload_n hx hb dX3_moodOf_30 rfl (lv_at hl 1 rfl) ?_
      refine va_get (D := D) (ci := 3) (v := .ref (h 1)) (C := RX3) (T := TX3) (N := 4) hx hb hts hin3 hown hK hP 6 rfl rfl 0 (by decide) w22 (fun _ h9 => h9) rfl dX3_moodOf_31 ?_
      refine va_get (D := D) (ci := 0) (v := .ref (h 12)) (C := RX0) (T := TX0) (N := 16) hx hb hts hin0 hown hK hP 1 rfl rfl 0 (by decide) w114 (fun _ h9 => h9) rfl dX3_moodOf_34 ?_
      refine lv_bipush (v := 6) hx hb dX3_moodOf_37 (by decide) ?_
      refine lv_iload_n hx hb dX3_moodOf_39 rfl (lv_at hl 2 rfl) ?_
      refine lv_iadd hx hb dX3_moodOf_40 ?_
      refine e_callNi (As := [.ref (h 12), .int (6 + x1)]) (rest := []) clE_stable hs ⟨hx, hb, hml, hown, hts⟩ (cA_at l D clE (tyC cy) (wC h cy) S 12 0 _ _ 74 (cx_c_now S) rfl rfl (by decide) _ (fun r S0 => r = k_at 74 (cx_c_now S) (6 + x1) ∧ S = S0) ⟨rfl, rfl⟩) ⟨va_cnB 2 hts gX3_moodOf_X11_at_n44 rfl rfl rfl hs.1.2.2.2.2.2.2.2.2.2.2.2.2.2.2.1 wiX11 (by decide +kernel) ⟨Nat.le_of_ble_eq_true rfl, Nat.le_of_ble_eq_true rfl⟩, wstat, trivial⟩ hK hP hD hS hA rfl hl.1 rfl (Nat.le_of_ble_eq_true rfl) dX3_moodOf_41 ⟨Nat.zero_le _, Nat.zero_le _⟩ (fun r_ S_ H locs hq hP hD hS => ?_)
      obtain ⟨rfl, rfl⟩ := hq
      refine lv_goto (tgt := 48) hx hb dX3_moodOf_44 (by decide) ?_
      exact W.iret (v := k_at 74 (cx_c_now S) (6 + x1)) hx hb hr (fun t ht hW => ⟨⟨k_at 74 (cx_c_now S) (6 + x1), S, rfl, hw, by rw [ht]; exact hP, va_K.moved hW.alike hK, hD⟩, hS.F ht⟩) hS.2.2 dX3_moodOf_48
  refine lv_iload_n hx hb dX3_moodOf_0 rfl (lv_at hl 1 rfl) ?_
  obtain ⟨hc_2t, hc_2f⟩ := hw
  refine lv_if_lt (tgt := 24) hx hb dX3_moodOf_1 (by decide) (fun c_2 => ?_) (fun c_2 => ?_)
  · have hw := hc_2t c_2
    clear hc_2t hc_2f
    refine lv_iconst (v := 0) hx hb dX3_moodOf_24 (by decide) ?_
    exact J_25 p1 0 S _ _ _ hw hP hD hS (lv_sub hl [0, 1] rfl)
  · have hw := hc_2f c_2
    clear hc_2t hc_2f
    refine lv_iload_n hx hb dX3_moodOf_4 rfl (lv_at hl 1 rfl) ?_
    refine lv_aload_n hx hb dX3_moodOf_5 rfl (lv_at hl 0 rfl) ?_
    refine va_get (D := D) (ci := 3) (v := .ref (h 1)) (C := RX3) (T := TX3) (N := 4) hx hb hts hin3 hown hK hP 6 rfl rfl 0 (by decide) w22 (fun _ h9 => h9) rfl dX3_moodOf_6 ?_
    refine va_get (D := D) (ci := 0) (v := .ref (h 12)) (C := RX0) (T := TX0) (N := 16) hx hb hts hin0 hown hK hP 1 rfl rfl 0 (by decide) w114 (fun _ h9 => h9) rfl dX3_moodOf_9 ?_
    refine lv_bipush (v := 72) hx hb dX3_moodOf_12 (by decide) ?_
    refine e_callNi (As := [.ref (h 12), .int 72]) (rest := [.int p1]) clE_stable hs ⟨hx, hb, hml, hown, hts⟩ (cA_at l D clE (tyC cy) (wC h cy) S 12 0 _ _ 74 (cx_c_now S) rfl rfl (by decide) _ (fun r S0 => r = k_at 74 (cx_c_now S) 72 ∧ S = S0) ⟨rfl, rfl⟩) ⟨va_cnB 2 hts gX3_moodOf_X11_at_n44 rfl rfl rfl hs.1.2.2.2.2.2.2.2.2.2.2.2.2.2.2.1 wiX11 (by decide +kernel) ⟨Nat.le_of_ble_eq_true rfl, Nat.le_of_ble_eq_true rfl⟩, wstat, trivial⟩ hK hP hD hS hA rfl hl.1 rfl (Nat.le_of_ble_eq_true rfl) dX3_moodOf_14 ⟨Nat.zero_le _, Nat.zero_le _⟩ (fun r_ S_ H locs hq hP hD hS => ?_)
    obtain ⟨rfl, rfl⟩ := hq
    obtain ⟨hc_3t, hc_3f⟩ := hw
    refine lv_icmp_ge (tgt := 24) hx hb dX3_moodOf_17 (by decide) (fun c_3 => ?_) (fun c_3 => ?_)
    · have hw := hc_3t c_3
      clear hc_3t hc_3f
      refine lv_iconst (v := 0) hx hb dX3_moodOf_24 (by decide) ?_
      exact J_25 p1 0 S _ _ _ hw hP hD hS (lv_sub hl [0, 1] rfl)
    · have hw := hc_3f c_3
      clear hc_3t hc_3f
      refine lv_iconst (v := 1) hx hb dX3_moodOf_20 (by decide) ?_
      refine lv_goto (tgt := 25) hx hb dX3_moodOf_21 (by decide) ?_
      exact J_25 p1 1 S _ _ _ hw hP hD hS (lv_sub hl [0, 1] rfl)
def wC_X3_cut (p1 : Int64) (S : CS) (post : Int32 → CS → Prop) : Prop := ((p1 ≤ 1000000 → (((-1000000) ≤ p1 → post (Int64.toInt32 p1) S) ∧ (¬ ((-1000000) ≤ p1) → post (-1000000) S))) ∧ (¬ (p1 ≤ 1000000) → post 1000000 S))
set_option maxHeartbeats 4000000 in
set_option maxRecDepth 100000 in
theorem cC_X3_cut (l : Launch) (D : va_G) (h : Nat → Nat) (cy : Nat → ClassId) (p1 : Int64) (S : CS) (post : Int32 → CS → Prop) (hw : wC_X3_cut p1 S post) : e_Mi clE l yX3_cut wsX3_cut { frames := 0, cells := 0, slots := 0, locals := 0 } D (tyC cy) (wC h cy) [.long p1] S post := by
  intro sz
  refine Met.ofW (cc := cX3_cut) (maxL := 2) (ret := (some .int)) (by decide) rfl ?_
  intro p e s m args below meth c s₁ B hml hv
  obtain ⟨rfl, hsz, hP, hK, hD0, hs⟩ := hv
  have hx := B.exec
  have hb := B.bytes
  have hr := B.returns
  have hts := atoms_spec (ws := wsX3_cut) B.pre
  have hown : s.vm.findClass RX3 = some m.cls := findClass_of_methodNamed B.named
  have hlocks := B.notSynchronized
  subst hsz
  have hD := hD0.self (sz := s.heap.size)
  generalize hAe : va_A (wC h cy S) s.heap.size = A at hD hs ⊢
  have hA : ∀ q : Nat, s.heap.size ≤ q → A q := fun q h => by rw [← hAe]; exact Or.inr h
  have hS : va_S A s.heap s.heap [] := va_S.rf
  have wc125 := hts (.constantLong RX3 125 (1000000)) (List.mem_of_getElem? (i := 1) rfl)
  have wc128 := hts (.constantLong RX3 128 (-1000000)) (List.mem_of_getElem? (i := 3) rfl)
  have wc127 := hts (.constant RX3 127 (1000000)) (List.mem_of_getElem? (i := 2) rfl)
  have wc130 := hts (.constant RX3 130 (-1000000)) (List.mem_of_getElem? (i := 4) rfl)
  have hl := lv_entry ([.long p1]) (n := 2) (Nat.le_of_ble_eq_true rfl)
  rw [lg_entry_eq]
  generalize (lg_sl ([.long p1]) ++ List.replicate (2 - (lg_sl ([.long p1])).length) Slot.unset).toArray = ls at hl ⊢
  have hl : lv_has ls 2 [(0, .long p1)] := hl
  unfold wC_X3_cut at hw
  clear hD0
  refine lv_lload_n hx hb dX3_cut_0 rfl (lv_at hl 0 rfl) ?_
  refine lv_ldc2 (v := 1000000) hx hb hown wc125 dX3_cut_1 ?_
  refine W.lcmp hx hb dX3_cut_4 ?_
  obtain ⟨hc_1t, hc_1f⟩ := hw
  refine lv_if_le (tgt := 11) hx hb dX3_cut_5 (by decide) (fun c_1 => ?_) (fun c_1 => ?_)
  · have hw := hc_1t ((k_cle _ _).mp c_1)
    clear hc_1t hc_1f
    refine lv_lload_n hx hb dX3_cut_11 rfl (lv_at hl 0 rfl) ?_
    refine lv_ldc2 (v := (-1000000)) hx hb hown wc128 dX3_cut_12 ?_
    refine W.lcmp hx hb dX3_cut_15 ?_
    obtain ⟨hc_2t, hc_2f⟩ := hw
    refine lv_if_ge (tgt := 24) hx hb dX3_cut_16 (by decide) (fun c_2 => ?_) (fun c_2 => ?_)
    · have hw := hc_2t ((k_cge _ _).mp c_2)
      clear hc_2t hc_2f
      refine lv_lload_n hx hb dX3_cut_24 rfl (lv_at hl 0 rfl) ?_
      refine lv_l2i (v := Int64.toInt32 p1) hx hb dX3_cut_25 rfl ?_
      exact W.iret (v := Int64.toInt32 p1) hx hb hr (fun t ht hW => ⟨⟨Int64.toInt32 p1, S, rfl, hw, by rw [ht]; exact hP, va_K.moved hW.alike hK, hD⟩, hS.F ht⟩) hS.2.2 dX3_cut_26
    · have hw := hc_2f (fun q => c_2 ((k_cge _ _).mpr q))
      clear hc_2t hc_2f
      refine lv_ldc (v := (-1000000)) hx hb hown wc130 dX3_cut_19 ?_
      refine lv_goto (tgt := 26) hx hb dX3_cut_21 (by decide) ?_
      exact W.iret (v := (-1000000)) hx hb hr (fun t ht hW => ⟨⟨(-1000000), S, rfl, hw, by rw [ht]; exact hP, va_K.moved hW.alike hK, hD⟩, hS.F ht⟩) hS.2.2 dX3_cut_26
  · have hw := hc_1f (fun q => c_1 ((k_cle _ _).mpr q))
    clear hc_1t hc_1f
    refine lv_ldc (v := 1000000) hx hb hown wc127 dX3_cut_8 ?_
    exact W.iret (v := 1000000) hx hb hr (fun t ht hW => ⟨⟨1000000, S, rfl, hw, by rw [ht]; exact hP, va_K.moved hW.alike hK, hD⟩, hS.F ht⟩) hS.2.2 dX3_cut_10
def wC_X3_compares (p1 : Int32) (p2 : Int32) (p3 : Int32) (S : CS) (post : Int32 → CS → Prop) : Prop := ((p1 = 33 → ((p3 < p2 → post 0 S) ∧ (¬ (p3 < p2) → post 1 S))) ∧ (p1 = 34 → ((p2 < p3 → post 0 S) ∧ (¬ (p2 < p3) → post 1 S))) ∧ (p1 = 35 → ((p3 ≤ p2 → post 0 S) ∧ (¬ (p3 ≤ p2) → post 1 S))) ∧ (p1 = 36 → ((p2 ≤ p3 → post 0 S) ∧ (¬ (p2 ≤ p3) → post 1 S))) ∧ (p1 = 37 → ((p2 = p3 → post 1 S) ∧ (¬ (p2 = p3) → post 0 S))) ∧ (¬ p1 = 33 → ¬ p1 = 34 → ¬ p1 = 35 → ¬ p1 = 36 → ¬ p1 = 37 → ((p2 = p3 → post 0 S) ∧ (¬ (p2 = p3) → post 1 S))))
set_option maxHeartbeats 4000000 in
set_option maxRecDepth 100000 in
theorem cC_X3_compares (l : Launch) (D : va_G) (h : Nat → Nat) (cy : Nat → ClassId) (p1 : Int32) (p2 : Int32) (p3 : Int32) (S : CS) (post : Int32 → CS → Prop) (hw : wC_X3_compares p1 p2 p3 S post) : e_Mi clE l yX3_compares wsX3_compares { frames := 0, cells := 0, slots := 0, locals := 0 } D (tyC cy) (wC h cy) [.int p1, .int p2, .int p3] S post := by
  intro sz
  refine Met.ofW (cc := cX3_compares) (maxL := 3) (ret := (some .boolean)) (by decide) rfl ?_
  intro p e s m args below meth c s₁ B hml hv
  obtain ⟨rfl, hsz, hP, hK, hD0, hs⟩ := hv
  have hx := B.exec
  have hb := B.bytes
  have hr := B.returns
  have hts := atoms_spec (ws := wsX3_compares) B.pre
  have hown : s.vm.findClass RX3 = some m.cls := findClass_of_methodNamed B.named
  have hlocks := B.notSynchronized
  subst hsz
  have hD := hD0.self (sz := s.heap.size)
  generalize hAe : va_A (wC h cy S) s.heap.size = A at hD hs ⊢
  have hA : ∀ q : Nat, s.heap.size ≤ q → A q := fun q h => by rw [← hAe]; exact Or.inr h
  have hS : va_S A s.heap s.heap [] := va_S.rf
  have hl := lv_entry ([.int p1, .int p2, .int p3]) (n := 3) (Nat.le_of_ble_eq_true rfl)
  rw [lg_entry_eq]
  generalize (lg_sl ([.int p1, .int p2, .int p3]) ++ List.replicate (3 - (lg_sl ([.int p1, .int p2, .int p3])).length) Slot.unset).toArray = ls at hl ⊢
  have hl : lv_has ls 3 [(0, .int p1), (1, .int p2), (2, .int p3)] := hl
  unfold wC_X3_compares at hw
  clear hD0
  refine lv_iload_n hx hb dX3_compares_0 rfl (lv_at hl 0 rfl) ?_
  obtain ⟨hc_2, hw⟩ := hw
  by_cases c_2 : p1 = 33
  · have hw := hc_2 c_2
    refine lv_tableIn (off := 35) (tgt := 36) hx hb dX3_compares_1 (by rw [c_2]; decide) (by rw [c_2]; decide) (by rw [c_2]; rfl) (by decide) ?_
    refine lv_iload_n hx hb dX3_compares_36 rfl (lv_at hl 1 rfl) ?_
    refine lv_iload_n hx hb dX3_compares_37 rfl (lv_at hl 2 rfl) ?_
    obtain ⟨hc_1t, hc_1f⟩ := hw
    refine lv_icmp_gt (tgt := 45) hx hb dX3_compares_38 (by decide) (fun c_1 => ?_) (fun c_1 => ?_)
    · have hw := hc_1t c_1
      clear hc_1t hc_1f
      refine lv_iconst (v := 0) hx hb dX3_compares_45 (by decide) ?_
      exact W.zret (v := 0) hx hb hr (by decide +kernel) (fun t ht hW => ⟨⟨0, S, rfl, hw, by rw [ht]; exact hP, va_K.moved hW.alike hK, hD⟩, hS.F ht⟩) hS.2.2 dX3_compares_46
    · have hw := hc_1f c_1
      clear hc_1t hc_1f
      refine lv_iconst (v := 1) hx hb dX3_compares_41 (by decide) ?_
      refine lv_goto (tgt := 46) hx hb dX3_compares_42 (by decide) ?_
      exact W.zret (v := 1) hx hb hr (by decide +kernel) (fun t ht hW => ⟨⟨1, S, rfl, hw, by rw [ht]; exact hP, va_K.moved hW.alike hK, hD⟩, hS.F ht⟩) hS.2.2 dX3_compares_46
  obtain ⟨hc_4, hw⟩ := hw
  by_cases c_4 : p1 = 34
  · have hw := hc_4 c_4
    refine lv_tableIn (off := 46) (tgt := 47) hx hb dX3_compares_1 (by rw [c_4]; decide) (by rw [c_4]; decide) (by rw [c_4]; rfl) (by decide) ?_
    refine lv_iload_n hx hb dX3_compares_47 rfl (lv_at hl 1 rfl) ?_
    refine lv_iload_n hx hb dX3_compares_48 rfl (lv_at hl 2 rfl) ?_
    obtain ⟨hc_3t, hc_3f⟩ := hw
    refine lv_icmp_lt (tgt := 56) hx hb dX3_compares_49 (by decide) (fun c_3 => ?_) (fun c_3 => ?_)
    · have hw := hc_3t c_3
      clear hc_3t hc_3f
      refine lv_iconst (v := 0) hx hb dX3_compares_56 (by decide) ?_
      exact W.zret (v := 0) hx hb hr (by decide +kernel) (fun t ht hW => ⟨⟨0, S, rfl, hw, by rw [ht]; exact hP, va_K.moved hW.alike hK, hD⟩, hS.F ht⟩) hS.2.2 dX3_compares_57
    · have hw := hc_3f c_3
      clear hc_3t hc_3f
      refine lv_iconst (v := 1) hx hb dX3_compares_52 (by decide) ?_
      refine lv_goto (tgt := 57) hx hb dX3_compares_53 (by decide) ?_
      exact W.zret (v := 1) hx hb hr (by decide +kernel) (fun t ht hW => ⟨⟨1, S, rfl, hw, by rw [ht]; exact hP, va_K.moved hW.alike hK, hD⟩, hS.F ht⟩) hS.2.2 dX3_compares_57
  obtain ⟨hc_6, hw⟩ := hw
  by_cases c_6 : p1 = 35
  · have hw := hc_6 c_6
    refine lv_tableIn (off := 57) (tgt := 58) hx hb dX3_compares_1 (by rw [c_6]; decide) (by rw [c_6]; decide) (by rw [c_6]; rfl) (by decide) ?_
    refine lv_iload_n hx hb dX3_compares_58 rfl (lv_at hl 1 rfl) ?_
    refine lv_iload_n hx hb dX3_compares_59 rfl (lv_at hl 2 rfl) ?_
    obtain ⟨hc_5t, hc_5f⟩ := hw
    refine lv_icmp_ge (tgt := 67) hx hb dX3_compares_60 (by decide) (fun c_5 => ?_) (fun c_5 => ?_)
    · have hw := hc_5t c_5
      clear hc_5t hc_5f
      refine lv_iconst (v := 0) hx hb dX3_compares_67 (by decide) ?_
      exact W.zret (v := 0) hx hb hr (by decide +kernel) (fun t ht hW => ⟨⟨0, S, rfl, hw, by rw [ht]; exact hP, va_K.moved hW.alike hK, hD⟩, hS.F ht⟩) hS.2.2 dX3_compares_68
    · have hw := hc_5f c_5
      clear hc_5t hc_5f
      refine lv_iconst (v := 1) hx hb dX3_compares_63 (by decide) ?_
      refine lv_goto (tgt := 68) hx hb dX3_compares_64 (by decide) ?_
      exact W.zret (v := 1) hx hb hr (by decide +kernel) (fun t ht hW => ⟨⟨1, S, rfl, hw, by rw [ht]; exact hP, va_K.moved hW.alike hK, hD⟩, hS.F ht⟩) hS.2.2 dX3_compares_68
  obtain ⟨hc_8, hw⟩ := hw
  by_cases c_8 : p1 = 36
  · have hw := hc_8 c_8
    refine lv_tableIn (off := 68) (tgt := 69) hx hb dX3_compares_1 (by rw [c_8]; decide) (by rw [c_8]; decide) (by rw [c_8]; rfl) (by decide) ?_
    refine lv_iload_n hx hb dX3_compares_69 rfl (lv_at hl 1 rfl) ?_
    refine lv_iload_n hx hb dX3_compares_70 rfl (lv_at hl 2 rfl) ?_
    obtain ⟨hc_7t, hc_7f⟩ := hw
    refine lv_icmp_le (tgt := 78) hx hb dX3_compares_71 (by decide) (fun c_7 => ?_) (fun c_7 => ?_)
    · have hw := hc_7t c_7
      clear hc_7t hc_7f
      refine lv_iconst (v := 0) hx hb dX3_compares_78 (by decide) ?_
      exact W.zret (v := 0) hx hb hr (by decide +kernel) (fun t ht hW => ⟨⟨0, S, rfl, hw, by rw [ht]; exact hP, va_K.moved hW.alike hK, hD⟩, hS.F ht⟩) hS.2.2 dX3_compares_79
    · have hw := hc_7f c_7
      clear hc_7t hc_7f
      refine lv_iconst (v := 1) hx hb dX3_compares_74 (by decide) ?_
      refine lv_goto (tgt := 79) hx hb dX3_compares_75 (by decide) ?_
      exact W.zret (v := 1) hx hb hr (by decide +kernel) (fun t ht hW => ⟨⟨1, S, rfl, hw, by rw [ht]; exact hP, va_K.moved hW.alike hK, hD⟩, hS.F ht⟩) hS.2.2 dX3_compares_79
  obtain ⟨hc_10, hw⟩ := hw
  by_cases c_10 : p1 = 37
  · have hw := hc_10 c_10
    refine lv_tableIn (off := 79) (tgt := 80) hx hb dX3_compares_1 (by rw [c_10]; decide) (by rw [c_10]; decide) (by rw [c_10]; rfl) (by decide) ?_
    refine lv_iload_n hx hb dX3_compares_80 rfl (lv_at hl 1 rfl) ?_
    refine lv_iload_n hx hb dX3_compares_81 rfl (lv_at hl 2 rfl) ?_
    obtain ⟨hc_9t, hc_9f⟩ := hw
    refine lv_icmp_ne (tgt := 89) hx hb dX3_compares_82 (by decide) (fun c_9 => ?_) (fun c_9 => ?_)
    · have hw := hc_9f c_9
      clear hc_9t hc_9f
      refine lv_iconst (v := 0) hx hb dX3_compares_89 (by decide) ?_
      exact W.zret (v := 0) hx hb hr (by decide +kernel) (fun t ht hW => ⟨⟨0, S, rfl, hw, by rw [ht]; exact hP, va_K.moved hW.alike hK, hD⟩, hS.F ht⟩) hS.2.2 dX3_compares_90
    · have hw := hc_9t c_9
      clear hc_9t hc_9f
      refine lv_iconst (v := 1) hx hb dX3_compares_85 (by decide) ?_
      refine lv_goto (tgt := 90) hx hb dX3_compares_86 (by decide) ?_
      exact W.zret (v := 1) hx hb hr (by decide +kernel) (fun t ht hW => ⟨⟨1, S, rfl, hw, by rw [ht]; exact hP, va_K.moved hW.alike hK, hD⟩, hS.F ht⟩) hS.2.2 dX3_compares_90
  have hw := hw c_2 c_4 c_6 c_8 c_10
  have c_2n := lv_neT c_2 (a := 33) (by decide)
  have c_4n := lv_neT c_4 (a := 34) (by decide)
  have c_6n := lv_neT c_6 (a := 35) (by decide)
  have c_8n := lv_neT c_8 (a := 36) (by decide)
  have c_10n := lv_neT c_10 (a := 37) (by decide)
  refine lv_tableOut (tgt := 91) hx hb dX3_compares_1 (by omega) (by decide) ?_
  refine lv_iload_n hx hb dX3_compares_91 rfl (lv_at hl 1 rfl) ?_
  refine lv_iload_n hx hb dX3_compares_92 rfl (lv_at hl 2 rfl) ?_
  obtain ⟨hc_11t, hc_11f⟩ := hw
  refine lv_icmp_eq (tgt := 100) hx hb dX3_compares_93 (by decide) (fun c_11 => ?_) (fun c_11 => ?_)
  · have hw := hc_11t c_11
    clear hc_11t hc_11f
    refine lv_iconst (v := 0) hx hb dX3_compares_100 (by decide) ?_
    exact W.zret (v := 0) hx hb hr (by decide +kernel) (fun t ht hW => ⟨⟨0, S, rfl, hw, by rw [ht]; exact hP, va_K.moved hW.alike hK, hD⟩, hS.F ht⟩) hS.2.2 dX3_compares_101
  · have hw := hc_11f c_11
    clear hc_11t hc_11f
    refine lv_iconst (v := 1) hx hb dX3_compares_96 (by decide) ?_
    refine lv_goto (tgt := 101) hx hb dX3_compares_97 (by decide) ?_
    exact W.zret (v := 1) hx hb hr (by decide +kernel) (fun t ht hW => ⟨⟨1, S, rfl, hw, by rw [ht]; exact hP, va_K.moved hW.alike hK, hD⟩, hS.F ht⟩) hS.2.2 dX3_compares_101
def wC_X3_joined (p1 : Int32) (p2 : Int32) (p3 : Int32) (S : CS) (post : Int32 → CS → Prop) : Prop := ((p1 = 27 → post (p2 ||| p3) S) ∧ (p1 = 28 → post (p2 &&& p3) S) ∧ (p1 = 39 → wC_X3_cut (Int32.toInt64 (p2 + p3)) S (fun r_3 S_4 => post r_3 S_4)) ∧ (p1 = 40 → wC_X3_cut (Int32.toInt64 (p2 - p3)) S (fun r_6 S_7 => post r_6 S_7)) ∧ (p1 = 41 → wC_X3_cut ((Int32.toInt64 p2) * (Int32.toInt64 p3)) S (fun r_9 S_10 => post r_9 S_10)) ∧ (p1 = 42 → ((p3 = 0 → post 0 S) ∧ (¬ (p3 = 0) → (¬ p3 = 0 ∧ post (p2 / p3) S)))) ∧ (¬ p1 = 27 → ¬ p1 = 28 → ¬ p1 = 39 → ¬ p1 = 40 → ¬ p1 = 41 → ¬ p1 = 42 → wC_X3_compares p1 p2 p3 S (fun r_15 S_16 => ((r_15 = 0 → post 0 S_16) ∧ (¬ (r_15 = 0) → post 1 S_16)))))
set_option maxHeartbeats 4000000 in
set_option maxRecDepth 100000 in
theorem cC_X3_joined (l : Launch) (D : va_G) (h : Nat → Nat) (cy : Nat → ClassId) (p1 : Int32) (p2 : Int32) (p3 : Int32) (S : CS) (post : Int32 → CS → Prop) (hw : wC_X3_joined p1 p2 p3 S post) : e_Mi clE l yX3_joined wsX3_joined { frames := 1, cells := 0, slots := 0, locals := 22 } D (tyC cy) (wC h cy) [.int p1, .int p2, .int p3] S post := by
  intro sz
  refine Met.ofW (cc := cX3_joined) (maxL := 3) (ret := (some .int)) (by decide) rfl ?_
  intro p e s m args below meth c s₁ B hml hv
  obtain ⟨rfl, hsz, hP, hK, hD0, hs⟩ := hv
  have hx := B.exec
  have hb := B.bytes
  have hr := B.returns
  have hts := atoms_spec (ws := wsX3_joined) B.pre
  have hown : s.vm.findClass RX3 = some m.cls := findClass_of_methodNamed B.named
  have hlocks := B.notSynchronized
  subst hsz
  have hD := hD0.self (sz := s.heap.size)
  generalize hAe : va_A (wC h cy S) s.heap.size = A at hD hs ⊢
  have hA : ∀ q : Nat, s.heap.size ≤ q → A q := fun q h => by rw [← hAe]; exact Or.inr h
  have hS : va_S A s.heap s.heap [] := va_S.rf
  have hl := lv_entry ([.int p1, .int p2, .int p3]) (n := 3) (Nat.le_of_ble_eq_true rfl)
  rw [lg_entry_eq]
  generalize (lg_sl ([.int p1, .int p2, .int p3]) ++ List.replicate (3 - (lg_sl ([.int p1, .int p2, .int p3])).length) Slot.unset).toArray = ls at hl ⊢
  have hl : lv_has ls 3 [(0, .int p1), (1, .int p2), (2, .int p3)] := hl
  unfold wC_X3_joined at hw
  clear hD0
  refine lv_iload_n hx hb dX3_joined_0 rfl (lv_at hl 0 rfl) ?_
  obtain ⟨hc_1, hw⟩ := hw
  by_cases c_1 : p1 = 27
  · have hw := hc_1 c_1
    refine lv_tableIn (off := 120) (tgt := 121) hx hb dX3_joined_1 (by rw [c_1]; decide) (by rw [c_1]; decide) (by rw [c_1]; rfl) (by decide) ?_
    refine lv_iload_n hx hb dX3_joined_121 rfl (lv_at hl 1 rfl) ?_
    refine lv_iload_n hx hb dX3_joined_122 rfl (lv_at hl 2 rfl) ?_
    refine lv_ior hx hb dX3_joined_123 ?_
    exact W.iret (v := p2 ||| p3) hx hb hr (fun t ht hW => ⟨⟨p2 ||| p3, S, rfl, hw, by rw [ht]; exact hP, va_K.moved hW.alike hK, hD⟩, hS.F ht⟩) hS.2.2 dX3_joined_124
  obtain ⟨hc_2, hw⟩ := hw
  by_cases c_2 : p1 = 28
  · have hw := hc_2 c_2
    refine lv_tableIn (off := 116) (tgt := 117) hx hb dX3_joined_1 (by rw [c_2]; decide) (by rw [c_2]; decide) (by rw [c_2]; rfl) (by decide) ?_
    refine lv_iload_n hx hb dX3_joined_117 rfl (lv_at hl 1 rfl) ?_
    refine lv_iload_n hx hb dX3_joined_118 rfl (lv_at hl 2 rfl) ?_
    refine lv_iand hx hb dX3_joined_119 ?_
    exact W.iret (v := p2 &&& p3) hx hb hr (fun t ht hW => ⟨⟨p2 &&& p3, S, rfl, hw, by rw [ht]; exact hP, va_K.moved hW.alike hK, hD⟩, hS.F ht⟩) hS.2.2 dX3_joined_120
  obtain ⟨hc_5, hw⟩ := hw
  by_cases c_5 : p1 = 39
  · have hw := hc_5 c_5
    refine lv_tableIn (off := 79) (tgt := 80) hx hb dX3_joined_1 (by rw [c_5]; decide) (by rw [c_5]; decide) (by rw [c_5]; rfl) (by decide) ?_
    refine lv_iload_n hx hb dX3_joined_80 rfl (lv_at hl 1 rfl) ?_
    refine lv_iload_n hx hb dX3_joined_81 rfl (lv_at hl 2 rfl) ?_
    refine lv_iadd hx hb dX3_joined_82 ?_
    refine lv_i2l (v := Int32.toInt64 (p2 + p3)) hx hb dX3_joined_83 rfl ?_
    refine e_callSi (As := [.long (Int32.toInt64 (p2 + p3))]) (rest := []) clE_stable hs ⟨hx, hb, hml, hown, hts⟩ (cC_X3_cut l D h cy _ _ _ hw) (va_cwS 1 hts gX3_joined_X3_cut rfl rfl rfl (by decide +kernel) ⟨Nat.le_of_ble_eq_true rfl, Nat.le_of_ble_eq_true rfl⟩) hK hP hD hS hA rfl hl.1 rfl (Nat.le_of_ble_eq_true rfl) dX3_joined_84 ⟨Nat.zero_le _, Nat.zero_le _⟩ (fun r_3 S_4 H locs hw hP hD hS => ?_)
    exact W.iret (v := r_3) hx hb hr (fun t ht hW => ⟨⟨r_3, S_4, rfl, hw, by rw [ht]; exact hP, va_K.moved hW.alike hK, hD⟩, hS.F ht⟩) hS.2.2 dX3_joined_87
  obtain ⟨hc_8, hw⟩ := hw
  by_cases c_8 : p1 = 40
  · have hw := hc_8 c_8
    refine lv_tableIn (off := 87) (tgt := 88) hx hb dX3_joined_1 (by rw [c_8]; decide) (by rw [c_8]; decide) (by rw [c_8]; rfl) (by decide) ?_
    refine lv_iload_n hx hb dX3_joined_88 rfl (lv_at hl 1 rfl) ?_
    refine lv_iload_n hx hb dX3_joined_89 rfl (lv_at hl 2 rfl) ?_
    refine lv_isub hx hb dX3_joined_90 ?_
    refine lv_i2l (v := Int32.toInt64 (p2 - p3)) hx hb dX3_joined_91 rfl ?_
    refine e_callSi (As := [.long (Int32.toInt64 (p2 - p3))]) (rest := []) clE_stable hs ⟨hx, hb, hml, hown, hts⟩ (cC_X3_cut l D h cy _ _ _ hw) (va_cwS 1 hts gX3_joined_X3_cut rfl rfl rfl (by decide +kernel) ⟨Nat.le_of_ble_eq_true rfl, Nat.le_of_ble_eq_true rfl⟩) hK hP hD hS hA rfl hl.1 rfl (Nat.le_of_ble_eq_true rfl) dX3_joined_92 ⟨Nat.zero_le _, Nat.zero_le _⟩ (fun r_6 S_7 H locs hw hP hD hS => ?_)
    exact W.iret (v := r_6) hx hb hr (fun t ht hW => ⟨⟨r_6, S_7, rfl, hw, by rw [ht]; exact hP, va_K.moved hW.alike hK, hD⟩, hS.F ht⟩) hS.2.2 dX3_joined_95
  obtain ⟨hc_11, hw⟩ := hw
  by_cases c_11 : p1 = 41
  · have hw := hc_11 c_11
    refine lv_tableIn (off := 95) (tgt := 96) hx hb dX3_joined_1 (by rw [c_11]; decide) (by rw [c_11]; decide) (by rw [c_11]; rfl) (by decide) ?_
    refine lv_iload_n hx hb dX3_joined_96 rfl (lv_at hl 1 rfl) ?_
    refine lv_i2l (v := Int32.toInt64 p2) hx hb dX3_joined_97 rfl ?_
    refine lv_iload_n hx hb dX3_joined_98 rfl (lv_at hl 2 rfl) ?_
    refine lv_i2l (v := Int32.toInt64 p3) hx hb dX3_joined_99 rfl ?_
    refine lv_lmul hx hb dX3_joined_100 ?_
    refine e_callSi (As := [.long ((Int32.toInt64 p2) * (Int32.toInt64 p3))]) (rest := []) clE_stable hs ⟨hx, hb, hml, hown, hts⟩ (cC_X3_cut l D h cy _ _ _ hw) (va_cwS 1 hts gX3_joined_X3_cut rfl rfl rfl (by decide +kernel) ⟨Nat.le_of_ble_eq_true rfl, Nat.le_of_ble_eq_true rfl⟩) hK hP hD hS hA rfl hl.1 rfl (Nat.le_of_ble_eq_true rfl) dX3_joined_101 ⟨Nat.zero_le _, Nat.zero_le _⟩ (fun r_9 S_10 H locs hw hP hD hS => ?_)
    exact W.iret (v := r_9) hx hb hr (fun t ht hW => ⟨⟨r_9, S_10, rfl, hw, by rw [ht]; exact hP, va_K.moved hW.alike hK, hD⟩, hS.F ht⟩) hS.2.2 dX3_joined_104
  obtain ⟨hc_14, hw⟩ := hw
  by_cases c_14 : p1 = 42
  · have hw := hc_14 c_14
    refine lv_tableIn (off := 104) (tgt := 105) hx hb dX3_joined_1 (by rw [c_14]; decide) (by rw [c_14]; decide) (by rw [c_14]; rfl) (by decide) ?_
    refine lv_iload_n hx hb dX3_joined_105 rfl (lv_at hl 2 rfl) ?_
    obtain ⟨hc_12t, hc_12f⟩ := hw
    refine lv_if_ne (tgt := 113) hx hb dX3_joined_106 (by decide) (fun c_12 => ?_) (fun c_12 => ?_)
    · have hw := hc_12f c_12
      clear hc_12t hc_12f
      refine lv_iload_n hx hb dX3_joined_113 rfl (lv_at hl 1 rfl) ?_
      refine lv_iload_n hx hb dX3_joined_114 rfl (lv_at hl 2 rfl) ?_
      obtain ⟨hz_13, hw⟩ := hw
      refine lv_idiv hx hb dX3_joined_115 hz_13 ?_
      exact W.iret (v := p2 / p3) hx hb hr (fun t ht hW => ⟨⟨p2 / p3, S, rfl, hw, by rw [ht]; exact hP, va_K.moved hW.alike hK, hD⟩, hS.F ht⟩) hS.2.2 dX3_joined_116
    · have hw := hc_12t c_12
      clear hc_12t hc_12f
      refine lv_iconst (v := 0) hx hb dX3_joined_109 (by decide) ?_
      refine lv_goto (tgt := 116) hx hb dX3_joined_110 (by decide) ?_
      exact W.iret (v := 0) hx hb hr (fun t ht hW => ⟨⟨0, S, rfl, hw, by rw [ht]; exact hP, va_K.moved hW.alike hK, hD⟩, hS.F ht⟩) hS.2.2 dX3_joined_116
  have hw := hw c_1 c_2 c_5 c_8 c_11 c_14
  by_cases c_18 : p1 = 29
  · refine lv_tableIn (off := 124) (tgt := 125) hx hb dX3_joined_1 (by rw [c_18]; decide) (by rw [c_18]; decide) (by rw [c_18]; rfl) (by decide) ?_
    refine lv_iload_n hx hb dX3_joined_125 rfl (lv_at hl 0 rfl) ?_
    refine lv_iload_n hx hb dX3_joined_126 rfl (lv_at hl 1 rfl) ?_
    refine lv_iload_n hx hb dX3_joined_127 rfl (lv_at hl 2 rfl) ?_
    refine e_callSi (As := [.int p1, .int p2, .int p3]) (rest := []) clE_stable hs ⟨hx, hb, hml, hown, hts⟩ (cC_X3_compares l D h cy _ _ _ _ _ hw) (va_cwS 3 hts gX3_joined_X3_compares rfl rfl rfl (by decide +kernel) ⟨Nat.le_of_ble_eq_true rfl, Nat.le_of_ble_eq_true rfl⟩) hK hP hD hS hA rfl hl.1 rfl (Nat.le_of_ble_eq_true rfl) dX3_joined_128 ⟨Nat.zero_le _, Nat.zero_le _⟩ (fun r_15 S_16 H locs hw hP hD hS => ?_)
    obtain ⟨hc_17t, hc_17f⟩ := hw
    refine lv_if_eq (tgt := 138) hx hb dX3_joined_131 (by decide) (fun c_17 => ?_) (fun c_17 => ?_)
    · have hw := hc_17t c_17
      clear hc_17t hc_17f
      refine lv_iconst (v := 0) hx hb dX3_joined_138 (by decide) ?_
      exact W.iret (v := 0) hx hb hr (fun t ht hW => ⟨⟨0, S_16, rfl, hw, by rw [ht]; exact hP, va_K.moved hW.alike hK, hD⟩, hS.F ht⟩) hS.2.2 dX3_joined_139
    · have hw := hc_17f c_17
      clear hc_17t hc_17f
      refine lv_iconst (v := 1) hx hb dX3_joined_134 (by decide) ?_
      refine lv_goto (tgt := 139) hx hb dX3_joined_135 (by decide) ?_
      exact W.iret (v := 1) hx hb hr (fun t ht hW => ⟨⟨1, S_16, rfl, hw, by rw [ht]; exact hP, va_K.moved hW.alike hK, hD⟩, hS.F ht⟩) hS.2.2 dX3_joined_139
  by_cases c_19 : p1 = 30
  · refine lv_tableIn (off := 124) (tgt := 125) hx hb dX3_joined_1 (by rw [c_19]; decide) (by rw [c_19]; decide) (by rw [c_19]; rfl) (by decide) ?_
    refine lv_iload_n hx hb dX3_joined_125 rfl (lv_at hl 0 rfl) ?_
    refine lv_iload_n hx hb dX3_joined_126 rfl (lv_at hl 1 rfl) ?_
    refine lv_iload_n hx hb dX3_joined_127 rfl (lv_at hl 2 rfl) ?_
    refine e_callSi (As := [.int p1, .int p2, .int p3]) (rest := []) clE_stable hs ⟨hx, hb, hml, hown, hts⟩ (cC_X3_compares l D h cy _ _ _ _ _ hw) (va_cwS 3 hts gX3_joined_X3_compares rfl rfl rfl (by decide +kernel) ⟨Nat.le_of_ble_eq_true rfl, Nat.le_of_ble_eq_true rfl⟩) hK hP hD hS hA rfl hl.1 rfl (Nat.le_of_ble_eq_true rfl) dX3_joined_128 ⟨Nat.zero_le _, Nat.zero_le _⟩ (fun r_15 S_16 H locs hw hP hD hS => ?_)
    obtain ⟨hc_17t, hc_17f⟩ := hw
    refine lv_if_eq (tgt := 138) hx hb dX3_joined_131 (by decide) (fun c_17 => ?_) (fun c_17 => ?_)
    · have hw := hc_17t c_17
      clear hc_17t hc_17f
      refine lv_iconst (v := 0) hx hb dX3_joined_138 (by decide) ?_
      exact W.iret (v := 0) hx hb hr (fun t ht hW => ⟨⟨0, S_16, rfl, hw, by rw [ht]; exact hP, va_K.moved hW.alike hK, hD⟩, hS.F ht⟩) hS.2.2 dX3_joined_139
    · have hw := hc_17f c_17
      clear hc_17t hc_17f
      refine lv_iconst (v := 1) hx hb dX3_joined_134 (by decide) ?_
      refine lv_goto (tgt := 139) hx hb dX3_joined_135 (by decide) ?_
      exact W.iret (v := 1) hx hb hr (fun t ht hW => ⟨⟨1, S_16, rfl, hw, by rw [ht]; exact hP, va_K.moved hW.alike hK, hD⟩, hS.F ht⟩) hS.2.2 dX3_joined_139
  by_cases c_20 : p1 = 31
  · refine lv_tableIn (off := 124) (tgt := 125) hx hb dX3_joined_1 (by rw [c_20]; decide) (by rw [c_20]; decide) (by rw [c_20]; rfl) (by decide) ?_
    refine lv_iload_n hx hb dX3_joined_125 rfl (lv_at hl 0 rfl) ?_
    refine lv_iload_n hx hb dX3_joined_126 rfl (lv_at hl 1 rfl) ?_
    refine lv_iload_n hx hb dX3_joined_127 rfl (lv_at hl 2 rfl) ?_
    refine e_callSi (As := [.int p1, .int p2, .int p3]) (rest := []) clE_stable hs ⟨hx, hb, hml, hown, hts⟩ (cC_X3_compares l D h cy _ _ _ _ _ hw) (va_cwS 3 hts gX3_joined_X3_compares rfl rfl rfl (by decide +kernel) ⟨Nat.le_of_ble_eq_true rfl, Nat.le_of_ble_eq_true rfl⟩) hK hP hD hS hA rfl hl.1 rfl (Nat.le_of_ble_eq_true rfl) dX3_joined_128 ⟨Nat.zero_le _, Nat.zero_le _⟩ (fun r_15 S_16 H locs hw hP hD hS => ?_)
    obtain ⟨hc_17t, hc_17f⟩ := hw
    refine lv_if_eq (tgt := 138) hx hb dX3_joined_131 (by decide) (fun c_17 => ?_) (fun c_17 => ?_)
    · have hw := hc_17t c_17
      clear hc_17t hc_17f
      refine lv_iconst (v := 0) hx hb dX3_joined_138 (by decide) ?_
      exact W.iret (v := 0) hx hb hr (fun t ht hW => ⟨⟨0, S_16, rfl, hw, by rw [ht]; exact hP, va_K.moved hW.alike hK, hD⟩, hS.F ht⟩) hS.2.2 dX3_joined_139
    · have hw := hc_17f c_17
      clear hc_17t hc_17f
      refine lv_iconst (v := 1) hx hb dX3_joined_134 (by decide) ?_
      refine lv_goto (tgt := 139) hx hb dX3_joined_135 (by decide) ?_
      exact W.iret (v := 1) hx hb hr (fun t ht hW => ⟨⟨1, S_16, rfl, hw, by rw [ht]; exact hP, va_K.moved hW.alike hK, hD⟩, hS.F ht⟩) hS.2.2 dX3_joined_139
  by_cases c_21 : p1 = 32
  · refine lv_tableIn (off := 124) (tgt := 125) hx hb dX3_joined_1 (by rw [c_21]; decide) (by rw [c_21]; decide) (by rw [c_21]; rfl) (by decide) ?_
    refine lv_iload_n hx hb dX3_joined_125 rfl (lv_at hl 0 rfl) ?_
    refine lv_iload_n hx hb dX3_joined_126 rfl (lv_at hl 1 rfl) ?_
    refine lv_iload_n hx hb dX3_joined_127 rfl (lv_at hl 2 rfl) ?_
    refine e_callSi (As := [.int p1, .int p2, .int p3]) (rest := []) clE_stable hs ⟨hx, hb, hml, hown, hts⟩ (cC_X3_compares l D h cy _ _ _ _ _ hw) (va_cwS 3 hts gX3_joined_X3_compares rfl rfl rfl (by decide +kernel) ⟨Nat.le_of_ble_eq_true rfl, Nat.le_of_ble_eq_true rfl⟩) hK hP hD hS hA rfl hl.1 rfl (Nat.le_of_ble_eq_true rfl) dX3_joined_128 ⟨Nat.zero_le _, Nat.zero_le _⟩ (fun r_15 S_16 H locs hw hP hD hS => ?_)
    obtain ⟨hc_17t, hc_17f⟩ := hw
    refine lv_if_eq (tgt := 138) hx hb dX3_joined_131 (by decide) (fun c_17 => ?_) (fun c_17 => ?_)
    · have hw := hc_17t c_17
      clear hc_17t hc_17f
      refine lv_iconst (v := 0) hx hb dX3_joined_138 (by decide) ?_
      exact W.iret (v := 0) hx hb hr (fun t ht hW => ⟨⟨0, S_16, rfl, hw, by rw [ht]; exact hP, va_K.moved hW.alike hK, hD⟩, hS.F ht⟩) hS.2.2 dX3_joined_139
    · have hw := hc_17f c_17
      clear hc_17t hc_17f
      refine lv_iconst (v := 1) hx hb dX3_joined_134 (by decide) ?_
      refine lv_goto (tgt := 139) hx hb dX3_joined_135 (by decide) ?_
      exact W.iret (v := 1) hx hb hr (fun t ht hW => ⟨⟨1, S_16, rfl, hw, by rw [ht]; exact hP, va_K.moved hW.alike hK, hD⟩, hS.F ht⟩) hS.2.2 dX3_joined_139
  by_cases c_22 : p1 = 33
  · refine lv_tableIn (off := 124) (tgt := 125) hx hb dX3_joined_1 (by rw [c_22]; decide) (by rw [c_22]; decide) (by rw [c_22]; rfl) (by decide) ?_
    refine lv_iload_n hx hb dX3_joined_125 rfl (lv_at hl 0 rfl) ?_
    refine lv_iload_n hx hb dX3_joined_126 rfl (lv_at hl 1 rfl) ?_
    refine lv_iload_n hx hb dX3_joined_127 rfl (lv_at hl 2 rfl) ?_
    refine e_callSi (As := [.int p1, .int p2, .int p3]) (rest := []) clE_stable hs ⟨hx, hb, hml, hown, hts⟩ (cC_X3_compares l D h cy _ _ _ _ _ hw) (va_cwS 3 hts gX3_joined_X3_compares rfl rfl rfl (by decide +kernel) ⟨Nat.le_of_ble_eq_true rfl, Nat.le_of_ble_eq_true rfl⟩) hK hP hD hS hA rfl hl.1 rfl (Nat.le_of_ble_eq_true rfl) dX3_joined_128 ⟨Nat.zero_le _, Nat.zero_le _⟩ (fun r_15 S_16 H locs hw hP hD hS => ?_)
    obtain ⟨hc_17t, hc_17f⟩ := hw
    refine lv_if_eq (tgt := 138) hx hb dX3_joined_131 (by decide) (fun c_17 => ?_) (fun c_17 => ?_)
    · have hw := hc_17t c_17
      clear hc_17t hc_17f
      refine lv_iconst (v := 0) hx hb dX3_joined_138 (by decide) ?_
      exact W.iret (v := 0) hx hb hr (fun t ht hW => ⟨⟨0, S_16, rfl, hw, by rw [ht]; exact hP, va_K.moved hW.alike hK, hD⟩, hS.F ht⟩) hS.2.2 dX3_joined_139
    · have hw := hc_17f c_17
      clear hc_17t hc_17f
      refine lv_iconst (v := 1) hx hb dX3_joined_134 (by decide) ?_
      refine lv_goto (tgt := 139) hx hb dX3_joined_135 (by decide) ?_
      exact W.iret (v := 1) hx hb hr (fun t ht hW => ⟨⟨1, S_16, rfl, hw, by rw [ht]; exact hP, va_K.moved hW.alike hK, hD⟩, hS.F ht⟩) hS.2.2 dX3_joined_139
  by_cases c_23 : p1 = 34
  · refine lv_tableIn (off := 124) (tgt := 125) hx hb dX3_joined_1 (by rw [c_23]; decide) (by rw [c_23]; decide) (by rw [c_23]; rfl) (by decide) ?_
    refine lv_iload_n hx hb dX3_joined_125 rfl (lv_at hl 0 rfl) ?_
    refine lv_iload_n hx hb dX3_joined_126 rfl (lv_at hl 1 rfl) ?_
    refine lv_iload_n hx hb dX3_joined_127 rfl (lv_at hl 2 rfl) ?_
    refine e_callSi (As := [.int p1, .int p2, .int p3]) (rest := []) clE_stable hs ⟨hx, hb, hml, hown, hts⟩ (cC_X3_compares l D h cy _ _ _ _ _ hw) (va_cwS 3 hts gX3_joined_X3_compares rfl rfl rfl (by decide +kernel) ⟨Nat.le_of_ble_eq_true rfl, Nat.le_of_ble_eq_true rfl⟩) hK hP hD hS hA rfl hl.1 rfl (Nat.le_of_ble_eq_true rfl) dX3_joined_128 ⟨Nat.zero_le _, Nat.zero_le _⟩ (fun r_15 S_16 H locs hw hP hD hS => ?_)
    obtain ⟨hc_17t, hc_17f⟩ := hw
    refine lv_if_eq (tgt := 138) hx hb dX3_joined_131 (by decide) (fun c_17 => ?_) (fun c_17 => ?_)
    · have hw := hc_17t c_17
      clear hc_17t hc_17f
      refine lv_iconst (v := 0) hx hb dX3_joined_138 (by decide) ?_
      exact W.iret (v := 0) hx hb hr (fun t ht hW => ⟨⟨0, S_16, rfl, hw, by rw [ht]; exact hP, va_K.moved hW.alike hK, hD⟩, hS.F ht⟩) hS.2.2 dX3_joined_139
    · have hw := hc_17f c_17
      clear hc_17t hc_17f
      refine lv_iconst (v := 1) hx hb dX3_joined_134 (by decide) ?_
      refine lv_goto (tgt := 139) hx hb dX3_joined_135 (by decide) ?_
      exact W.iret (v := 1) hx hb hr (fun t ht hW => ⟨⟨1, S_16, rfl, hw, by rw [ht]; exact hP, va_K.moved hW.alike hK, hD⟩, hS.F ht⟩) hS.2.2 dX3_joined_139
  by_cases c_24 : p1 = 35
  · refine lv_tableIn (off := 124) (tgt := 125) hx hb dX3_joined_1 (by rw [c_24]; decide) (by rw [c_24]; decide) (by rw [c_24]; rfl) (by decide) ?_
    refine lv_iload_n hx hb dX3_joined_125 rfl (lv_at hl 0 rfl) ?_
    refine lv_iload_n hx hb dX3_joined_126 rfl (lv_at hl 1 rfl) ?_
    refine lv_iload_n hx hb dX3_joined_127 rfl (lv_at hl 2 rfl) ?_
    refine e_callSi (As := [.int p1, .int p2, .int p3]) (rest := []) clE_stable hs ⟨hx, hb, hml, hown, hts⟩ (cC_X3_compares l D h cy _ _ _ _ _ hw) (va_cwS 3 hts gX3_joined_X3_compares rfl rfl rfl (by decide +kernel) ⟨Nat.le_of_ble_eq_true rfl, Nat.le_of_ble_eq_true rfl⟩) hK hP hD hS hA rfl hl.1 rfl (Nat.le_of_ble_eq_true rfl) dX3_joined_128 ⟨Nat.zero_le _, Nat.zero_le _⟩ (fun r_15 S_16 H locs hw hP hD hS => ?_)
    obtain ⟨hc_17t, hc_17f⟩ := hw
    refine lv_if_eq (tgt := 138) hx hb dX3_joined_131 (by decide) (fun c_17 => ?_) (fun c_17 => ?_)
    · have hw := hc_17t c_17
      clear hc_17t hc_17f
      refine lv_iconst (v := 0) hx hb dX3_joined_138 (by decide) ?_
      exact W.iret (v := 0) hx hb hr (fun t ht hW => ⟨⟨0, S_16, rfl, hw, by rw [ht]; exact hP, va_K.moved hW.alike hK, hD⟩, hS.F ht⟩) hS.2.2 dX3_joined_139
    · have hw := hc_17f c_17
      clear hc_17t hc_17f
      refine lv_iconst (v := 1) hx hb dX3_joined_134 (by decide) ?_
      refine lv_goto (tgt := 139) hx hb dX3_joined_135 (by decide) ?_
      exact W.iret (v := 1) hx hb hr (fun t ht hW => ⟨⟨1, S_16, rfl, hw, by rw [ht]; exact hP, va_K.moved hW.alike hK, hD⟩, hS.F ht⟩) hS.2.2 dX3_joined_139
  by_cases c_25 : p1 = 36
  · refine lv_tableIn (off := 124) (tgt := 125) hx hb dX3_joined_1 (by rw [c_25]; decide) (by rw [c_25]; decide) (by rw [c_25]; rfl) (by decide) ?_
    refine lv_iload_n hx hb dX3_joined_125 rfl (lv_at hl 0 rfl) ?_
    refine lv_iload_n hx hb dX3_joined_126 rfl (lv_at hl 1 rfl) ?_
    refine lv_iload_n hx hb dX3_joined_127 rfl (lv_at hl 2 rfl) ?_
    refine e_callSi (As := [.int p1, .int p2, .int p3]) (rest := []) clE_stable hs ⟨hx, hb, hml, hown, hts⟩ (cC_X3_compares l D h cy _ _ _ _ _ hw) (va_cwS 3 hts gX3_joined_X3_compares rfl rfl rfl (by decide +kernel) ⟨Nat.le_of_ble_eq_true rfl, Nat.le_of_ble_eq_true rfl⟩) hK hP hD hS hA rfl hl.1 rfl (Nat.le_of_ble_eq_true rfl) dX3_joined_128 ⟨Nat.zero_le _, Nat.zero_le _⟩ (fun r_15 S_16 H locs hw hP hD hS => ?_)
    obtain ⟨hc_17t, hc_17f⟩ := hw
    refine lv_if_eq (tgt := 138) hx hb dX3_joined_131 (by decide) (fun c_17 => ?_) (fun c_17 => ?_)
    · have hw := hc_17t c_17
      clear hc_17t hc_17f
      refine lv_iconst (v := 0) hx hb dX3_joined_138 (by decide) ?_
      exact W.iret (v := 0) hx hb hr (fun t ht hW => ⟨⟨0, S_16, rfl, hw, by rw [ht]; exact hP, va_K.moved hW.alike hK, hD⟩, hS.F ht⟩) hS.2.2 dX3_joined_139
    · have hw := hc_17f c_17
      clear hc_17t hc_17f
      refine lv_iconst (v := 1) hx hb dX3_joined_134 (by decide) ?_
      refine lv_goto (tgt := 139) hx hb dX3_joined_135 (by decide) ?_
      exact W.iret (v := 1) hx hb hr (fun t ht hW => ⟨⟨1, S_16, rfl, hw, by rw [ht]; exact hP, va_K.moved hW.alike hK, hD⟩, hS.F ht⟩) hS.2.2 dX3_joined_139
  by_cases c_26 : p1 = 37
  · refine lv_tableIn (off := 124) (tgt := 125) hx hb dX3_joined_1 (by rw [c_26]; decide) (by rw [c_26]; decide) (by rw [c_26]; rfl) (by decide) ?_
    refine lv_iload_n hx hb dX3_joined_125 rfl (lv_at hl 0 rfl) ?_
    refine lv_iload_n hx hb dX3_joined_126 rfl (lv_at hl 1 rfl) ?_
    refine lv_iload_n hx hb dX3_joined_127 rfl (lv_at hl 2 rfl) ?_
    refine e_callSi (As := [.int p1, .int p2, .int p3]) (rest := []) clE_stable hs ⟨hx, hb, hml, hown, hts⟩ (cC_X3_compares l D h cy _ _ _ _ _ hw) (va_cwS 3 hts gX3_joined_X3_compares rfl rfl rfl (by decide +kernel) ⟨Nat.le_of_ble_eq_true rfl, Nat.le_of_ble_eq_true rfl⟩) hK hP hD hS hA rfl hl.1 rfl (Nat.le_of_ble_eq_true rfl) dX3_joined_128 ⟨Nat.zero_le _, Nat.zero_le _⟩ (fun r_15 S_16 H locs hw hP hD hS => ?_)
    obtain ⟨hc_17t, hc_17f⟩ := hw
    refine lv_if_eq (tgt := 138) hx hb dX3_joined_131 (by decide) (fun c_17 => ?_) (fun c_17 => ?_)
    · have hw := hc_17t c_17
      clear hc_17t hc_17f
      refine lv_iconst (v := 0) hx hb dX3_joined_138 (by decide) ?_
      exact W.iret (v := 0) hx hb hr (fun t ht hW => ⟨⟨0, S_16, rfl, hw, by rw [ht]; exact hP, va_K.moved hW.alike hK, hD⟩, hS.F ht⟩) hS.2.2 dX3_joined_139
    · have hw := hc_17f c_17
      clear hc_17t hc_17f
      refine lv_iconst (v := 1) hx hb dX3_joined_134 (by decide) ?_
      refine lv_goto (tgt := 139) hx hb dX3_joined_135 (by decide) ?_
      exact W.iret (v := 1) hx hb hr (fun t ht hW => ⟨⟨1, S_16, rfl, hw, by rw [ht]; exact hP, va_K.moved hW.alike hK, hD⟩, hS.F ht⟩) hS.2.2 dX3_joined_139
  by_cases c_27 : p1 = 38
  · refine lv_tableIn (off := 124) (tgt := 125) hx hb dX3_joined_1 (by rw [c_27]; decide) (by rw [c_27]; decide) (by rw [c_27]; rfl) (by decide) ?_
    refine lv_iload_n hx hb dX3_joined_125 rfl (lv_at hl 0 rfl) ?_
    refine lv_iload_n hx hb dX3_joined_126 rfl (lv_at hl 1 rfl) ?_
    refine lv_iload_n hx hb dX3_joined_127 rfl (lv_at hl 2 rfl) ?_
    refine e_callSi (As := [.int p1, .int p2, .int p3]) (rest := []) clE_stable hs ⟨hx, hb, hml, hown, hts⟩ (cC_X3_compares l D h cy _ _ _ _ _ hw) (va_cwS 3 hts gX3_joined_X3_compares rfl rfl rfl (by decide +kernel) ⟨Nat.le_of_ble_eq_true rfl, Nat.le_of_ble_eq_true rfl⟩) hK hP hD hS hA rfl hl.1 rfl (Nat.le_of_ble_eq_true rfl) dX3_joined_128 ⟨Nat.zero_le _, Nat.zero_le _⟩ (fun r_15 S_16 H locs hw hP hD hS => ?_)
    obtain ⟨hc_17t, hc_17f⟩ := hw
    refine lv_if_eq (tgt := 138) hx hb dX3_joined_131 (by decide) (fun c_17 => ?_) (fun c_17 => ?_)
    · have hw := hc_17t c_17
      clear hc_17t hc_17f
      refine lv_iconst (v := 0) hx hb dX3_joined_138 (by decide) ?_
      exact W.iret (v := 0) hx hb hr (fun t ht hW => ⟨⟨0, S_16, rfl, hw, by rw [ht]; exact hP, va_K.moved hW.alike hK, hD⟩, hS.F ht⟩) hS.2.2 dX3_joined_139
    · have hw := hc_17f c_17
      clear hc_17t hc_17f
      refine lv_iconst (v := 1) hx hb dX3_joined_134 (by decide) ?_
      refine lv_goto (tgt := 139) hx hb dX3_joined_135 (by decide) ?_
      exact W.iret (v := 1) hx hb hr (fun t ht hW => ⟨⟨1, S_16, rfl, hw, by rw [ht]; exact hP, va_K.moved hW.alike hK, hD⟩, hS.F ht⟩) hS.2.2 dX3_joined_139
  have c_1n := lv_neT c_1 (a := 27) (by decide)
  have c_2n := lv_neT c_2 (a := 28) (by decide)
  have c_5n := lv_neT c_5 (a := 39) (by decide)
  have c_8n := lv_neT c_8 (a := 40) (by decide)
  have c_11n := lv_neT c_11 (a := 41) (by decide)
  have c_14n := lv_neT c_14 (a := 42) (by decide)
  have c_18n := lv_neT c_18 (a := 29) (by decide)
  have c_19n := lv_neT c_19 (a := 30) (by decide)
  have c_20n := lv_neT c_20 (a := 31) (by decide)
  have c_21n := lv_neT c_21 (a := 32) (by decide)
  have c_22n := lv_neT c_22 (a := 33) (by decide)
  have c_23n := lv_neT c_23 (a := 34) (by decide)
  have c_24n := lv_neT c_24 (a := 35) (by decide)
  have c_25n := lv_neT c_25 (a := 36) (by decide)
  have c_26n := lv_neT c_26 (a := 37) (by decide)
  have c_27n := lv_neT c_27 (a := 38) (by decide)
  refine lv_tableOut (tgt := 125) hx hb dX3_joined_1 (by omega) (by decide) ?_
  refine lv_iload_n hx hb dX3_joined_125 rfl (lv_at hl 0 rfl) ?_
  refine lv_iload_n hx hb dX3_joined_126 rfl (lv_at hl 1 rfl) ?_
  refine lv_iload_n hx hb dX3_joined_127 rfl (lv_at hl 2 rfl) ?_
  refine e_callSi (As := [.int p1, .int p2, .int p3]) (rest := []) clE_stable hs ⟨hx, hb, hml, hown, hts⟩ (cC_X3_compares l D h cy _ _ _ _ _ hw) (va_cwS 3 hts gX3_joined_X3_compares rfl rfl rfl (by decide +kernel) ⟨Nat.le_of_ble_eq_true rfl, Nat.le_of_ble_eq_true rfl⟩) hK hP hD hS hA rfl hl.1 rfl (Nat.le_of_ble_eq_true rfl) dX3_joined_128 ⟨Nat.zero_le _, Nat.zero_le _⟩ (fun r_15 S_16 H locs hw hP hD hS => ?_)
  obtain ⟨hc_17t, hc_17f⟩ := hw
  refine lv_if_eq (tgt := 138) hx hb dX3_joined_131 (by decide) (fun c_17 => ?_) (fun c_17 => ?_)
  · have hw := hc_17t c_17
    clear hc_17t hc_17f
    refine lv_iconst (v := 0) hx hb dX3_joined_138 (by decide) ?_
    exact W.iret (v := 0) hx hb hr (fun t ht hW => ⟨⟨0, S_16, rfl, hw, by rw [ht]; exact hP, va_K.moved hW.alike hK, hD⟩, hS.F ht⟩) hS.2.2 dX3_joined_139
  · have hw := hc_17f c_17
    clear hc_17t hc_17f
    refine lv_iconst (v := 1) hx hb dX3_joined_134 (by decide) ?_
    refine lv_goto (tgt := 139) hx hb dX3_joined_135 (by decide) ?_
    exact W.iret (v := 1) hx hb hr (fun t ht hW => ⟨⟨1, S_16, rfl, hw, by rw [ht]; exact hP, va_K.moved hW.alike hK, hD⟩, hS.F ht⟩) hS.2.2 dX3_joined_139
