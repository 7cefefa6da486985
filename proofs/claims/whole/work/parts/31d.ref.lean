def wM_canSend (p1 : Int32) (p2 : Int32) (S : MS) (post : Int32 → MS → Prop) : Prop := wM_isClown p1 S (fun r_1 S_2 => ((r_1 = 0 → post 0 S_2) ∧ (¬ (r_1 = 0) → wM_isHouse p2 S_2 (fun r_4 S_5 => ((r_4 = 0 → post 0 S_5) ∧ (¬ (r_4 = 0) → wM_own p1 1 S_5 (fun r_7 S_8 => ((r_7 = p2 → post 0 S_8) ∧ (¬ (r_7 = p2) → post 1 S_8)))))))))
set_option maxHeartbeats 4000000 in
set_option maxRecDepth 100000 in
theorem cM_canSend (l : Launch) (D : va_G) (h : Nat → Nat) (cy : Nat → ClassId) (p1 : Int32) (p2 : Int32) (S : MS) (post : Int32 → MS → Prop) (hw : wM_canSend p1 p2 S post) : k_Mi l yX12_canSend wsX12_canSend { frames := 2, cells := 0, slots := 0, locals := 43 } D (tyM cy) (wM h cy) [.ref (h 31), .int p1, .int p2] S post := by
  intro sz
  refine Met.ofW (cc := cX12_canSend) (maxL := 3) (ret := (some .boolean)) (by decide) rfl ?_
  intro p e s m args below meth c s₁ B hml hv
  obtain ⟨rfl, hsz, hP, hK, hD0⟩ := hv
  have hx := B.exec
  have hb := B.bytes
  have hr := B.returns
  have hts := atoms_spec (ws := wsX12_canSend) B.pre
  have hown : s.vm.findClass RX12 = some m.cls := findClass_of_methodNamed B.named
  have hlocks := B.notSynchronized
  subst hsz
  have hD := hD0.self (sz := s.heap.size)
  generalize hAe : va_A (wM h cy S) s.heap.size = A at hD ⊢
  have hA : ∀ q : Nat, s.heap.size ≤ q → A q := fun q h => by rw [← hAe]; exact Or.inr h
  have hS : va_S A s.heap s.heap [] := va_S.rf
  have hl := lv_entry ([.ref (h 31), .int p1, .int p2]) (n := 3) (Nat.le_of_ble_eq_true rfl)
  rw [lg_entry_eq]
  generalize (lg_sl ([.ref (h 31), .int p1, .int p2]) ++ List.replicate (3 - (lg_sl ([.ref (h 31), .int p1, .int p2])).length) Slot.unset).toArray = ls at hl ⊢
  have hl : lv_has ls 3 [(0, .ref (h 31)), (1, .int p1), (2, .int p2)] := hl
  unfold wM_canSend at hw
  clear hD0
  refine lv_aload_n hx hb dX12_canSend_0 rfl (lv_at hl 0 rfl) ?_
  refine lv_iload_n hx hb dX12_canSend_1 rfl (lv_at hl 1 rfl) ?_
  refine k_callVi (As := [.int p1]) (rest := []) ⟨hx, hb, hml, hown, hts⟩ (cM_isClown l D h cy _ _ _ hw) (cwV 1 hts gX12_canSend_X12_isClown rfl rfl rfl (by decide +kernel) ⟨Nat.le_of_ble_eq_true rfl, Nat.le_of_ble_eq_true rfl⟩) (va_recv hK hP (ci := 11) (q0 := 0) rfl rfl) hK hP hD hS hA rfl hl.1 rfl (Nat.le_of_ble_eq_true rfl) dX12_canSend_2 ⟨Nat.zero_le _, Nat.zero_le _⟩ (fun r_1 S_2 H locs hw hP hD hS => ?_)
  obtain ⟨hc_3t, hc_3f⟩ := hw
  refine lv_if_eq (tgt := 30) hx hb dX12_canSend_5 (by decide) (fun c_3 => ?_) (fun c_3 => ?_)
  · have hw := hc_3t c_3
    clear hc_3t hc_3f
    refine lv_iconst (v := 0) hx hb dX12_canSend_30 (by decide) ?_
    exact W.zret (v := 0) hx hb hr (by decide +kernel) (fun t ht hW => ⟨⟨0, S_2, rfl, hw, by rw [ht]; exact hP, va_K.moved hW.alike hK, hD⟩, hS.F ht⟩) hS.2.2 dX12_canSend_31
  · have hw := hc_3f c_3
    clear hc_3t hc_3f
    refine lv_aload_n hx hb dX12_canSend_8 rfl (lv_at hl 0 rfl) ?_
    refine lv_iload_n hx hb dX12_canSend_9 rfl (lv_at hl 2 rfl) ?_
    refine k_callVi (As := [.int p2]) (rest := []) ⟨hx, hb, hml, hown, hts⟩ (cM_isHouse l D h cy _ _ _ hw) (cwV 1 hts gX12_canSend_X12_isHouse rfl rfl rfl (by decide +kernel) ⟨Nat.le_of_ble_eq_true rfl, Nat.le_of_ble_eq_true rfl⟩) (va_recv hK hP (ci := 11) (q0 := 0) rfl rfl) hK hP hD hS hA rfl hl.1 rfl (Nat.le_of_ble_eq_true rfl) dX12_canSend_10 ⟨Nat.zero_le _, Nat.zero_le _⟩ (fun r_4 S_5 H locs hw hP hD hS => ?_)
    obtain ⟨hc_6t, hc_6f⟩ := hw
    refine lv_if_eq (tgt := 30) hx hb dX12_canSend_13 (by decide) (fun c_6 => ?_) (fun c_6 => ?_)
    · have hw := hc_6t c_6
      clear hc_6t hc_6f
      refine lv_iconst (v := 0) hx hb dX12_canSend_30 (by decide) ?_
      exact W.zret (v := 0) hx hb hr (by decide +kernel) (fun t ht hW => ⟨⟨0, S_5, rfl, hw, by rw [ht]; exact hP, va_K.moved hW.alike hK, hD⟩, hS.F ht⟩) hS.2.2 dX12_canSend_31
    · have hw := hc_6f c_6
      clear hc_6t hc_6f
      refine lv_aload_n hx hb dX12_canSend_16 rfl (lv_at hl 0 rfl) ?_
      refine lv_iload_n hx hb dX12_canSend_17 rfl (lv_at hl 1 rfl) ?_
      refine lv_iconst (v := 1) hx hb dX12_canSend_18 (by decide) ?_
      refine k_callVi (As := [.int p1, .int 1]) (rest := []) ⟨hx, hb, hml, hown, hts⟩ (cM_own l D h cy _ _ _ _ hw) (cwV 2 hts gX12_canSend_X12_own rfl rfl rfl (by decide +kernel) ⟨Nat.le_of_ble_eq_true rfl, Nat.le_of_ble_eq_true rfl⟩) (va_recv hK hP (ci := 11) (q0 := 0) rfl rfl) hK hP hD hS hA rfl hl.1 rfl (Nat.le_of_ble_eq_true rfl) dX12_canSend_19 ⟨Nat.zero_le _, Nat.zero_le _⟩ (fun r_7 S_8 H locs hw hP hD hS => ?_)
      refine lv_iload_n hx hb dX12_canSend_22 rfl (lv_at hl 2 rfl) ?_
      obtain ⟨hc_9t, hc_9f⟩ := hw
      refine lv_icmp_eq (tgt := 30) hx hb dX12_canSend_23 (by decide) (fun c_9 => ?_) (fun c_9 => ?_)
      · have hw := hc_9t c_9
        clear hc_9t hc_9f
        refine lv_iconst (v := 0) hx hb dX12_canSend_30 (by decide) ?_
        exact W.zret (v := 0) hx hb hr (by decide +kernel) (fun t ht hW => ⟨⟨0, S_8, rfl, hw, by rw [ht]; exact hP, va_K.moved hW.alike hK, hD⟩, hS.F ht⟩) hS.2.2 dX12_canSend_31
      · have hw := hc_9f c_9
        clear hc_9t hc_9f
        refine lv_iconst (v := 1) hx hb dX12_canSend_26 (by decide) ?_
        refine lv_goto (tgt := 31) hx hb dX12_canSend_27 (by decide) ?_
        exact W.zret (v := 1) hx hb hr (by decide +kernel) (fun t ht hW => ⟨⟨1, S_8, rfl, hw, by rw [ht]; exact hP, va_K.moved hW.alike hK, hD⟩, hS.F ht⟩) hS.2.2 dX12_canSend_31
def wM_send (p1 : Int32) (p2 : Int32) (S : MS) (post : Int32 → MS → Prop) : Prop := wM_canSend p1 p2 S (fun r_1 S_2 => ((r_1 = 0 → post 0 S_2) ∧ (¬ (r_1 = 0) → wM_keep S_2 (fun S_5 => wM_lay p1 1 p2 S_5 (fun S_7 => post 1 S_7)))))
set_option maxHeartbeats 4000000 in
set_option maxRecDepth 100000 in
theorem cM_send (l : Launch) (D : va_G) (h : Nat → Nat) (cy : Nat → ClassId) (p1 : Int32) (p2 : Int32) (S : MS) (post : Int32 → MS → Prop) (hw : wM_send p1 p2 S post) : k_Mi l yX12_send wsX12_send { frames := 3, cells := 0, slots := 0, locals := 65 } D (tyM cy) (wM h cy) [.ref (h 31), .int p1, .int p2] S post := by
  intro sz
  refine Met.ofW (cc := cX12_send) (maxL := 3) (ret := (some .boolean)) (by decide) rfl ?_
  intro p e s m args below meth c s₁ B hml hv
  obtain ⟨rfl, hsz, hP, hK, hD0⟩ := hv
  have hx := B.exec
  have hb := B.bytes
  have hr := B.returns
  have hts := atoms_spec (ws := wsX12_send) B.pre
  have hown : s.vm.findClass RX12 = some m.cls := findClass_of_methodNamed B.named
  have hlocks := B.notSynchronized
  subst hsz
  have hD := hD0.self (sz := s.heap.size)
  generalize hAe : va_A (wM h cy S) s.heap.size = A at hD ⊢
  have hA : ∀ q : Nat, s.heap.size ≤ q → A q := fun q h => by rw [← hAe]; exact Or.inr h
  have hS : va_S A s.heap s.heap [] := va_S.rf
  have hl := lv_entry ([.ref (h 31), .int p1, .int p2]) (n := 3) (Nat.le_of_ble_eq_true rfl)
  rw [lg_entry_eq]
  generalize (lg_sl ([.ref (h 31), .int p1, .int p2]) ++ List.replicate (3 - (lg_sl ([.ref (h 31), .int p1, .int p2])).length) Slot.unset).toArray = ls at hl ⊢
  have hl : lv_has ls 3 [(0, .ref (h 31)), (1, .int p1), (2, .int p2)] := hl
  unfold wM_send at hw
  clear hD0
  refine lv_aload_n hx hb dX12_send_0 rfl (lv_at hl 0 rfl) ?_
  refine lv_iload_n hx hb dX12_send_1 rfl (lv_at hl 1 rfl) ?_
  refine lv_iload_n hx hb dX12_send_2 rfl (lv_at hl 2 rfl) ?_
  refine k_callVi (As := [.int p1, .int p2]) (rest := []) ⟨hx, hb, hml, hown, hts⟩ (cM_canSend l D h cy _ _ _ _ hw) (cwV 2 hts gX12_send_X12_canSend rfl rfl rfl (by decide +kernel) ⟨Nat.le_of_ble_eq_true rfl, Nat.le_of_ble_eq_true rfl⟩) (va_recv hK hP (ci := 11) (q0 := 0) rfl rfl) hK hP hD hS hA rfl hl.1 rfl (Nat.le_of_ble_eq_true rfl) dX12_send_3 ⟨Nat.zero_le _, Nat.zero_le _⟩ (fun r_1 S_2 H locs hw hP hD hS => ?_)
  obtain ⟨hc_3t, hc_3f⟩ := hw
  refine lv_if_ne (tgt := 11) hx hb dX12_send_6 (by decide) (fun c_3 => ?_) (fun c_3 => ?_)
  · have hw := hc_3f c_3
    clear hc_3t hc_3f
    refine lv_aload_n hx hb dX12_send_11 rfl (lv_at hl 0 rfl) ?_
    refine k_callVv (As := []) (rest := []) ⟨hx, hb, hml, hown, hts⟩ (cM_keep l D h cy _ _ hw) (cwV 0 hts gX12_send_X12_keep rfl rfl rfl (by decide +kernel) ⟨Nat.le_of_ble_eq_true rfl, Nat.le_of_ble_eq_true rfl⟩) (va_recv hK hP (ci := 11) (q0 := 0) rfl rfl) hK hP hD hS hA rfl hl.1 rfl (Nat.le_of_ble_eq_true rfl) dX12_send_12 ⟨Nat.zero_le _, Nat.zero_le _⟩ (fun S_5 H locs hw hP hD hS => ?_)
    refine lv_aload_n hx hb dX12_send_15 rfl (lv_at hl 0 rfl) ?_
    refine lv_iload_n hx hb dX12_send_16 rfl (lv_at hl 1 rfl) ?_
    refine lv_iconst (v := 1) hx hb dX12_send_17 (by decide) ?_
    refine lv_iload_n hx hb dX12_send_18 rfl (lv_at hl 2 rfl) ?_
    refine k_callVv (As := [.int p1, .int 1, .int p2]) (rest := []) ⟨hx, hb, hml, hown, hts⟩ (cM_lay l D h cy _ _ _ _ _ hw) (cwV 3 hts gX12_send_X12_lay rfl rfl rfl (by decide +kernel) ⟨Nat.le_of_ble_eq_true rfl, Nat.le_of_ble_eq_true rfl⟩) (va_recv hK hP (ci := 11) (q0 := 0) rfl rfl) hK hP hD hS hA rfl hl.1 rfl (Nat.le_of_ble_eq_true rfl) dX12_send_19 ⟨Nat.zero_le _, Nat.zero_le _⟩ (fun S_7 H locs hw hP hD hS => ?_)
    refine lv_iconst (v := 1) hx hb dX12_send_22 (by decide) ?_
    exact W.zret (v := 1) hx hb hr (by decide +kernel) (fun t ht hW => ⟨⟨1, S_7, rfl, hw, by rw [ht]; exact hP, va_K.moved hW.alike hK, hD⟩, hS.F ht⟩) hS.2.2 dX12_send_23
  · have hw := hc_3t c_3
    clear hc_3t hc_3f
    refine lv_iconst (v := 0) hx hb dX12_send_9 (by decide) ?_
    exact W.zret (v := 0) hx hb hr (by decide +kernel) (fun t ht hW => ⟨⟨0, S_2, rfl, hw, by rw [ht]; exact hP, va_K.moved hW.alike hK, hD⟩, hS.F ht⟩) hS.2.2 dX12_send_10
def wM_isAtHouse (p1 : Int32) (S : MS) (post : Int32 → MS → Prop) : Prop := wM_isClown p1 S (fun r_1 S_2 => ((r_1 = 0 → post 0 S_2) ∧ (¬ (r_1 = 0) → wM_own p1 1 S_2 (fun r_4 S_5 => ((r_4 = (-1) → post 0 S_5) ∧ (¬ (r_4 = (-1)) → post 1 S_5))))))
set_option maxHeartbeats 4000000 in
set_option maxRecDepth 100000 in
theorem cM_isAtHouse (l : Launch) (D : va_G) (h : Nat → Nat) (cy : Nat → ClassId) (p1 : Int32) (S : MS) (post : Int32 → MS → Prop) (hw : wM_isAtHouse p1 S post) : k_Mi l yX12_isAtHouse wsX12_isAtHouse { frames := 2, cells := 0, slots := 0, locals := 43 } D (tyM cy) (wM h cy) [.ref (h 31), .int p1] S post := by
  intro sz
  refine Met.ofW (cc := cX12_isAtHouse) (maxL := 2) (ret := (some .boolean)) (by decide) rfl ?_
  intro p e s m args below meth c s₁ B hml hv
  obtain ⟨rfl, hsz, hP, hK, hD0⟩ := hv
  have hx := B.exec
  have hb := B.bytes
  have hr := B.returns
  have hts := atoms_spec (ws := wsX12_isAtHouse) B.pre
  have hown : s.vm.findClass RX12 = some m.cls := findClass_of_methodNamed B.named
  have hlocks := B.notSynchronized
  subst hsz
  have hD := hD0.self (sz := s.heap.size)
  generalize hAe : va_A (wM h cy S) s.heap.size = A at hD ⊢
  have hA : ∀ q : Nat, s.heap.size ≤ q → A q := fun q h => by rw [← hAe]; exact Or.inr h
  have hS : va_S A s.heap s.heap [] := va_S.rf
  have hl := lv_entry ([.ref (h 31), .int p1]) (n := 2) (Nat.le_of_ble_eq_true rfl)
  rw [lg_entry_eq]
  generalize (lg_sl ([.ref (h 31), .int p1]) ++ List.replicate (2 - (lg_sl ([.ref (h 31), .int p1])).length) Slot.unset).toArray = ls at hl ⊢
  have hl : lv_has ls 2 [(0, .ref (h 31)), (1, .int p1)] := hl
  unfold wM_isAtHouse at hw
  clear hD0
  refine lv_aload_n hx hb dX12_isAtHouse_0 rfl (lv_at hl 0 rfl) ?_
  refine lv_iload_n hx hb dX12_isAtHouse_1 rfl (lv_at hl 1 rfl) ?_
  refine k_callVi (As := [.int p1]) (rest := []) ⟨hx, hb, hml, hown, hts⟩ (cM_isClown l D h cy _ _ _ hw) (cwV 1 hts gX12_isAtHouse_X12_isClown rfl rfl rfl (by decide +kernel) ⟨Nat.le_of_ble_eq_true rfl, Nat.le_of_ble_eq_true rfl⟩) (va_recv hK hP (ci := 11) (q0 := 0) rfl rfl) hK hP hD hS hA rfl hl.1 rfl (Nat.le_of_ble_eq_true rfl) dX12_isAtHouse_2 ⟨Nat.zero_le _, Nat.zero_le _⟩ (fun r_1 S_2 H locs hw hP hD hS => ?_)
  obtain ⟨hc_3t, hc_3f⟩ := hw
  refine lv_if_eq (tgt := 22) hx hb dX12_isAtHouse_5 (by decide) (fun c_3 => ?_) (fun c_3 => ?_)
  · have hw := hc_3t c_3
    clear hc_3t hc_3f
    refine lv_iconst (v := 0) hx hb dX12_isAtHouse_22 (by decide) ?_
    exact W.zret (v := 0) hx hb hr (by decide +kernel) (fun t ht hW => ⟨⟨0, S_2, rfl, hw, by rw [ht]; exact hP, va_K.moved hW.alike hK, hD⟩, hS.F ht⟩) hS.2.2 dX12_isAtHouse_23
  · have hw := hc_3f c_3
    clear hc_3t hc_3f
    refine lv_aload_n hx hb dX12_isAtHouse_8 rfl (lv_at hl 0 rfl) ?_
    refine lv_iload_n hx hb dX12_isAtHouse_9 rfl (lv_at hl 1 rfl) ?_
    refine lv_iconst (v := 1) hx hb dX12_isAtHouse_10 (by decide) ?_
    refine k_callVi (As := [.int p1, .int 1]) (rest := []) ⟨hx, hb, hml, hown, hts⟩ (cM_own l D h cy _ _ _ _ hw) (cwV 2 hts gX12_isAtHouse_X12_own rfl rfl rfl (by decide +kernel) ⟨Nat.le_of_ble_eq_true rfl, Nat.le_of_ble_eq_true rfl⟩) (va_recv hK hP (ci := 11) (q0 := 0) rfl rfl) hK hP hD hS hA rfl hl.1 rfl (Nat.le_of_ble_eq_true rfl) dX12_isAtHouse_11 ⟨Nat.zero_le _, Nat.zero_le _⟩ (fun r_4 S_5 H locs hw hP hD hS => ?_)
    refine lv_iconst (v := (-1)) hx hb dX12_isAtHouse_14 (by decide) ?_
    obtain ⟨hc_6t, hc_6f⟩ := hw
    refine lv_icmp_eq (tgt := 22) hx hb dX12_isAtHouse_15 (by decide) (fun c_6 => ?_) (fun c_6 => ?_)
    · have hw := hc_6t c_6
      clear hc_6t hc_6f
      refine lv_iconst (v := 0) hx hb dX12_isAtHouse_22 (by decide) ?_
      exact W.zret (v := 0) hx hb hr (by decide +kernel) (fun t ht hW => ⟨⟨0, S_5, rfl, hw, by rw [ht]; exact hP, va_K.moved hW.alike hK, hD⟩, hS.F ht⟩) hS.2.2 dX12_isAtHouse_23
    · have hw := hc_6f c_6
      clear hc_6t hc_6f
      refine lv_iconst (v := 1) hx hb dX12_isAtHouse_18 (by decide) ?_
      refine lv_goto (tgt := 23) hx hb dX12_isAtHouse_19 (by decide) ?_
      exact W.zret (v := 1) hx hb hr (by decide +kernel) (fun t ht hW => ⟨⟨1, S_5, rfl, hw, by rw [ht]; exact hP, va_K.moved hW.alike hK, hD⟩, hS.F ht⟩) hS.2.2 dX12_isAtHouse_23
def wM_canFall (p1 : Int32) (S : MS) (post : Int32 → MS → Prop) : Prop := wM_isAtHouse p1 S (fun r_1 S_2 => ((r_1 = 0 → post 0 S_2) ∧ (¬ (r_1 = 0) → wM_own p1 0 S_2 (fun r_4 S_5 => ((9 ≤ r_4 → post 0 S_5) ∧ (¬ (9 ≤ r_4) → post 1 S_5))))))
set_option maxHeartbeats 4000000 in
set_option maxRecDepth 100000 in
theorem cM_canFall (l : Launch) (D : va_G) (h : Nat → Nat) (cy : Nat → ClassId) (p1 : Int32) (S : MS) (post : Int32 → MS → Prop) (hw : wM_canFall p1 S post) : k_Mi l yX12_canFall wsX12_canFall { frames := 3, cells := 0, slots := 0, locals := 64 } D (tyM cy) (wM h cy) [.ref (h 31), .int p1] S post := by
  intro sz
  refine Met.ofW (cc := cX12_canFall) (maxL := 2) (ret := (some .boolean)) (by decide) rfl ?_
  intro p e s m args below meth c s₁ B hml hv
  obtain ⟨rfl, hsz, hP, hK, hD0⟩ := hv
  have hx := B.exec
  have hb := B.bytes
  have hr := B.returns
  have hts := atoms_spec (ws := wsX12_canFall) B.pre
  have hown : s.vm.findClass RX12 = some m.cls := findClass_of_methodNamed B.named
  have hlocks := B.notSynchronized
  subst hsz
  have hD := hD0.self (sz := s.heap.size)
  generalize hAe : va_A (wM h cy S) s.heap.size = A at hD ⊢
  have hA : ∀ q : Nat, s.heap.size ≤ q → A q := fun q h => by rw [← hAe]; exact Or.inr h
  have hS : va_S A s.heap s.heap [] := va_S.rf
  have hl := lv_entry ([.ref (h 31), .int p1]) (n := 2) (Nat.le_of_ble_eq_true rfl)
  rw [lg_entry_eq]
  generalize (lg_sl ([.ref (h 31), .int p1]) ++ List.replicate (2 - (lg_sl ([.ref (h 31), .int p1])).length) Slot.unset).toArray = ls at hl ⊢
  have hl : lv_has ls 2 [(0, .ref (h 31)), (1, .int p1)] := hl
  unfold wM_canFall at hw
  clear hD0
  refine lv_aload_n hx hb dX12_canFall_0 rfl (lv_at hl 0 rfl) ?_
  refine lv_iload_n hx hb dX12_canFall_1 rfl (lv_at hl 1 rfl) ?_
  refine k_callVi (As := [.int p1]) (rest := []) ⟨hx, hb, hml, hown, hts⟩ (cM_isAtHouse l D h cy _ _ _ hw) (cwV 1 hts gX12_canFall_X12_isAtHouse rfl rfl rfl (by decide +kernel) ⟨Nat.le_of_ble_eq_true rfl, Nat.le_of_ble_eq_true rfl⟩) (va_recv hK hP (ci := 11) (q0 := 0) rfl rfl) hK hP hD hS hA rfl hl.1 rfl (Nat.le_of_ble_eq_true rfl) dX12_canFall_2 ⟨Nat.zero_le _, Nat.zero_le _⟩ (fun r_1 S_2 H locs hw hP hD hS => ?_)
  obtain ⟨hc_3t, hc_3f⟩ := hw
  refine lv_if_eq (tgt := 23) hx hb dX12_canFall_5 (by decide) (fun c_3 => ?_) (fun c_3 => ?_)
  · have hw := hc_3t c_3
    clear hc_3t hc_3f
    refine lv_iconst (v := 0) hx hb dX12_canFall_23 (by decide) ?_
    exact W.zret (v := 0) hx hb hr (by decide +kernel) (fun t ht hW => ⟨⟨0, S_2, rfl, hw, by rw [ht]; exact hP, va_K.moved hW.alike hK, hD⟩, hS.F ht⟩) hS.2.2 dX12_canFall_24
  · have hw := hc_3f c_3
    clear hc_3t hc_3f
    refine lv_aload_n hx hb dX12_canFall_8 rfl (lv_at hl 0 rfl) ?_
    refine lv_iload_n hx hb dX12_canFall_9 rfl (lv_at hl 1 rfl) ?_
    refine lv_iconst (v := 0) hx hb dX12_canFall_10 (by decide) ?_
    refine k_callVi (As := [.int p1, .int 0]) (rest := []) ⟨hx, hb, hml, hown, hts⟩ (cM_own l D h cy _ _ _ _ hw) (cwV 2 hts gX12_canFall_X12_own rfl rfl rfl (by decide +kernel) ⟨Nat.le_of_ble_eq_true rfl, Nat.le_of_ble_eq_true rfl⟩) (va_recv hK hP (ci := 11) (q0 := 0) rfl rfl) hK hP hD hS hA rfl hl.1 rfl (Nat.le_of_ble_eq_true rfl) dX12_canFall_11 ⟨Nat.zero_le _, Nat.zero_le _⟩ (fun r_4 S_5 H locs hw hP hD hS => ?_)
    refine lv_bipush (v := 9) hx hb dX12_canFall_14 (by decide) ?_
    obtain ⟨hc_6t, hc_6f⟩ := hw
    refine lv_icmp_ge (tgt := 23) hx hb dX12_canFall_16 (by decide) (fun c_6 => ?_) (fun c_6 => ?_)
    · have hw := hc_6t c_6
      clear hc_6t hc_6f
      refine lv_iconst (v := 0) hx hb dX12_canFall_23 (by decide) ?_
      exact W.zret (v := 0) hx hb hr (by decide +kernel) (fun t ht hW => ⟨⟨0, S_5, rfl, hw, by rw [ht]; exact hP, va_K.moved hW.alike hK, hD⟩, hS.F ht⟩) hS.2.2 dX12_canFall_24
    · have hw := hc_6f c_6
      clear hc_6t hc_6f
      refine lv_iconst (v := 1) hx hb dX12_canFall_19 (by decide) ?_
      refine lv_goto (tgt := 24) hx hb dX12_canFall_20 (by decide) ?_
      exact W.zret (v := 1) hx hb hr (by decide +kernel) (fun t ht hW => ⟨⟨1, S_5, rfl, hw, by rw [ht]; exact hP, va_K.moved hW.alike hK, hD⟩, hS.F ht⟩) hS.2.2 dX12_canFall_24
def wM_fall (p1 : Int32) (p2 : Int32) (S : MS) (post : Int32 → MS → Prop) : Prop := wM_canFall p1 S (fun r_1 S_2 => ((r_1 = 0 → post (-1) S_2) ∧ (¬ (r_1 = 0) → wM_isKind p2 S_2 (fun r_4 S_5 => ((r_4 = 0 → post (-1) S_5) ∧ (¬ (r_4 = 0) → wM_keep S_5 (fun S_8 => wM_fallNow p1 p2 S_8 (fun S_10 => wM_own p1 1 S_10 (fun r_11 S_12 => wM_get r_11 1 S_12 (fun r_13 S_14 => post r_13 S_14))))))))))
set_option maxHeartbeats 4000000 in
set_option maxRecDepth 100000 in
theorem cM_fall (l : Launch) (D : va_G) (h : Nat → Nat) (cy : Nat → ClassId) (p1 : Int32) (p2 : Int32) (S : MS) (post : Int32 → MS → Prop) (hw : wM_fall p1 p2 S post) : k_Mi l yX12_fall wsX12_fall { frames := 7, cells := 0, slots := 0, locals := 168 } D (tyM cy) (wM h cy) [.ref (h 31), .int p1, .int p2] S post := by
  intro sz
  refine Met.ofW (cc := cX12_fall) (maxL := 3) (ret := (some .int)) (by decide) rfl ?_
  intro p e s m args below meth c s₁ B hml hv
  obtain ⟨rfl, hsz, hP, hK, hD0⟩ := hv
  have hx := B.exec
  have hb := B.bytes
  have hr := B.returns
  have hts := atoms_spec (ws := wsX12_fall) B.pre
  have hown : s.vm.findClass RX12 = some m.cls := findClass_of_methodNamed B.named
  have hlocks := B.notSynchronized
  subst hsz
  have hD := hD0.self (sz := s.heap.size)
  generalize hAe : va_A (wM h cy S) s.heap.size = A at hD ⊢
  have hA : ∀ q : Nat, s.heap.size ≤ q → A q := fun q h => by rw [← hAe]; exact Or.inr h
  have hS : va_S A s.heap s.heap [] := va_S.rf
  have hl := lv_entry ([.ref (h 31), .int p1, .int p2]) (n := 3) (Nat.le_of_ble_eq_true rfl)
  rw [lg_entry_eq]
  generalize (lg_sl ([.ref (h 31), .int p1, .int p2]) ++ List.replicate (3 - (lg_sl ([.ref (h 31), .int p1, .int p2])).length) Slot.unset).toArray = ls at hl ⊢
  have hl : lv_has ls 3 [(0, .ref (h 31)), (1, .int p1), (2, .int p2)] := hl
  unfold wM_fall at hw
  clear hD0
  refine lv_aload_n hx hb dX12_fall_0 rfl (lv_at hl 0 rfl) ?_
  refine lv_iload_n hx hb dX12_fall_1 rfl (lv_at hl 1 rfl) ?_
  refine k_callVi (As := [.int p1]) (rest := []) ⟨hx, hb, hml, hown, hts⟩ (cM_canFall l D h cy _ _ _ hw) (cwV 1 hts gX12_fall_X12_canFall rfl rfl rfl (by decide +kernel) ⟨Nat.le_of_ble_eq_true rfl, Nat.le_of_ble_eq_true rfl⟩) (va_recv hK hP (ci := 11) (q0 := 0) rfl rfl) hK hP hD hS hA rfl hl.1 rfl (Nat.le_of_ble_eq_true rfl) dX12_fall_2 ⟨Nat.zero_le _, Nat.zero_le _⟩ (fun r_1 S_2 H locs hw hP hD hS => ?_)
  obtain ⟨hc_3t, hc_3f⟩ := hw
  refine lv_if_eq (tgt := 15) hx hb dX12_fall_5 (by decide) (fun c_3 => ?_) (fun c_3 => ?_)
  · have hw := hc_3t c_3
    clear hc_3t hc_3f
    refine lv_iconst (v := (-1)) hx hb dX12_fall_15 (by decide) ?_
    exact W.iret (v := (-1)) hx hb hr (fun t ht hW => ⟨⟨(-1), S_2, rfl, hw, by rw [ht]; exact hP, va_K.moved hW.alike hK, hD⟩, hS.F ht⟩) hS.2.2 dX12_fall_16
  · have hw := hc_3f c_3
    clear hc_3t hc_3f
    refine lv_iload_n hx hb dX12_fall_8 rfl (lv_at hl 2 rfl) ?_
    refine k_callSi (As := [.int p2]) (rest := []) ⟨hx, hb, hml, hown, hts⟩ (cM_isKind l D h cy _ _ _ hw) (va_cwS 1 hts gX12_fall_X12_isKind rfl rfl rfl (by decide +kernel) ⟨Nat.le_of_ble_eq_true rfl, Nat.le_of_ble_eq_true rfl⟩) hK hP hD hS hA rfl hl.1 rfl (Nat.le_of_ble_eq_true rfl) dX12_fall_9 ⟨Nat.zero_le _, Nat.zero_le _⟩ (fun r_4 S_5 H locs hw hP hD hS => ?_)
    obtain ⟨hc_6t, hc_6f⟩ := hw
    refine lv_if_ne (tgt := 17) hx hb dX12_fall_12 (by decide) (fun c_6 => ?_) (fun c_6 => ?_)
    · have hw := hc_6f c_6
      clear hc_6t hc_6f
      refine lv_aload_n hx hb dX12_fall_17 rfl (lv_at hl 0 rfl) ?_
      refine k_callVv (As := []) (rest := []) ⟨hx, hb, hml, hown, hts⟩ (cM_keep l D h cy _ _ hw) (cwV 0 hts gX12_fall_X12_keep rfl rfl rfl (by decide +kernel) ⟨Nat.le_of_ble_eq_true rfl, Nat.le_of_ble_eq_true rfl⟩) (va_recv hK hP (ci := 11) (q0 := 0) rfl rfl) hK hP hD hS hA rfl hl.1 rfl (Nat.le_of_ble_eq_true rfl) dX12_fall_18 ⟨Nat.zero_le _, Nat.zero_le _⟩ (fun S_8 H locs hw hP hD hS => ?_)
      refine lv_aload_n hx hb dX12_fall_21 rfl (lv_at hl 0 rfl) ?_
      refine lv_iload_n hx hb dX12_fall_22 rfl (lv_at hl 1 rfl) ?_
      refine lv_iload_n hx hb dX12_fall_23 rfl (lv_at hl 2 rfl) ?_
      refine k_callVv (As := [.int p1, .int p2]) (rest := []) ⟨hx, hb, hml, hown, hts⟩ (cM_fallNow l D h cy _ _ _ _ hw) (cwV 2 hts gX12_fall_X12_fallNow rfl rfl rfl (by decide +kernel) ⟨Nat.le_of_ble_eq_true rfl, Nat.le_of_ble_eq_true rfl⟩) (va_recv hK hP (ci := 11) (q0 := 0) rfl rfl) hK hP hD hS hA rfl hl.1 rfl (Nat.le_of_ble_eq_true rfl) dX12_fall_24 ⟨Nat.zero_le _, Nat.zero_le _⟩ (fun S_10 H locs hw hP hD hS => ?_)
      refine lv_aload_n hx hb dX12_fall_27 rfl (lv_at hl 0 rfl) ?_
      refine lv_aload_n hx hb dX12_fall_28 rfl (lv_at hl 0 rfl) ?_
      refine lv_iload_n hx hb dX12_fall_29 rfl (lv_at hl 1 rfl) ?_
      refine lv_iconst (v := 1) hx hb dX12_fall_30 (by decide) ?_
      refine k_callVi (As := [.int p1, .int 1]) (rest := [.ref (h 31)]) ⟨hx, hb, hml, hown, hts⟩ (cM_own l D h cy _ _ _ _ hw) (cwV 2 hts gX12_fall_X12_own rfl rfl rfl (by decide +kernel) ⟨Nat.le_of_ble_eq_true rfl, Nat.le_of_ble_eq_true rfl⟩) (va_recv hK hP (ci := 11) (q0 := 0) rfl rfl) hK hP hD hS hA rfl hl.1 rfl (Nat.le_of_ble_eq_true rfl) dX12_fall_31 ⟨Nat.zero_le _, Nat.zero_le _⟩ (fun r_11 S_12 H locs hw hP hD hS => ?_)
      refine lv_iconst (v := 1) hx hb dX12_fall_34 (by decide) ?_
      refine k_callVi (As := [.int r_11, .int 1]) (rest := []) ⟨hx, hb, hml, hown, hts⟩ (cM_get l D h cy _ _ _ _ hw) (cwV 2 hts gX12_fall_X12_get rfl rfl rfl (by decide +kernel) ⟨Nat.le_of_ble_eq_true rfl, Nat.le_of_ble_eq_true rfl⟩) (va_recv hK hP (ci := 11) (q0 := 0) rfl rfl) hK hP hD hS hA rfl hl.1 rfl (Nat.le_of_ble_eq_true rfl) dX12_fall_35 ⟨Nat.zero_le _, Nat.zero_le _⟩ (fun r_13 S_14 H locs hw hP hD hS => ?_)
      exact W.iret (v := r_13) hx hb hr (fun t ht hW => ⟨⟨r_13, S_14, rfl, hw, by rw [ht]; exact hP, va_K.moved hW.alike hK, hD⟩, hS.F ht⟩) hS.2.2 dX12_fall_38
    · have hw := hc_6t c_6
      clear hc_6t hc_6f
      refine lv_iconst (v := (-1)) hx hb dX12_fall_15 (by decide) ?_
      exact W.iret (v := (-1)) hx hb hr (fun t ht hW => ⟨⟨(-1), S_5, rfl, hw, by rw [ht]; exact hP, va_K.moved hW.alike hK, hD⟩, hS.F ht⟩) hS.2.2 dX12_fall_16
def wM_rest (p1 : Int32) (S : MS) (post : Int32 → MS → Prop) : Prop := wM_isAtHouse p1 S (fun r_1 S_2 => ((r_1 = 0 → post 0 S_2) ∧ (¬ (r_1 = 0) → wM_keep S_2 (fun S_5 => wM_lay p1 1 (-1) S_5 (fun S_7 => post 1 S_7)))))
set_option maxHeartbeats 4000000 in
set_option maxRecDepth 100000 in
theorem cM_rest (l : Launch) (D : va_G) (h : Nat → Nat) (cy : Nat → ClassId) (p1 : Int32) (S : MS) (post : Int32 → MS → Prop) (hw : wM_rest p1 S post) : k_Mi l yX12_rest wsX12_rest { frames := 3, cells := 0, slots := 0, locals := 64 } D (tyM cy) (wM h cy) [.ref (h 31), .int p1] S post := by
  intro sz
  refine Met.ofW (cc := cX12_rest) (maxL := 2) (ret := (some .boolean)) (by decide) rfl ?_
  intro p e s m args below meth c s₁ B hml hv
  obtain ⟨rfl, hsz, hP, hK, hD0⟩ := hv
  have hx := B.exec
  have hb := B.bytes
  have hr := B.returns
  have hts := atoms_spec (ws := wsX12_rest) B.pre
  have hown : s.vm.findClass RX12 = some m.cls := findClass_of_methodNamed B.named
  have hlocks := B.notSynchronized
  subst hsz
  have hD := hD0.self (sz := s.heap.size)
  generalize hAe : va_A (wM h cy S) s.heap.size = A at hD ⊢
  have hA : ∀ q : Nat, s.heap.size ≤ q → A q := fun q h => by rw [← hAe]; exact Or.inr h
  have hS : va_S A s.heap s.heap [] := va_S.rf
  have hl := lv_entry ([.ref (h 31), .int p1]) (n := 2) (Nat.le_of_ble_eq_true rfl)
  rw [lg_entry_eq]
  generalize (lg_sl ([.ref (h 31), .int p1]) ++ List.replicate (2 - (lg_sl ([.ref (h 31), .int p1])).length) Slot.unset).toArray = ls at hl ⊢
  have hl : lv_has ls 2 [(0, .ref (h 31)), (1, .int p1)] := hl
  unfold wM_rest at hw
  clear hD0
  refine lv_aload_n hx hb dX12_rest_0 rfl (lv_at hl 0 rfl) ?_
  refine lv_iload_n hx hb dX12_rest_1 rfl (lv_at hl 1 rfl) ?_
  refine k_callVi (As := [.int p1]) (rest := []) ⟨hx, hb, hml, hown, hts⟩ (cM_isAtHouse l D h cy _ _ _ hw) (cwV 1 hts gX12_rest_X12_isAtHouse rfl rfl rfl (by decide +kernel) ⟨Nat.le_of_ble_eq_true rfl, Nat.le_of_ble_eq_true rfl⟩) (va_recv hK hP (ci := 11) (q0 := 0) rfl rfl) hK hP hD hS hA rfl hl.1 rfl (Nat.le_of_ble_eq_true rfl) dX12_rest_2 ⟨Nat.zero_le _, Nat.zero_le _⟩ (fun r_1 S_2 H locs hw hP hD hS => ?_)
  obtain ⟨hc_3t, hc_3f⟩ := hw
  refine lv_if_ne (tgt := 10) hx hb dX12_rest_5 (by decide) (fun c_3 => ?_) (fun c_3 => ?_)
  · have hw := hc_3f c_3
    clear hc_3t hc_3f
    refine lv_aload_n hx hb dX12_rest_10 rfl (lv_at hl 0 rfl) ?_
    refine k_callVv (As := []) (rest := []) ⟨hx, hb, hml, hown, hts⟩ (cM_keep l D h cy _ _ hw) (cwV 0 hts gX12_rest_X12_keep rfl rfl rfl (by decide +kernel) ⟨Nat.le_of_ble_eq_true rfl, Nat.le_of_ble_eq_true rfl⟩) (va_recv hK hP (ci := 11) (q0 := 0) rfl rfl) hK hP hD hS hA rfl hl.1 rfl (Nat.le_of_ble_eq_true rfl) dX12_rest_11 ⟨Nat.zero_le _, Nat.zero_le _⟩ (fun S_5 H locs hw hP hD hS => ?_)
    refine lv_aload_n hx hb dX12_rest_14 rfl (lv_at hl 0 rfl) ?_
    refine lv_iload_n hx hb dX12_rest_15 rfl (lv_at hl 1 rfl) ?_
    refine lv_iconst (v := 1) hx hb dX12_rest_16 (by decide) ?_
    refine lv_iconst (v := (-1)) hx hb dX12_rest_17 (by decide) ?_
    refine k_callVv (As := [.int p1, .int 1, .int (-1)]) (rest := []) ⟨hx, hb, hml, hown, hts⟩ (cM_lay l D h cy _ _ _ _ _ hw) (cwV 3 hts gX12_rest_X12_lay rfl rfl rfl (by decide +kernel) ⟨Nat.le_of_ble_eq_true rfl, Nat.le_of_ble_eq_true rfl⟩) (va_recv hK hP (ci := 11) (q0 := 0) rfl rfl) hK hP hD hS hA rfl hl.1 rfl (Nat.le_of_ble_eq_true rfl) dX12_rest_18 ⟨Nat.zero_le _, Nat.zero_le _⟩ (fun S_7 H locs hw hP hD hS => ?_)
    refine lv_iconst (v := 1) hx hb dX12_rest_21 (by decide) ?_
    exact W.zret (v := 1) hx hb hr (by decide +kernel) (fun t ht hW => ⟨⟨1, S_7, rfl, hw, by rw [ht]; exact hP, va_K.moved hW.alike hK, hD⟩, hS.F ht⟩) hS.2.2 dX12_rest_22
  · have hw := hc_3t c_3
    clear hc_3t hc_3f
    refine lv_iconst (v := 0) hx hb dX12_rest_8 (by decide) ?_
    exact W.zret (v := 0) hx hb hr (by decide +kernel) (fun t ht hW => ⟨⟨0, S_2, rfl, hw, by rw [ht]; exact hP, va_K.moved hW.alike hK, hD⟩, hS.F ht⟩) hS.2.2 dX12_rest_9
def wM_arePassed_2 (post : Int32 → MS → Prop) : Nat → Int32 → Int32 → MS → Prop
  | 0, _, _, _ => False
  | n + 1, x1, x2, S => ((x1 ≤ x2 → post 1 S) ∧ (¬ (x1 ≤ x2) → ((((ms_a S) 7) = 9999 → post 0 S) ∧ (¬ (((ms_a S) 7) = 9999) → wM_keep S (fun S_4 => wM_pass S_4 (fun S_6 => wM_arePassed_2 post n x1 (x2 + 1) S_6))))))
def wM_arePassed (p1 : Int32) (S : MS) (post : Int32 → MS → Prop) : Prop := ∃ k_ : Nat, wM_arePassed_2 post k_ p1 0 S
set_option maxHeartbeats 4000000 in
set_option maxRecDepth 100000 in
theorem cM_arePassed (l : Launch) (D : va_G) (h : Nat → Nat) (cy : Nat → ClassId) (p1 : Int32) (S : MS) (post : Int32 → MS → Prop) (hw : wM_arePassed p1 S post) : k_Mi l yX12_arePassed wsX12_arePassed { frames := 6, cells := 0, slots := 0, locals := 142 } D (tyM cy) (wM h cy) [.ref (h 31), .int p1] S post := by
  intro sz
  refine Met.ofW (cc := cX12_arePassed) (maxL := 3) (ret := (some .boolean)) (by decide) rfl ?_
  intro p e s m args below meth c s₁ B hml hv
  obtain ⟨rfl, hsz, hP, hK, hD0⟩ := hv
  have hx := B.exec
  have hb := B.bytes
  have hr := B.returns
  have hts := atoms_spec (ws := wsX12_arePassed) B.pre
  have hown : s.vm.findClass RX12 = some m.cls := findClass_of_methodNamed B.named
  have hlocks := B.notSynchronized
  subst hsz
  have hD := hD0.self (sz := s.heap.size)
  generalize hAe : va_A (wM h cy S) s.heap.size = A at hD ⊢
  have hA : ∀ q : Nat, s.heap.size ≤ q → A q := fun q h => by rw [← hAe]; exact Or.inr h
  have hS : va_S A s.heap s.heap [] := va_S.rf
  have hin : ∀ w ∈ wsX120, w ∈ wsX12_arePassed := fun _ h => List.mem_cons_of_mem _ (List.mem_append_right _ h)
  have w7 := hts (.fieldLink RX12 7 "ClownsMournModel" "a" "[I") (List.mem_of_getElem? (i := 1) rfl)
  have hl := lv_entry ([.ref (h 31), .int p1]) (n := 3) (Nat.le_of_ble_eq_true rfl)
  rw [lg_entry_eq]
  generalize (lg_sl ([.ref (h 31), .int p1]) ++ List.replicate (3 - (lg_sl ([.ref (h 31), .int p1])).length) Slot.unset).toArray = ls at hl ⊢
  have hl : lv_has ls 3 [(0, .ref (h 31)), (1, .int p1)] := hl
  unfold wM_arePassed at hw
  clear hD0
  have L_2 : ∀ (n2 : Nat) (x1 : Int32) (x2 : Int32) (S : MS) (H : Heap) (locs : List Loc) (ls : Array Slot), wM_arePassed_2 post n2 x1 x2 S → va_P D vwCl (wM h cy S) H → va_D A (wM h cy S) → va_S A s.heap H locs → lv_has ls 3 [(0, .ref (h 31)), (1, .int x1), (2, .int x2)] → W p l e (headSpec wsX12_arePassed { frames := 6, cells := 0, slots := 0, locals := 142 }).room s m (([.ref (h 31), .int p1] : List Value).toArray) below meth c H locs 0 0 (MQ below (va_Qi post (k_Post D (tyM cy) (wM h cy) A) A) (([.ref (h 31), .int p1] : List Value).toArray) s 0 0 A) (F0 m 2 ls []) := by
    intro n2
    induction n2 with
    | zero => intro x1 x2 S H locs ls hw; exact False.elim hw
    | succ n2 ih_2 =>
      intro x1 x2 S H locs ls hw hP hD hS hl
      unfold wM_arePassed_2 at hw
      refine lv_iload_n hx hb dX12_arePassed_2 rfl (lv_at hl 2 rfl) ?_
      refine lv_iload_n hx hb dX12_arePassed_3 rfl (lv_at hl 1 rfl) ?_
      obtain ⟨hc_1t, hc_1f⟩ := hw
      refine lv_icmp_ge (tgt := 36) hx hb dX12_arePassed_4 (by decide) (fun c_1 => ?_) (fun c_1 => ?_)
      · have hw := hc_1t c_1
        clear hc_1t hc_1f
        refine lv_iconst (v := 1) hx hb dX12_arePassed_36 (by decide) ?_
        exact W.zret (v := 1) hx hb hr (by decide +kernel) (fun t ht hW => ⟨⟨1, S, rfl, hw, by rw [ht]; exact hP, va_K.moved hW.alike hK, hD⟩, hS.F ht⟩) hS.2.2 dX12_arePassed_37
      · have hw := hc_1f c_1
        clear hc_1t hc_1f
        refine lv_aload_n hx hb dX12_arePassed_7 rfl (lv_at hl 0 rfl) ?_
        refine va_get (D := D) (ci := 11) (v := .ref (h 0)) (C := RX12) (T := TX12) (N := 31) hx hb hts hin hown hK hP 0 rfl rfl 0 (by decide) w7 (fun _ h9 => h9) rfl dX12_arePassed_8 ?_
        refine lv_bipush (v := 7) hx hb dX12_arePassed_11 (by decide) ?_
        refine k_iald (f := (ms_a S)) (j := 7) hx hb hK hP 1 0 rfl rfl (by decide +kernel) rfl dX12_arePassed_13 ?_
        refine lv_sipush (v := 9999) hx hb dX12_arePassed_14 (by decide) ?_
        obtain ⟨hc_2t, hc_2f⟩ := hw
        refine lv_icmp_ne (tgt := 22) hx hb dX12_arePassed_17 (by decide) (fun c_2 => ?_) (fun c_2 => ?_)
        · have hw := hc_2f c_2
          clear hc_2t hc_2f
          refine lv_aload_n hx hb dX12_arePassed_22 rfl (lv_at hl 0 rfl) ?_
          refine k_callVv (As := []) (rest := []) ⟨hx, hb, hml, hown, hts⟩ (cM_keep l D h cy _ _ hw) (cwV 0 hts gX12_arePassed_X12_keep rfl rfl rfl (by decide +kernel) ⟨Nat.le_of_ble_eq_true rfl, Nat.le_of_ble_eq_true rfl⟩) (va_recv hK hP (ci := 11) (q0 := 0) rfl rfl) hK hP hD hS hA rfl hl.1 rfl (Nat.le_of_ble_eq_true rfl) dX12_arePassed_23 ⟨Nat.zero_le _, Nat.zero_le _⟩ (fun S_4 H locs hw hP hD hS => ?_)
          refine lv_aload_n hx hb dX12_arePassed_26 rfl (lv_at hl 0 rfl) ?_
          refine k_callVv (As := []) (rest := []) ⟨hx, hb, hml, hown, hts⟩ (cM_pass l D h cy _ _ hw) (cwV 0 hts gX12_arePassed_X12_pass rfl rfl rfl (by decide +kernel) ⟨Nat.le_of_ble_eq_true rfl, Nat.le_of_ble_eq_true rfl⟩) (va_recv hK hP (ci := 11) (q0 := 0) rfl rfl) hK hP hD hS hA rfl hl.1 rfl (Nat.le_of_ble_eq_true rfl) dX12_arePassed_27 ⟨Nat.zero_le _, Nat.zero_le _⟩ (fun S_6 H locs hw hP hD hS => ?_)
          refine lv_iinc (v := x2 + 1) (lv' := [(2, .int (x2 + 1)), (0, .ref (h 31)), (1, .int x1)]) hx hb dX12_arePassed_30 hl (k := 2) rfl (k_inc (by decide)) (by decide) rfl (fun ls hl => ?_)
          refine lv_goto (tgt := 2) hx hb dX12_arePassed_33 (by decide) ?_
          exact ih_2 x1 (x2 + 1) S_6 _ _ _ hw hP hD hS (lv_sub hl [1, 2, 0] rfl)
        · have hw := hc_2t c_2
          clear hc_2t hc_2f
          refine lv_iconst (v := 0) hx hb dX12_arePassed_20 (by decide) ?_
          exact W.zret (v := 0) hx hb hr (by decide +kernel) (fun t ht hW => ⟨⟨0, S, rfl, hw, by rw [ht]; exact hP, va_K.moved hW.alike hK, hD⟩, hS.F ht⟩) hS.2.2 dX12_arePassed_21
  refine lv_iconst (v := 0) hx hb dX12_arePassed_0 (by decide) ?_
  refine lv_istore_n (lv' := [(2, .int 0), (0, .ref (h 31)), (1, .int p1)]) hx hb dX12_arePassed_1 rfl hl (by decide) rfl (fun ls hl => ?_)
  obtain ⟨n_2, hw⟩ := hw
  exact L_2 n_2 p1 0 S _ _ _ hw hP hD hS (lv_sub hl [1, 2, 0] rfl)
def wM_day (p1 : Int32) (S : MS) (post : Int32 → MS → Prop) : Prop := wM_isIn p1 1 60 S (fun r_1 S_2 => ((r_1 = 0 → post (-1) S_2) ∧ (¬ (r_1 = 0) → ((9999 < (((ms_a S_2) 7) + p1) → post (-1) S_2) ∧ (¬ (9999 < (((ms_a S_2) 7) + p1)) → wM_arePassed p1 S_2 (fun r_5 S_6 => ((r_5 = 0 → post (-1) S_6) ∧ (¬ (r_5 = 0) → post ((ms_a S_6) 7) S_6))))))))
set_option maxHeartbeats 4000000 in
set_option maxRecDepth 100000 in
theorem cM_day (l : Launch) (D : va_G) (h : Nat → Nat) (cy : Nat → ClassId) (p1 : Int32) (S : MS) (post : Int32 → MS → Prop) (hw : wM_day p1 S post) : k_Mi l yX12_day wsX12_day { frames := 7, cells := 0, slots := 0, locals := 164 } D (tyM cy) (wM h cy) [.ref (h 31), .int p1] S post := by
  intro sz
  refine Met.ofW (cc := cX12_day) (maxL := 2) (ret := (some .int)) (by decide) rfl ?_
  intro p e s m args below meth c s₁ B hml hv
  obtain ⟨rfl, hsz, hP, hK, hD0⟩ := hv
  have hx := B.exec
  have hb := B.bytes
  have hr := B.returns
  have hts := atoms_spec (ws := wsX12_day) B.pre
  have hown : s.vm.findClass RX12 = some m.cls := findClass_of_methodNamed B.named
  have hlocks := B.notSynchronized
  subst hsz
  have hD := hD0.self (sz := s.heap.size)
  generalize hAe : va_A (wM h cy S) s.heap.size = A at hD ⊢
  have hA : ∀ q : Nat, s.heap.size ≤ q → A q := fun q h => by rw [← hAe]; exact Or.inr h
  have hS : va_S A s.heap s.heap [] := va_S.rf
  have hin : ∀ w ∈ wsX120, w ∈ wsX12_day := fun _ h => List.mem_cons_of_mem _ (List.mem_append_right _ h)
  have w7 := hts (.fieldLink RX12 7 "ClownsMournModel" "a" "[I") (List.mem_of_getElem? (i := 1) rfl)
  have hl := lv_entry ([.ref (h 31), .int p1]) (n := 2) (Nat.le_of_ble_eq_true rfl)
  rw [lg_entry_eq]
  generalize (lg_sl ([.ref (h 31), .int p1]) ++ List.replicate (2 - (lg_sl ([.ref (h 31), .int p1])).length) Slot.unset).toArray = ls at hl ⊢
  have hl : lv_has ls 2 [(0, .ref (h 31)), (1, .int p1)] := hl
  unfold wM_day at hw
  clear hD0
  refine lv_iload_n hx hb dX12_day_0 rfl (lv_at hl 1 rfl) ?_
  refine lv_iconst (v := 1) hx hb dX12_day_1 (by decide) ?_
  refine lv_bipush (v := 60) hx hb dX12_day_2 (by decide) ?_
  refine k_callSi (As := [.int p1, .int 1, .int 60]) (rest := []) ⟨hx, hb, hml, hown, hts⟩ (cM_isIn l D h cy _ _ _ _ _ hw) (va_cwS 3 hts gX12_day_X12_isIn rfl rfl rfl (by decide +kernel) ⟨Nat.le_of_ble_eq_true rfl, Nat.le_of_ble_eq_true rfl⟩) hK hP hD hS hA rfl hl.1 rfl (Nat.le_of_ble_eq_true rfl) dX12_day_4 ⟨Nat.zero_le _, Nat.zero_le _⟩ (fun r_1 S_2 H locs hw hP hD hS => ?_)
  obtain ⟨hc_3t, hc_3f⟩ := hw
  refine lv_if_eq (tgt := 43) hx hb dX12_day_7 (by decide) (fun c_3 => ?_) (fun c_3 => ?_)
  · have hw := hc_3t c_3
    clear hc_3t hc_3f
    refine lv_iconst (v := (-1)) hx hb dX12_day_43 (by decide) ?_
    exact W.iret (v := (-1)) hx hb hr (fun t ht hW => ⟨⟨(-1), S_2, rfl, hw, by rw [ht]; exact hP, va_K.moved hW.alike hK, hD⟩, hS.F ht⟩) hS.2.2 dX12_day_44
  · have hw := hc_3f c_3
    clear hc_3t hc_3f
    refine lv_aload_n hx hb dX12_day_10 rfl (lv_at hl 0 rfl) ?_
    refine va_get (D := D) (ci := 11) (v := .ref (h 0)) (C := RX12) (T := TX12) (N := 31) hx hb hts hin hown hK hP 0 rfl rfl 0 (by decide) w7 (fun _ h9 => h9) rfl dX12_day_11 ?_
    refine lv_bipush (v := 7) hx hb dX12_day_14 (by decide) ?_
    refine k_iald (f := (ms_a S_2)) (j := 7) hx hb hK hP 1 0 rfl rfl (by decide +kernel) rfl dX12_day_16 ?_
    refine lv_iload_n hx hb dX12_day_17 rfl (lv_at hl 1 rfl) ?_
    refine lv_iadd hx hb dX12_day_18 ?_
    refine lv_sipush (v := 9999) hx hb dX12_day_19 (by decide) ?_
    obtain ⟨hc_4t, hc_4f⟩ := hw
    refine lv_icmp_gt (tgt := 43) hx hb dX12_day_22 (by decide) (fun c_4 => ?_) (fun c_4 => ?_)
    · have hw := hc_4t c_4
      clear hc_4t hc_4f
      refine lv_iconst (v := (-1)) hx hb dX12_day_43 (by decide) ?_
      exact W.iret (v := (-1)) hx hb hr (fun t ht hW => ⟨⟨(-1), S_2, rfl, hw, by rw [ht]; exact hP, va_K.moved hW.alike hK, hD⟩, hS.F ht⟩) hS.2.2 dX12_day_44
    · have hw := hc_4f c_4
      clear hc_4t hc_4f
      refine lv_aload_n hx hb dX12_day_25 rfl (lv_at hl 0 rfl) ?_
      refine lv_iload_n hx hb dX12_day_26 rfl (lv_at hl 1 rfl) ?_
      refine k_callVi (As := [.int p1]) (rest := []) ⟨hx, hb, hml, hown, hts⟩ (cM_arePassed l D h cy _ _ _ hw) (cwV 1 hts gX12_day_X12_arePassed rfl rfl rfl (by decide +kernel) ⟨Nat.le_of_ble_eq_true rfl, Nat.le_of_ble_eq_true rfl⟩) (va_recv hK hP (ci := 11) (q0 := 0) rfl rfl) hK hP hD hS hA rfl hl.1 rfl (Nat.le_of_ble_eq_true rfl) dX12_day_27 ⟨Nat.zero_le _, Nat.zero_le _⟩ (fun r_5 S_6 H locs hw hP hD hS => ?_)
      obtain ⟨hc_7t, hc_7f⟩ := hw
      refine lv_if_eq (tgt := 43) hx hb dX12_day_30 (by decide) (fun c_7 => ?_) (fun c_7 => ?_)
      · have hw := hc_7t c_7
        clear hc_7t hc_7f
        refine lv_iconst (v := (-1)) hx hb dX12_day_43 (by decide) ?_
        exact W.iret (v := (-1)) hx hb hr (fun t ht hW => ⟨⟨(-1), S_6, rfl, hw, by rw [ht]; exact hP, va_K.moved hW.alike hK, hD⟩, hS.F ht⟩) hS.2.2 dX12_day_44
      · have hw := hc_7f c_7
        clear hc_7t hc_7f
        refine lv_aload_n hx hb dX12_day_33 rfl (lv_at hl 0 rfl) ?_
        refine va_get (D := D) (ci := 11) (v := .ref (h 0)) (C := RX12) (T := TX12) (N := 31) hx hb hts hin hown hK hP 0 rfl rfl 0 (by decide) w7 (fun _ h9 => h9) rfl dX12_day_34 ?_
        refine lv_bipush (v := 7) hx hb dX12_day_37 (by decide) ?_
        refine k_iald (f := (ms_a S_6)) (j := 7) hx hb hK hP 1 0 rfl rfl (by decide +kernel) rfl dX12_day_39 ?_
        refine lv_goto (tgt := 44) hx hb dX12_day_40 (by decide) ?_
        exact W.iret (v := (ms_a S_6) 7) hx hb hr (fun t ht hW => ⟨⟨(ms_a S_6) 7, S_6, rfl, hw, by rw [ht]; exact hP, va_K.moved hW.alike hK, hD⟩, hS.F ht⟩) hS.2.2 dX12_day_44
def wM_isPlayed (p1 : Int32) (S : MS) (post : Int32 → MS → Prop) : Prop := (vp_in (p1 + 1) 2820 ∧ (vp_in (p1 + 2) 2820 ∧ (vp_in p1 2820 ∧ ((((ms_texts S) p1.toNatClampNeg) = 3 → wM_house ((ms_texts S) (p1 + 1).toNatClampNeg) ((ms_texts S) (p1 + 2).toNatClampNeg) S (fun r_1 S_2 => ((r_1 < 0 → post 0 S_2) ∧ (¬ (r_1 < 0) → post 1 S_2)))) ∧ (((ms_texts S) p1.toNatClampNeg) = 4 → wM_clown ((ms_texts S) (p1 + 1).toNatClampNeg) ((ms_texts S) (p1 + 2).toNatClampNeg) S (fun r_5 S_6 => ((r_5 < 0 → post 0 S_6) ∧ (¬ (r_5 < 0) → post 1 S_6)))) ∧ (((ms_texts S) p1.toNatClampNeg) = 5 → (vp_in (p1 + 3) 2820 ∧ wM_mood ((ms_texts S) (p1 + 2).toNatClampNeg) ((ms_texts S) (p1 + 1).toNatClampNeg) ((ms_texts S) (p1 + 3).toNatClampNeg) S (fun r_9 S_10 => (narrow .boolean (.int r_9) = .int r_9 ∧ post r_9 S_10)))) ∧ (((ms_texts S) p1.toNatClampNeg) = 6 → wM_send ((ms_texts S) (p1 + 1).toNatClampNeg) ((ms_texts S) (p1 + 2).toNatClampNeg) S (fun r_13 S_14 => (narrow .boolean (.int r_13) = .int r_13 ∧ post r_13 S_14))) ∧ (((ms_texts S) p1.toNatClampNeg) = 7 → wM_fall ((ms_texts S) (p1 + 2).toNatClampNeg) ((ms_texts S) (p1 + 1).toNatClampNeg) S (fun r_16 S_17 => ((r_16 < 0 → post 0 S_17) ∧ (¬ (r_16 < 0) → post 1 S_17)))) ∧ (((ms_texts S) p1.toNatClampNeg) = 8 → wM_rest ((ms_texts S) (p1 + 1).toNatClampNeg) S (fun r_20 S_21 => (narrow .boolean (.int r_20) = .int r_20 ∧ post r_20 S_21))) ∧ (((ms_texts S) p1.toNatClampNeg) = 9 → wM_arePassed ((ms_texts S) (p1 + 1).toNatClampNeg) S (fun r_23 S_24 => (narrow .boolean (.int r_23) = .int r_23 ∧ post r_23 S_24))) ∧ (¬ ((ms_texts S) p1.toNatClampNeg) = 3 → ¬ ((ms_texts S) p1.toNatClampNeg) = 4 → ¬ ((ms_texts S) p1.toNatClampNeg) = 5 → ¬ ((ms_texts S) p1.toNatClampNeg) = 6 → ¬ ((ms_texts S) p1.toNatClampNeg) = 7 → ¬ ((ms_texts S) p1.toNatClampNeg) = 8 → ¬ ((ms_texts S) p1.toNatClampNeg) = 9 → post 1 S)))))
set_option maxHeartbeats 4000000 in
set_option maxRecDepth 100000 in
theorem cM_isPlayed (l : Launch) (D : va_G) (h : Nat → Nat) (cy : Nat → ClassId) (p1 : Int32) (S : MS) (post : Int32 → MS → Prop) (hw : wM_isPlayed p1 S post) : k_Mi l yX12_isPlayed wsX12_isPlayed { frames := 8, cells := 0, slots := 0, locals := 190 } D (tyM cy) (wM h cy) [.ref (h 31), .int p1] S post := by
  intro sz
  refine Met.ofW (cc := cX12_isPlayed) (maxL := 4) (ret := (some .boolean)) (by decide) rfl ?_
  intro p e s m args below meth c s₁ B hml hv
  obtain ⟨rfl, hsz, hP, hK, hD0⟩ := hv
  have hx := B.exec
  have hb := B.bytes
  have hr := B.returns
  have hts := atoms_spec (ws := wsX12_isPlayed) B.pre
  have hown : s.vm.findClass RX12 = some m.cls := findClass_of_methodNamed B.named
  have hlocks := B.notSynchronized
  subst hsz
  have hD := hD0.self (sz := s.heap.size)
  generalize hAe : va_A (wM h cy S) s.heap.size = A at hD ⊢
  have hA : ∀ q : Nat, s.heap.size ≤ q → A q := fun q h => by rw [← hAe]; exact Or.inr h
  have hS : va_S A s.heap s.heap [] := va_S.rf
  have hin : ∀ w ∈ wsX120, w ∈ wsX12_isPlayed := fun _ h => List.mem_cons_of_mem _ (List.mem_append_right _ h)
  have w16 := hts (.fieldLink RX12 16 "ClownsMournModel" "texts" "[I") (List.mem_of_getElem? (i := 1) rfl)
  have hl := lv_entry ([.ref (h 31), .int p1]) (n := 4) (Nat.le_of_ble_eq_true rfl)
  rw [lg_entry_eq]
  generalize (lg_sl ([.ref (h 31), .int p1]) ++ List.replicate (4 - (lg_sl ([.ref (h 31), .int p1])).length) Slot.unset).toArray = ls at hl ⊢
  have hl : lv_has ls 4 [(0, .ref (h 31)), (1, .int p1)] := hl
  unfold wM_isPlayed at hw
  clear hD0
  refine lv_aload_n hx hb dX12_isPlayed_0 rfl (lv_at hl 0 rfl) ?_
  refine va_get (D := D) (ci := 11) (v := .ref (h 2)) (C := RX12) (T := TX12) (N := 31) hx hb hts hin hown hK hP 0 rfl rfl 2 (by decide) w16 (fun _ h9 => h9) rfl dX12_isPlayed_1 ?_
  refine lv_iload_n hx hb dX12_isPlayed_4 rfl (lv_at hl 1 rfl) ?_
  refine lv_iconst (v := 1) hx hb dX12_isPlayed_5 (by decide) ?_
  refine lv_iadd hx hb dX12_isPlayed_6 ?_
  obtain ⟨hi_28, hw⟩ := hw
  refine va_iald (f := (ms_texts S)) hx hb hK hP 3 2 rfl rfl hi_28 dX12_isPlayed_7 ?_
  refine lv_istore_n (lv' := [(2, .int ((ms_texts S) (p1 + 1).toNatClampNeg)), (0, .ref (h 31)), (1, .int p1)]) hx hb dX12_isPlayed_8 rfl hl (by decide) rfl (fun ls hl => ?_)
  refine lv_aload_n hx hb dX12_isPlayed_9 rfl (lv_at hl 1 rfl) ?_
  refine va_get (D := D) (ci := 11) (v := .ref (h 2)) (C := RX12) (T := TX12) (N := 31) hx hb hts hin hown hK hP 0 rfl rfl 2 (by decide) w16 (fun _ h9 => h9) rfl dX12_isPlayed_10 ?_
  refine lv_iload_n hx hb dX12_isPlayed_13 rfl (lv_at hl 2 rfl) ?_
  refine lv_iconst (v := 2) hx hb dX12_isPlayed_14 (by decide) ?_
  refine lv_iadd hx hb dX12_isPlayed_15 ?_
  obtain ⟨hi_27, hw⟩ := hw
  refine va_iald (f := (ms_texts S)) hx hb hK hP 3 2 rfl rfl hi_27 dX12_isPlayed_16 ?_
  refine lv_istore_n (lv' := [(3, .int ((ms_texts S) (p1 + 2).toNatClampNeg)), (2, .int ((ms_texts S) (p1 + 1).toNatClampNeg)), (0, .ref (h 31)), (1, .int p1)]) hx hb dX12_isPlayed_17 rfl hl (by decide) rfl (fun ls hl => ?_)
  refine lv_aload_n hx hb dX12_isPlayed_18 rfl (lv_at hl 2 rfl) ?_
  refine va_get (D := D) (ci := 11) (v := .ref (h 2)) (C := RX12) (T := TX12) (N := 31) hx hb hts hin hown hK hP 0 rfl rfl 2 (by decide) w16 (fun _ h9 => h9) rfl dX12_isPlayed_19 ?_
  refine lv_iload_n hx hb dX12_isPlayed_22 rfl (lv_at hl 3 rfl) ?_
  obtain ⟨hi_26, hw⟩ := hw
  refine va_iald (f := (ms_texts S)) hx hb hK hP 3 2 rfl rfl hi_26 dX12_isPlayed_23 ?_
  obtain ⟨hc_4, hw⟩ := hw
  by_cases c_4 : ((ms_texts S) p1.toNatClampNeg) = 3
  · have hw := hc_4 c_4
    refine lv_tableIn (off := 44) (tgt := 68) hx hb dX12_isPlayed_24 (by rw [c_4]; decide) (by rw [c_4]; decide) (by rw [c_4]; rfl) (by decide) ?_
    refine lv_aload_n hx hb dX12_isPlayed_68 rfl (lv_at hl 2 rfl) ?_
    refine lv_iload_n hx hb dX12_isPlayed_69 rfl (lv_at hl 1 rfl) ?_
    refine lv_iload_n hx hb dX12_isPlayed_70 rfl (lv_at hl 0 rfl) ?_
    refine k_callVi (As := [.int ((ms_texts S) (p1 + 1).toNatClampNeg), .int ((ms_texts S) (p1 + 2).toNatClampNeg)]) (rest := []) ⟨hx, hb, hml, hown, hts⟩ (cM_house l D h cy _ _ _ _ hw) (cwV 2 hts gX12_isPlayed_X12_house rfl rfl rfl (by decide +kernel) ⟨Nat.le_of_ble_eq_true rfl, Nat.le_of_ble_eq_true rfl⟩) (va_recv hK hP (ci := 11) (q0 := 0) rfl rfl) hK hP hD hS hA rfl hl.1 rfl (Nat.le_of_ble_eq_true rfl) dX12_isPlayed_71 ⟨Nat.zero_le _, Nat.zero_le _⟩ (fun r_1 S_2 H locs hw hP hD hS => ?_)
    obtain ⟨hc_3t, hc_3f⟩ := hw
    refine lv_if_lt (tgt := 81) hx hb dX12_isPlayed_74 (by decide) (fun c_3 => ?_) (fun c_3 => ?_)
    · have hw := hc_3t c_3
      clear hc_3t hc_3f
      refine lv_iconst (v := 0) hx hb dX12_isPlayed_81 (by decide) ?_
      exact W.zret (v := 0) hx hb hr (by decide +kernel) (fun t ht hW => ⟨⟨0, S_2, rfl, hw, by rw [ht]; exact hP, va_K.moved hW.alike hK, hD⟩, hS.F ht⟩) hS.2.2 dX12_isPlayed_82
    · have hw := hc_3f c_3
      clear hc_3t hc_3f
      refine lv_iconst (v := 1) hx hb dX12_isPlayed_77 (by decide) ?_
      refine lv_goto (tgt := 82) hx hb dX12_isPlayed_78 (by decide) ?_
      exact W.zret (v := 1) hx hb hr (by decide +kernel) (fun t ht hW => ⟨⟨1, S_2, rfl, hw, by rw [ht]; exact hP, va_K.moved hW.alike hK, hD⟩, hS.F ht⟩) hS.2.2 dX12_isPlayed_82
  obtain ⟨hc_8, hw⟩ := hw
  by_cases c_8 : ((ms_texts S) p1.toNatClampNeg) = 4
  · have hw := hc_8 c_8
    refine lv_tableIn (off := 59) (tgt := 83) hx hb dX12_isPlayed_24 (by rw [c_8]; decide) (by rw [c_8]; decide) (by rw [c_8]; rfl) (by decide) ?_
    refine lv_aload_n hx hb dX12_isPlayed_83 rfl (lv_at hl 2 rfl) ?_
    refine lv_iload_n hx hb dX12_isPlayed_84 rfl (lv_at hl 1 rfl) ?_
    refine lv_iload_n hx hb dX12_isPlayed_85 rfl (lv_at hl 0 rfl) ?_
    refine k_callVi (As := [.int ((ms_texts S) (p1 + 1).toNatClampNeg), .int ((ms_texts S) (p1 + 2).toNatClampNeg)]) (rest := []) ⟨hx, hb, hml, hown, hts⟩ (cM_clown l D h cy _ _ _ _ hw) (cwV 2 hts gX12_isPlayed_X12_clown rfl rfl rfl (by decide +kernel) ⟨Nat.le_of_ble_eq_true rfl, Nat.le_of_ble_eq_true rfl⟩) (va_recv hK hP (ci := 11) (q0 := 0) rfl rfl) hK hP hD hS hA rfl hl.1 rfl (Nat.le_of_ble_eq_true rfl) dX12_isPlayed_86 ⟨Nat.zero_le _, Nat.zero_le _⟩ (fun r_5 S_6 H locs hw hP hD hS => ?_)
    obtain ⟨hc_7t, hc_7f⟩ := hw
    refine lv_if_lt (tgt := 96) hx hb dX12_isPlayed_89 (by decide) (fun c_7 => ?_) (fun c_7 => ?_)
    · have hw := hc_7t c_7
      clear hc_7t hc_7f
      refine lv_iconst (v := 0) hx hb dX12_isPlayed_96 (by decide) ?_
      exact W.zret (v := 0) hx hb hr (by decide +kernel) (fun t ht hW => ⟨⟨0, S_6, rfl, hw, by rw [ht]; exact hP, va_K.moved hW.alike hK, hD⟩, hS.F ht⟩) hS.2.2 dX12_isPlayed_97
    · have hw := hc_7f c_7
      clear hc_7t hc_7f
      refine lv_iconst (v := 1) hx hb dX12_isPlayed_92 (by decide) ?_
      refine lv_goto (tgt := 97) hx hb dX12_isPlayed_93 (by decide) ?_
      exact W.zret (v := 1) hx hb hr (by decide +kernel) (fun t ht hW => ⟨⟨1, S_6, rfl, hw, by rw [ht]; exact hP, va_K.moved hW.alike hK, hD⟩, hS.F ht⟩) hS.2.2 dX12_isPlayed_97
  obtain ⟨hc_12, hw⟩ := hw
  by_cases c_12 : ((ms_texts S) p1.toNatClampNeg) = 5
  · have hw := hc_12 c_12
    refine lv_tableIn (off := 74) (tgt := 98) hx hb dX12_isPlayed_24 (by rw [c_12]; decide) (by rw [c_12]; decide) (by rw [c_12]; rfl) (by decide) ?_
    refine lv_aload_n hx hb dX12_isPlayed_98 rfl (lv_at hl 2 rfl) ?_
    refine lv_iload_n hx hb dX12_isPlayed_99 rfl (lv_at hl 0 rfl) ?_
    refine lv_iload_n hx hb dX12_isPlayed_100 rfl (lv_at hl 1 rfl) ?_
    refine lv_aload_n hx hb dX12_isPlayed_101 rfl (lv_at hl 2 rfl) ?_
    refine va_get (D := D) (ci := 11) (v := .ref (h 2)) (C := RX12) (T := TX12) (N := 31) hx hb hts hin hown hK hP 0 rfl rfl 2 (by decide) w16 (fun _ h9 => h9) rfl dX12_isPlayed_102 ?_
    refine lv_iload_n hx hb dX12_isPlayed_105 rfl (lv_at hl 3 rfl) ?_
    refine lv_iconst (v := 3) hx hb dX12_isPlayed_106 (by decide) ?_
    refine lv_iadd hx hb dX12_isPlayed_107 ?_
    obtain ⟨hi_11, hw⟩ := hw
    refine va_iald (f := (ms_texts S)) hx hb hK hP 3 2 rfl rfl hi_11 dX12_isPlayed_108 ?_
    refine k_callVi (As := [.int ((ms_texts S) (p1 + 2).toNatClampNeg), .int ((ms_texts S) (p1 + 1).toNatClampNeg), .int ((ms_texts S) (p1 + 3).toNatClampNeg)]) (rest := []) ⟨hx, hb, hml, hown, hts⟩ (cM_mood l D h cy _ _ _ _ _ hw) (cwV 3 hts gX12_isPlayed_X12_mood rfl rfl rfl (by decide +kernel) ⟨Nat.le_of_ble_eq_true rfl, Nat.le_of_ble_eq_true rfl⟩) (va_recv hK hP (ci := 11) (q0 := 0) rfl rfl) hK hP hD hS hA rfl hl.1 rfl (Nat.le_of_ble_eq_true rfl) dX12_isPlayed_109 ⟨Nat.zero_le _, Nat.zero_le _⟩ (fun r_9 S_10 H locs hw hP hD hS => ?_)
    obtain ⟨hn, hw⟩ := hw
    exact W.zret (v := r_9) hx hb hr hn (fun t ht hW => ⟨⟨r_9, S_10, rfl, hw, by rw [ht]; exact hP, va_K.moved hW.alike hK, hD⟩, hS.F ht⟩) hS.2.2 dX12_isPlayed_112
  obtain ⟨hc_15, hw⟩ := hw
  by_cases c_15 : ((ms_texts S) p1.toNatClampNeg) = 6
  · have hw := hc_15 c_15
    refine lv_tableIn (off := 89) (tgt := 113) hx hb dX12_isPlayed_24 (by rw [c_15]; decide) (by rw [c_15]; decide) (by rw [c_15]; rfl) (by decide) ?_
    refine lv_aload_n hx hb dX12_isPlayed_113 rfl (lv_at hl 2 rfl) ?_
    refine lv_iload_n hx hb dX12_isPlayed_114 rfl (lv_at hl 1 rfl) ?_
    refine lv_iload_n hx hb dX12_isPlayed_115 rfl (lv_at hl 0 rfl) ?_
    refine k_callVi (As := [.int ((ms_texts S) (p1 + 1).toNatClampNeg), .int ((ms_texts S) (p1 + 2).toNatClampNeg)]) (rest := []) ⟨hx, hb, hml, hown, hts⟩ (cM_send l D h cy _ _ _ _ hw) (cwV 2 hts gX12_isPlayed_X12_send rfl rfl rfl (by decide +kernel) ⟨Nat.le_of_ble_eq_true rfl, Nat.le_of_ble_eq_true rfl⟩) (va_recv hK hP (ci := 11) (q0 := 0) rfl rfl) hK hP hD hS hA rfl hl.1 rfl (Nat.le_of_ble_eq_true rfl) dX12_isPlayed_116 ⟨Nat.zero_le _, Nat.zero_le _⟩ (fun r_13 S_14 H locs hw hP hD hS => ?_)
    obtain ⟨hn, hw⟩ := hw
    exact W.zret (v := r_13) hx hb hr hn (fun t ht hW => ⟨⟨r_13, S_14, rfl, hw, by rw [ht]; exact hP, va_K.moved hW.alike hK, hD⟩, hS.F ht⟩) hS.2.2 dX12_isPlayed_119
  obtain ⟨hc_19, hw⟩ := hw
  by_cases c_19 : ((ms_texts S) p1.toNatClampNeg) = 7
  · have hw := hc_19 c_19
    refine lv_tableIn (off := 96) (tgt := 120) hx hb dX12_isPlayed_24 (by rw [c_19]; decide) (by rw [c_19]; decide) (by rw [c_19]; rfl) (by decide) ?_
    refine lv_aload_n hx hb dX12_isPlayed_120 rfl (lv_at hl 2 rfl) ?_
    refine lv_iload_n hx hb dX12_isPlayed_121 rfl (lv_at hl 0 rfl) ?_
    refine lv_iload_n hx hb dX12_isPlayed_122 rfl (lv_at hl 1 rfl) ?_
    refine k_callVi (As := [.int ((ms_texts S) (p1 + 2).toNatClampNeg), .int ((ms_texts S) (p1 + 1).toNatClampNeg)]) (rest := []) ⟨hx, hb, hml, hown, hts⟩ (cM_fall l D h cy _ _ _ _ hw) (cwV 2 hts gX12_isPlayed_X12_fall rfl rfl rfl (by decide +kernel) ⟨Nat.le_of_ble_eq_true rfl, Nat.le_of_ble_eq_true rfl⟩) (va_recv hK hP (ci := 11) (q0 := 0) rfl rfl) hK hP hD hS hA rfl hl.1 rfl (Nat.le_of_ble_eq_true rfl) dX12_isPlayed_123 ⟨Nat.zero_le _, Nat.zero_le _⟩ (fun r_16 S_17 H locs hw hP hD hS => ?_)
    obtain ⟨hc_18t, hc_18f⟩ := hw
    refine lv_if_lt (tgt := 133) hx hb dX12_isPlayed_126 (by decide) (fun c_18 => ?_) (fun c_18 => ?_)
    · have hw := hc_18t c_18
      clear hc_18t hc_18f
      refine lv_iconst (v := 0) hx hb dX12_isPlayed_133 (by decide) ?_
      exact W.zret (v := 0) hx hb hr (by decide +kernel) (fun t ht hW => ⟨⟨0, S_17, rfl, hw, by rw [ht]; exact hP, va_K.moved hW.alike hK, hD⟩, hS.F ht⟩) hS.2.2 dX12_isPlayed_134
    · have hw := hc_18f c_18
      clear hc_18t hc_18f
      refine lv_iconst (v := 1) hx hb dX12_isPlayed_129 (by decide) ?_
      refine lv_goto (tgt := 134) hx hb dX12_isPlayed_130 (by decide) ?_
      exact W.zret (v := 1) hx hb hr (by decide +kernel) (fun t ht hW => ⟨⟨1, S_17, rfl, hw, by rw [ht]; exact hP, va_K.moved hW.alike hK, hD⟩, hS.F ht⟩) hS.2.2 dX12_isPlayed_134
  obtain ⟨hc_22, hw⟩ := hw
  by_cases c_22 : ((ms_texts S) p1.toNatClampNeg) = 8
  · have hw := hc_22 c_22
    refine lv_tableIn (off := 111) (tgt := 135) hx hb dX12_isPlayed_24 (by rw [c_22]; decide) (by rw [c_22]; decide) (by rw [c_22]; rfl) (by decide) ?_
    refine lv_aload_n hx hb dX12_isPlayed_135 rfl (lv_at hl 2 rfl) ?_
    refine lv_iload_n hx hb dX12_isPlayed_136 rfl (lv_at hl 1 rfl) ?_
    refine k_callVi (As := [.int ((ms_texts S) (p1 + 1).toNatClampNeg)]) (rest := []) ⟨hx, hb, hml, hown, hts⟩ (cM_rest l D h cy _ _ _ hw) (cwV 1 hts gX12_isPlayed_X12_rest rfl rfl rfl (by decide +kernel) ⟨Nat.le_of_ble_eq_true rfl, Nat.le_of_ble_eq_true rfl⟩) (va_recv hK hP (ci := 11) (q0 := 0) rfl rfl) hK hP hD hS hA rfl hl.1 rfl (Nat.le_of_ble_eq_true rfl) dX12_isPlayed_137 ⟨Nat.zero_le _, Nat.zero_le _⟩ (fun r_20 S_21 H locs hw hP hD hS => ?_)
    obtain ⟨hn, hw⟩ := hw
    exact W.zret (v := r_20) hx hb hr hn (fun t ht hW => ⟨⟨r_20, S_21, rfl, hw, by rw [ht]; exact hP, va_K.moved hW.alike hK, hD⟩, hS.F ht⟩) hS.2.2 dX12_isPlayed_140
  obtain ⟨hc_25, hw⟩ := hw
  by_cases c_25 : ((ms_texts S) p1.toNatClampNeg) = 9
  · have hw := hc_25 c_25
    refine lv_tableIn (off := 117) (tgt := 141) hx hb dX12_isPlayed_24 (by rw [c_25]; decide) (by rw [c_25]; decide) (by rw [c_25]; rfl) (by decide) ?_
    refine lv_aload_n hx hb dX12_isPlayed_141 rfl (lv_at hl 2 rfl) ?_
    refine lv_iload_n hx hb dX12_isPlayed_142 rfl (lv_at hl 1 rfl) ?_
    refine k_callVi (As := [.int ((ms_texts S) (p1 + 1).toNatClampNeg)]) (rest := []) ⟨hx, hb, hml, hown, hts⟩ (cM_arePassed l D h cy _ _ _ hw) (cwV 1 hts gX12_isPlayed_X12_arePassed rfl rfl rfl (by decide +kernel) ⟨Nat.le_of_ble_eq_true rfl, Nat.le_of_ble_eq_true rfl⟩) (va_recv hK hP (ci := 11) (q0 := 0) rfl rfl) hK hP hD hS hA rfl hl.1 rfl (Nat.le_of_ble_eq_true rfl) dX12_isPlayed_143 ⟨Nat.zero_le _, Nat.zero_le _⟩ (fun r_23 S_24 H locs hw hP hD hS => ?_)
    obtain ⟨hn, hw⟩ := hw
    exact W.zret (v := r_23) hx hb hr hn (fun t ht hW => ⟨⟨r_23, S_24, rfl, hw, by rw [ht]; exact hP, va_K.moved hW.alike hK, hD⟩, hS.F ht⟩) hS.2.2 dX12_isPlayed_146
  have hw := hw c_4 c_8 c_12 c_15 c_19 c_22 c_25
  have c_4n := lv_neT c_4 (a := 3) (by decide)
  have c_8n := lv_neT c_8 (a := 4) (by decide)
  have c_12n := lv_neT c_12 (a := 5) (by decide)
  have c_15n := lv_neT c_15 (a := 6) (by decide)
  have c_19n := lv_neT c_19 (a := 7) (by decide)
  have c_22n := lv_neT c_22 (a := 8) (by decide)
  have c_25n := lv_neT c_25 (a := 9) (by decide)
  refine lv_tableOut (tgt := 147) hx hb dX12_isPlayed_24 (by omega) (by decide) ?_
  refine lv_iconst (v := 1) hx hb dX12_isPlayed_147 (by decide) ?_
  exact W.zret (v := 1) hx hb hr (by decide +kernel) (fun t ht hW => ⟨⟨1, S, rfl, hw, by rw [ht]; exact hP, va_K.moved hW.alike hK, hD⟩, hS.F ht⟩) hS.2.2 dX12_isPlayed_148
def wM_played_21 (post : Int32 → MS → Prop) : Nat → Int32 → Int32 → MS → Prop
  | 0, _, _, _ => False
  | n + 1, x1, x2, S => (vp_in (705 * x1) 2820 ∧ ((((ms_texts S) (705 * x1).toNatClampNeg) ≤ x2 → post (-1) S) ∧ (¬ (((ms_texts S) (705 * x1).toNatClampNeg) ≤ x2) → wM_isPlayed (((705 * x1) + 1) + (4 * x2)) S (fun r_2 S_3 => ((r_2 = 0 → post x2 S_3) ∧ (¬ (r_2 = 0) → wM_played_21 post n x1 (x2 + 1) S_3))))))
def wM_played (p1 : Int32) (S : MS) (post : Int32 → MS → Prop) : Prop := wM_isIn p1 0 (((ms_a S) 2) - 1) S (fun r_1 S_2 => ((r_1 = 0 → post (-2) S_2) ∧ (¬ (r_1 = 0) → ∃ k_ : Nat, wM_played_21 post k_ p1 0 S_2)))
set_option maxHeartbeats 4000000 in
set_option maxRecDepth 100000 in
theorem cM_played (l : Launch) (D : va_G) (h : Nat → Nat) (cy : Nat → ClassId) (p1 : Int32) (S : MS) (post : Int32 → MS → Prop) (hw : wM_played p1 S post) : k_Mi l yX12_played wsX12_played { frames := 9, cells := 0, slots := 0, locals := 213 } D (tyM cy) (wM h cy) [.ref (h 31), .int p1] S post := by
  intro sz
  refine Met.ofW (cc := cX12_played) (maxL := 3) (ret := (some .int)) (by decide) rfl ?_
  intro p e s m args below meth c s₁ B hml hv
  obtain ⟨rfl, hsz, hP, hK, hD0⟩ := hv
  have hx := B.exec
  have hb := B.bytes
  have hr := B.returns
  have hts := atoms_spec (ws := wsX12_played) B.pre
  have hown : s.vm.findClass RX12 = some m.cls := findClass_of_methodNamed B.named
  have hlocks := B.notSynchronized
  subst hsz
  have hD := hD0.self (sz := s.heap.size)
  generalize hAe : va_A (wM h cy S) s.heap.size = A at hD ⊢
  have hA : ∀ q : Nat, s.heap.size ≤ q → A q := fun q h => by rw [← hAe]; exact Or.inr h
  have hS : va_S A s.heap s.heap [] := va_S.rf
  have hin : ∀ w ∈ wsX120, w ∈ wsX12_played := fun _ h => List.mem_cons_of_mem _ (List.mem_append_right _ h)
  have w7 := hts (.fieldLink RX12 7 "ClownsMournModel" "a" "[I") (List.mem_of_getElem? (i := 1) rfl)
  have w16 := hts (.fieldLink RX12 16 "ClownsMournModel" "texts" "[I") (List.mem_of_getElem? (i := 2) rfl)
  have hl := lv_entry ([.ref (h 31), .int p1]) (n := 3) (Nat.le_of_ble_eq_true rfl)
  rw [lg_entry_eq]
  generalize (lg_sl ([.ref (h 31), .int p1]) ++ List.replicate (3 - (lg_sl ([.ref (h 31), .int p1])).length) Slot.unset).toArray = ls at hl ⊢
  have hl : lv_has ls 3 [(0, .ref (h 31)), (1, .int p1)] := hl
  unfold wM_played at hw
  clear hD0
  have L_21 : ∀ (n21 : Nat) (x1 : Int32) (x2 : Int32) (S : MS) (H : Heap) (locs : List Loc) (ls : Array Slot), wM_played_21 post n21 x1 x2 S → va_P D vwCl (wM h cy S) H → va_D A (wM h cy S) → va_S A s.heap H locs → lv_has ls 3 [(0, .ref (h 31)), (1, .int x1), (2, .int x2)] → W p l e (headSpec wsX12_played { frames := 9, cells := 0, slots := 0, locals := 213 }).room s m (([.ref (h 31), .int p1] : List Value).toArray) below meth c H locs 0 0 (MQ below (va_Qi post (k_Post D (tyM cy) (wM h cy) A) A) (([.ref (h 31), .int p1] : List Value).toArray) s 0 0 A) (F0 m 21 ls []) := by
    intro n21
    induction n21 with
    | zero => intro x1 x2 S H locs ls hw; exact False.elim hw
    | succ n21 ih_21 =>
      intro x1 x2 S H locs ls hw hP hD hS hl
      unfold wM_played_21 at hw
      refine lv_iload_n hx hb dX12_played_21 rfl (lv_at hl 2 rfl) ?_
      refine lv_aload_n hx hb dX12_played_22 rfl (lv_at hl 0 rfl) ?_
      refine va_get (D := D) (ci := 11) (v := .ref (h 2)) (C := RX12) (T := TX12) (N := 31) hx hb hts hin hown hK hP 0 rfl rfl 2 (by decide) w16 (fun _ h9 => h9) rfl dX12_played_23 ?_
      refine lv_sipush (v := 705) hx hb dX12_played_26 (by decide) ?_
      refine lv_iload_n hx hb dX12_played_29 rfl (lv_at hl 1 rfl) ?_
      refine lv_imul hx hb dX12_played_30 ?_
      obtain ⟨hi_5, hw⟩ := hw
      refine va_iald (f := (ms_texts S)) hx hb hK hP 3 2 rfl rfl hi_5 dX12_played_31 ?_
      obtain ⟨hc_1t, hc_1f⟩ := hw
      refine lv_icmp_ge (tgt := 61) hx hb dX12_played_32 (by decide) (fun c_1 => ?_) (fun c_1 => ?_)
      · have hw := hc_1t c_1
        clear hc_1t hc_1f
        refine lv_iconst (v := (-1)) hx hb dX12_played_61 (by decide) ?_
        exact W.iret (v := (-1)) hx hb hr (fun t ht hW => ⟨⟨(-1), S, rfl, hw, by rw [ht]; exact hP, va_K.moved hW.alike hK, hD⟩, hS.F ht⟩) hS.2.2 dX12_played_62
      · have hw := hc_1f c_1
        clear hc_1t hc_1f
        refine lv_aload_n hx hb dX12_played_35 rfl (lv_at hl 0 rfl) ?_
        refine lv_sipush (v := 705) hx hb dX12_played_36 (by decide) ?_
        refine lv_iload_n hx hb dX12_played_39 rfl (lv_at hl 1 rfl) ?_
        refine lv_imul hx hb dX12_played_40 ?_
        refine lv_iconst (v := 1) hx hb dX12_played_41 (by decide) ?_
        refine lv_iadd hx hb dX12_played_42 ?_
        refine lv_iconst (v := 4) hx hb dX12_played_43 (by decide) ?_
        refine lv_iload_n hx hb dX12_played_44 rfl (lv_at hl 2 rfl) ?_
        refine lv_imul hx hb dX12_played_45 ?_
        refine lv_iadd hx hb dX12_played_46 ?_
        refine k_callVi (As := [.int (((705 * x1) + 1) + (4 * x2))]) (rest := []) ⟨hx, hb, hml, hown, hts⟩ (cM_isPlayed l D h cy _ _ _ hw) (cwV 1 hts gX12_played_X12_isPlayed rfl rfl rfl (by decide +kernel) ⟨Nat.le_of_ble_eq_true rfl, Nat.le_of_ble_eq_true rfl⟩) (va_recv hK hP (ci := 11) (q0 := 0) rfl rfl) hK hP hD hS hA rfl hl.1 rfl (Nat.le_of_ble_eq_true rfl) dX12_played_47 ⟨Nat.zero_le _, Nat.zero_le _⟩ (fun r_2 S_3 H locs hw hP hD hS => ?_)
        obtain ⟨hc_4t, hc_4f⟩ := hw
        refine lv_if_ne (tgt := 55) hx hb dX12_played_50 (by decide) (fun c_4 => ?_) (fun c_4 => ?_)
        · have hw := hc_4f c_4
          clear hc_4t hc_4f
          refine lv_iinc (v := x2 + 1) (lv' := [(2, .int (x2 + 1)), (0, .ref (h 31)), (1, .int x1)]) hx hb dX12_played_55 hl (k := 2) rfl (k_inc (by decide)) (by decide) rfl (fun ls hl => ?_)
          refine lv_goto (tgt := 21) hx hb dX12_played_58 (by decide) ?_
          exact ih_21 x1 (x2 + 1) S_3 _ _ _ hw hP hD hS (lv_sub hl [1, 2, 0] rfl)
        · have hw := hc_4t c_4
          clear hc_4t hc_4f
          refine lv_iload_n hx hb dX12_played_53 rfl (lv_at hl 2 rfl) ?_
          exact W.iret (v := x2) hx hb hr (fun t ht hW => ⟨⟨x2, S_3, rfl, hw, by rw [ht]; exact hP, va_K.moved hW.alike hK, hD⟩, hS.F ht⟩) hS.2.2 dX12_played_54
  refine lv_iload_n hx hb dX12_played_0 rfl (lv_at hl 1 rfl) ?_
  refine lv_iconst (v := 0) hx hb dX12_played_1 (by decide) ?_
  refine lv_aload_n hx hb dX12_played_2 rfl (lv_at hl 0 rfl) ?_
  refine va_get (D := D) (ci := 11) (v := .ref (h 0)) (C := RX12) (T := TX12) (N := 31) hx hb hts hin hown hK hP 0 rfl rfl 0 (by decide) w7 (fun _ h9 => h9) rfl dX12_played_3 ?_
  refine lv_iconst (v := 2) hx hb dX12_played_6 (by decide) ?_
  refine k_iald (f := (ms_a S)) (j := 2) hx hb hK hP 1 0 rfl rfl (by decide +kernel) rfl dX12_played_7 ?_
  refine lv_iconst (v := 1) hx hb dX12_played_8 (by decide) ?_
  refine lv_isub hx hb dX12_played_9 ?_
  refine k_callSi (As := [.int p1, .int 0, .int (((ms_a S) 2) - 1)]) (rest := []) ⟨hx, hb, hml, hown, hts⟩ (cM_isIn l D h cy _ _ _ _ _ hw) (va_cwS 3 hts gX12_played_X12_isIn rfl rfl rfl (by decide +kernel) ⟨Nat.le_of_ble_eq_true rfl, Nat.le_of_ble_eq_true rfl⟩) hK hP hD hS hA rfl hl.1 rfl (Nat.le_of_ble_eq_true rfl) dX12_played_10 ⟨Nat.zero_le _, Nat.zero_le _⟩ (fun r_6 S_7 H locs hw hP hD hS => ?_)
  obtain ⟨hc_8t, hc_8f⟩ := hw
  refine lv_if_ne (tgt := 19) hx hb dX12_played_13 (by decide) (fun c_8 => ?_) (fun c_8 => ?_)
  · have hw := hc_8f c_8
    clear hc_8t hc_8f
    refine lv_iconst (v := 0) hx hb dX12_played_19 (by decide) ?_
    refine lv_istore_n (lv' := [(2, .int 0), (0, .ref (h 31)), (1, .int p1)]) hx hb dX12_played_20 rfl hl (by decide) rfl (fun ls hl => ?_)
    obtain ⟨n_21, hw⟩ := hw
    exact L_21 n_21 p1 0 S_7 _ _ _ hw hP hD hS (lv_sub hl [1, 2, 0] rfl)
  · have hw := hc_8t c_8
    clear hc_8t hc_8f
    refine lv_bipush (v := (-2)) hx hb dX12_played_16 (by decide) ?_
    exact W.iret (v := (-2)) hx hb hr (fun t ht hW => ⟨⟨(-2), S_7, rfl, hw, by rw [ht]; exact hP, va_K.moved hW.alike hK, hD⟩, hS.F ht⟩) hS.2.2 dX12_played_18
def wM_happens (p1 : Int32) (S : MS) (post : MS → Prop) : Prop := (((k_rem p1 6) = 5 → ((9999 ≤ ((ms_a S) 7) → post S) ∧ (¬ (9999 ≤ ((ms_a S) 7)) → wM_pass S (fun S_20 => post S_20)))) ∧ (¬ ((k_rem p1 6) = 5) → ((((ms_a S) 1) = 0 → post S) ∧ (¬ (((ms_a S) 1) = 0) → (¬ ((ms_a S) 1) = 0 ∧ (((k_rem p1 6) = 0 → ((((ms_a S) 0) ≤ 0 → post S) ∧ (¬ (((ms_a S) 0) ≤ 0) → (¬ ((ms_a S) 0) = 0 ∧ wM_lay (k_rem p1 ((ms_a S) 1)) 1 (k_rem (p1 / 6) ((ms_a S) 0)) S (fun S_15 => post S_15))))) ∧ (¬ ((k_rem p1 6) = 0) → (((k_rem p1 6) = 4 → (((k_rem p1 8) = 0 → wM_lay (k_rem p1 ((ms_a S) 1)) 1 (-1) S (fun S_12 => post S_12)) ∧ (¬ ((k_rem p1 8) = 0) → post S))) ∧ (¬ ((k_rem p1 6) = 4) → wM_canFall (k_rem p1 ((ms_a S) 1)) S (fun r_5 S_6 => ((r_5 = 0 → post S_6) ∧ (¬ (r_5 = 0) → wM_fallNow (k_rem p1 ((ms_a S) 1)) (k_rem p1 5) S_6 (fun S_9 => post S_9)))))))))))))
set_option maxHeartbeats 4000000 in
set_option maxRecDepth 100000 in
theorem cM_happens (l : Launch) (D : va_G) (h : Nat → Nat) (cy : Nat → ClassId) (p1 : Int32) (S : MS) (post : MS → Prop) (hw : wM_happens p1 S post) : k_Mv l yX12_happens wsX12_happens { frames := 7, cells := 0, slots := 0, locals := 168 } D (tyM cy) (wM h cy) [.ref (h 31), .int p1] S post := by
  intro sz
  refine Met.ofW (cc := cX12_happens) (maxL := 3) (ret := none) (by decide) rfl ?_
  intro p e s m args below meth c s₁ B hml hv
  obtain ⟨rfl, hsz, hP, hK, hD0⟩ := hv
  have hx := B.exec
  have hb := B.bytes
  have hr := B.returns
  have hts := atoms_spec (ws := wsX12_happens) B.pre
  have hown : s.vm.findClass RX12 = some m.cls := findClass_of_methodNamed B.named
  have hlocks := B.notSynchronized
  subst hsz
  have hD := hD0.self (sz := s.heap.size)
  generalize hAe : va_A (wM h cy S) s.heap.size = A at hD ⊢
  have hA : ∀ q : Nat, s.heap.size ≤ q → A q := fun q h => by rw [← hAe]; exact Or.inr h
  have hS : va_S A s.heap s.heap [] := va_S.rf
  have hin : ∀ w ∈ wsX120, w ∈ wsX12_happens := fun _ h => List.mem_cons_of_mem _ (List.mem_append_right _ h)
  have w7 := hts (.fieldLink RX12 7 "ClownsMournModel" "a" "[I") (List.mem_of_getElem? (i := 1) rfl)
  have hl := lv_entry ([.ref (h 31), .int p1]) (n := 3) (Nat.le_of_ble_eq_true rfl)
  rw [lg_entry_eq]
  generalize (lg_sl ([.ref (h 31), .int p1]) ++ List.replicate (3 - (lg_sl ([.ref (h 31), .int p1])).length) Slot.unset).toArray = ls at hl ⊢
  have hl : lv_has ls 3 [(0, .ref (h 31)), (1, .int p1)] := hl
  unfold wM_happens at hw
  clear hD0
  refine lv_iload_n hx hb dX12_happens_0 rfl (lv_at hl 1 rfl) ?_
  refine lv_bipush (v := 6) hx hb dX12_happens_1 (by decide) ?_
  refine k_irem hx hb dX12_happens_3 (by decide) ?_
  refine lv_iconst (v := 5) hx hb dX12_happens_4 (by decide) ?_
  obtain ⟨hc_1t, hc_1f⟩ := hw
  refine lv_icmp_ne (tgt := 26) hx hb dX12_happens_5 (by decide) (fun c_1 => ?_) (fun c_1 => ?_)
  · have hw := hc_1f c_1
    clear hc_1t hc_1f
    refine lv_aload_n hx hb dX12_happens_26 rfl (lv_at hl 0 rfl) ?_
    refine va_get (D := D) (ci := 11) (v := .ref (h 0)) (C := RX12) (T := TX12) (N := 31) hx hb hts hin hown hK hP 0 rfl rfl 0 (by decide) w7 (fun _ h9 => h9) rfl dX12_happens_27 ?_
    refine lv_iconst (v := 1) hx hb dX12_happens_30 (by decide) ?_
    refine k_iald (f := (ms_a S)) (j := 1) hx hb hK hP 1 0 rfl rfl (by decide +kernel) rfl dX12_happens_31 ?_
    obtain ⟨hc_2t, hc_2f⟩ := hw
    refine lv_if_ne (tgt := 36) hx hb dX12_happens_32 (by decide) (fun c_2 => ?_) (fun c_2 => ?_)
    · have hw := hc_2f c_2
      clear hc_2t hc_2f
      refine lv_iload_n hx hb dX12_happens_36 rfl (lv_at hl 1 rfl) ?_
      refine lv_aload_n hx hb dX12_happens_37 rfl (lv_at hl 0 rfl) ?_
      refine va_get (D := D) (ci := 11) (v := .ref (h 0)) (C := RX12) (T := TX12) (N := 31) hx hb hts hin hown hK hP 0 rfl rfl 0 (by decide) w7 (fun _ h9 => h9) rfl dX12_happens_38 ?_
      refine lv_iconst (v := 1) hx hb dX12_happens_41 (by decide) ?_
      refine k_iald (f := (ms_a S)) (j := 1) hx hb hK hP 1 0 rfl rfl (by decide +kernel) rfl dX12_happens_42 ?_
      obtain ⟨hz_17, hw⟩ := hw
      refine k_irem hx hb dX12_happens_43 hz_17 ?_
      refine lv_istore_n (lv' := [(2, .int (k_rem p1 ((ms_a S) 1))), (0, .ref (h 31)), (1, .int p1)]) hx hb dX12_happens_44 rfl hl (by decide) rfl (fun ls hl => ?_)
      refine lv_iload_n hx hb dX12_happens_45 rfl (lv_at hl 2 rfl) ?_
      refine lv_bipush (v := 6) hx hb dX12_happens_46 (by decide) ?_
      refine k_irem hx hb dX12_happens_48 (by decide) ?_
      obtain ⟨hc_3t, hc_3f⟩ := hw
      refine lv_if_ne (tgt := 81) hx hb dX12_happens_49 (by decide) (fun c_3 => ?_) (fun c_3 => ?_)
      · have hw := hc_3f c_3
        clear hc_3t hc_3f
        refine lv_iload_n hx hb dX12_happens_81 rfl (lv_at hl 2 rfl) ?_
        refine lv_bipush (v := 6) hx hb dX12_happens_82 (by decide) ?_
        refine k_irem hx hb dX12_happens_84 (by decide) ?_
        refine lv_iconst (v := 4) hx hb dX12_happens_85 (by decide) ?_
        obtain ⟨hc_4t, hc_4f⟩ := hw
        refine lv_icmp_ne (tgt := 106) hx hb dX12_happens_86 (by decide) (fun c_4 => ?_) (fun c_4 => ?_)
        · have hw := hc_4f c_4
          clear hc_4t hc_4f
          refine lv_aload_n hx hb dX12_happens_106 rfl (lv_at hl 1 rfl) ?_
          refine lv_iload_n hx hb dX12_happens_107 rfl (lv_at hl 0 rfl) ?_
          refine k_callVi (As := [.int (k_rem p1 ((ms_a S) 1))]) (rest := []) ⟨hx, hb, hml, hown, hts⟩ (cM_canFall l D h cy _ _ _ hw) (cwV 1 hts gX12_happens_X12_canFall rfl rfl rfl (by decide +kernel) ⟨Nat.le_of_ble_eq_true rfl, Nat.le_of_ble_eq_true rfl⟩) (va_recv hK hP (ci := 11) (q0 := 0) rfl rfl) hK hP hD hS hA rfl hl.1 rfl (Nat.le_of_ble_eq_true rfl) dX12_happens_108 ⟨Nat.zero_le _, Nat.zero_le _⟩ (fun r_5 S_6 H locs hw hP hD hS => ?_)
          obtain ⟨hc_7t, hc_7f⟩ := hw
          refine lv_if_eq (tgt := 122) hx hb dX12_happens_111 (by decide) (fun c_7 => ?_) (fun c_7 => ?_)
          · have hw := hc_7t c_7
            clear hc_7t hc_7f
            exact W.vret hx hb hr (fun t ht hW => ⟨⟨S_6, rfl, hw, by rw [ht]; exact hP, va_K.moved hW.alike hK, hD⟩, hS.F ht⟩) hS.2.2 dX12_happens_122
          · have hw := hc_7f c_7
            clear hc_7t hc_7f
            refine lv_aload_n hx hb dX12_happens_114 rfl (lv_at hl 1 rfl) ?_
            refine lv_iload_n hx hb dX12_happens_115 rfl (lv_at hl 0 rfl) ?_
            refine lv_iload_n hx hb dX12_happens_116 rfl (lv_at hl 2 rfl) ?_
            refine lv_iconst (v := 5) hx hb dX12_happens_117 (by decide) ?_
            refine k_irem hx hb dX12_happens_118 (by decide) ?_
            refine k_callVv (As := [.int (k_rem p1 ((ms_a S) 1)), .int (k_rem p1 5)]) (rest := []) ⟨hx, hb, hml, hown, hts⟩ (cM_fallNow l D h cy _ _ _ _ hw) (cwV 2 hts gX12_happens_X12_fallNow rfl rfl rfl (by decide +kernel) ⟨Nat.le_of_ble_eq_true rfl, Nat.le_of_ble_eq_true rfl⟩) (va_recv hK hP (ci := 11) (q0 := 0) rfl rfl) hK hP hD hS hA rfl hl.1 rfl (Nat.le_of_ble_eq_true rfl) dX12_happens_119 ⟨Nat.zero_le _, Nat.zero_le _⟩ (fun S_9 H locs hw hP hD hS => ?_)
            exact W.vret hx hb hr (fun t ht hW => ⟨⟨S_9, rfl, hw, by rw [ht]; exact hP, va_K.moved hW.alike hK, hD⟩, hS.F ht⟩) hS.2.2 dX12_happens_122
        · have hw := hc_4t c_4
          clear hc_4t hc_4f
          refine lv_iload_n hx hb dX12_happens_89 rfl (lv_at hl 2 rfl) ?_
          refine lv_bipush (v := 8) hx hb dX12_happens_90 (by decide) ?_
          refine k_irem hx hb dX12_happens_92 (by decide) ?_
          obtain ⟨hc_10t, hc_10f⟩ := hw
          refine lv_if_ne (tgt := 122) hx hb dX12_happens_93 (by decide) (fun c_10 => ?_) (fun c_10 => ?_)
          · have hw := hc_10f c_10
            clear hc_10t hc_10f
            exact W.vret hx hb hr (fun t ht hW => ⟨⟨S, rfl, hw, by rw [ht]; exact hP, va_K.moved hW.alike hK, hD⟩, hS.F ht⟩) hS.2.2 dX12_happens_122
          · have hw := hc_10t c_10
            clear hc_10t hc_10f
            refine lv_aload_n hx hb dX12_happens_96 rfl (lv_at hl 1 rfl) ?_
            refine lv_iload_n hx hb dX12_happens_97 rfl (lv_at hl 0 rfl) ?_
            refine lv_iconst (v := 1) hx hb dX12_happens_98 (by decide) ?_
            refine lv_iconst (v := (-1)) hx hb dX12_happens_99 (by decide) ?_
            refine k_callVv (As := [.int (k_rem p1 ((ms_a S) 1)), .int 1, .int (-1)]) (rest := []) ⟨hx, hb, hml, hown, hts⟩ (cM_lay l D h cy _ _ _ _ _ hw) (cwV 3 hts gX12_happens_X12_lay rfl rfl rfl (by decide +kernel) ⟨Nat.le_of_ble_eq_true rfl, Nat.le_of_ble_eq_true rfl⟩) (va_recv hK hP (ci := 11) (q0 := 0) rfl rfl) hK hP hD hS hA rfl hl.1 rfl (Nat.le_of_ble_eq_true rfl) dX12_happens_100 ⟨Nat.zero_le _, Nat.zero_le _⟩ (fun S_12 H locs hw hP hD hS => ?_)
            refine lv_goto (tgt := 122) hx hb dX12_happens_103 (by decide) ?_
            exact W.vret hx hb hr (fun t ht hW => ⟨⟨S_12, rfl, hw, by rw [ht]; exact hP, va_K.moved hW.alike hK, hD⟩, hS.F ht⟩) hS.2.2 dX12_happens_122
      · have hw := hc_3t c_3
        clear hc_3t hc_3f
        refine lv_aload_n hx hb dX12_happens_52 rfl (lv_at hl 1 rfl) ?_
        refine va_get (D := D) (ci := 11) (v := .ref (h 0)) (C := RX12) (T := TX12) (N := 31) hx hb hts hin hown hK hP 0 rfl rfl 0 (by decide) w7 (fun _ h9 => h9) rfl dX12_happens_53 ?_
        refine lv_iconst (v := 0) hx hb dX12_happens_56 (by decide) ?_
        refine k_iald (f := (ms_a S)) (j := 0) hx hb hK hP 1 0 rfl rfl (by decide +kernel) rfl dX12_happens_57 ?_
        obtain ⟨hc_13t, hc_13f⟩ := hw
        refine lv_if_le (tgt := 122) hx hb dX12_happens_58 (by decide) (fun c_13 => ?_) (fun c_13 => ?_)
        · have hw := hc_13t c_13
          clear hc_13t hc_13f
          exact W.vret hx hb hr (fun t ht hW => ⟨⟨S, rfl, hw, by rw [ht]; exact hP, va_K.moved hW.alike hK, hD⟩, hS.F ht⟩) hS.2.2 dX12_happens_122
        · have hw := hc_13f c_13
          clear hc_13t hc_13f
          refine lv_aload_n hx hb dX12_happens_61 rfl (lv_at hl 1 rfl) ?_
          refine lv_iload_n hx hb dX12_happens_62 rfl (lv_at hl 0 rfl) ?_
          refine lv_iconst (v := 1) hx hb dX12_happens_63 (by decide) ?_
          refine lv_iload_n hx hb dX12_happens_64 rfl (lv_at hl 2 rfl) ?_
          refine lv_bipush (v := 6) hx hb dX12_happens_65 (by decide) ?_
          refine lv_idiv hx hb dX12_happens_67 (by decide) ?_
          refine lv_aload_n hx hb dX12_happens_68 rfl (lv_at hl 1 rfl) ?_
          refine va_get (D := D) (ci := 11) (v := .ref (h 0)) (C := RX12) (T := TX12) (N := 31) hx hb hts hin hown hK hP 0 rfl rfl 0 (by decide) w7 (fun _ h9 => h9) rfl dX12_happens_69 ?_
          refine lv_iconst (v := 0) hx hb dX12_happens_72 (by decide) ?_
          refine k_iald (f := (ms_a S)) (j := 0) hx hb hK hP 1 0 rfl rfl (by decide +kernel) rfl dX12_happens_73 ?_
          obtain ⟨hz_16, hw⟩ := hw
          refine k_irem hx hb dX12_happens_74 hz_16 ?_
          refine k_callVv (As := [.int (k_rem p1 ((ms_a S) 1)), .int 1, .int (k_rem (p1 / 6) ((ms_a S) 0))]) (rest := []) ⟨hx, hb, hml, hown, hts⟩ (cM_lay l D h cy _ _ _ _ _ hw) (cwV 3 hts gX12_happens_X12_lay rfl rfl rfl (by decide +kernel) ⟨Nat.le_of_ble_eq_true rfl, Nat.le_of_ble_eq_true rfl⟩) (va_recv hK hP (ci := 11) (q0 := 0) rfl rfl) hK hP hD hS hA rfl hl.1 rfl (Nat.le_of_ble_eq_true rfl) dX12_happens_75 ⟨Nat.zero_le _, Nat.zero_le _⟩ (fun S_15 H locs hw hP hD hS => ?_)
          refine lv_goto (tgt := 122) hx hb dX12_happens_78 (by decide) ?_
          exact W.vret hx hb hr (fun t ht hW => ⟨⟨S_15, rfl, hw, by rw [ht]; exact hP, va_K.moved hW.alike hK, hD⟩, hS.F ht⟩) hS.2.2 dX12_happens_122
    · have hw := hc_2t c_2
      clear hc_2t hc_2f
      exact W.vret hx hb hr (fun t ht hW => ⟨⟨S, rfl, hw, by rw [ht]; exact hP, va_K.moved hW.alike hK, hD⟩, hS.F ht⟩) hS.2.2 dX12_happens_35
  · have hw := hc_1t c_1
    clear hc_1t hc_1f
    refine lv_aload_n hx hb dX12_happens_8 rfl (lv_at hl 0 rfl) ?_
    refine va_get (D := D) (ci := 11) (v := .ref (h 0)) (C := RX12) (T := TX12) (N := 31) hx hb hts hin hown hK hP 0 rfl rfl 0 (by decide) w7 (fun _ h9 => h9) rfl dX12_happens_9 ?_
    refine lv_bipush (v := 7) hx hb dX12_happens_12 (by decide) ?_
    refine k_iald (f := (ms_a S)) (j := 7) hx hb hK hP 1 0 rfl rfl (by decide +kernel) rfl dX12_happens_14 ?_
    refine lv_sipush (v := 9999) hx hb dX12_happens_15 (by decide) ?_
    obtain ⟨hc_18t, hc_18f⟩ := hw
    refine lv_icmp_ge (tgt := 25) hx hb dX12_happens_18 (by decide) (fun c_18 => ?_) (fun c_18 => ?_)
    · have hw := hc_18t c_18
      clear hc_18t hc_18f
      exact W.vret hx hb hr (fun t ht hW => ⟨⟨S, rfl, hw, by rw [ht]; exact hP, va_K.moved hW.alike hK, hD⟩, hS.F ht⟩) hS.2.2 dX12_happens_25
    · have hw := hc_18f c_18
      clear hc_18t hc_18f
      refine lv_aload_n hx hb dX12_happens_21 rfl (lv_at hl 0 rfl) ?_
      refine k_callVv (As := []) (rest := []) ⟨hx, hb, hml, hown, hts⟩ (cM_pass l D h cy _ _ hw) (cwV 0 hts gX12_happens_X12_pass rfl rfl rfl (by decide +kernel) ⟨Nat.le_of_ble_eq_true rfl, Nat.le_of_ble_eq_true rfl⟩) (va_recv hK hP (ci := 11) (q0 := 0) rfl rfl) hK hP hD hS hA rfl hl.1 rfl (Nat.le_of_ble_eq_true rfl) dX12_happens_22 ⟨Nat.zero_le _, Nat.zero_le _⟩ (fun S_20 H locs hw hP hD hS => ?_)
      exact W.vret hx hb hr (fun t ht hW => ⟨⟨S_20, rfl, hw, by rw [ht]; exact hP, va_K.moved hW.alike hK, hD⟩, hS.F ht⟩) hS.2.2 dX12_happens_25
def wM_decades_43 (post : Int32 → MS → Prop) : Nat → Int32 → Int32 → MS → Prop
  | 0, _, _, _ => False
  | n + 1, x2, x3, S => ((x2 ≤ x3 → post ((ms_a S) 7) S) ∧ (¬ (x2 ≤ x3) → wM_anew S (fun S_3 => wM_happens ((ms_a S) 8) S_3 (fun S_5 => wM_decades_43 post n x2 (x3 + 1) S_5))))
def wM_decades (p1 : Int32) (p2 : Int32) (S : MS) (post : Int32 → MS → Prop) : Prop := wM_isIn p1 0 9999 S (fun r_1 S_2 => ((r_1 = 0 → post (-1) S_2) ∧ (¬ (r_1 = 0) → wM_isIn p2 1 40 S_2 (fun r_4 S_5 => ((r_4 = 0 → post (-1) S_5) ∧ (¬ (r_4 = 0) → wM_keep S_5 (fun S_8 => (∀ S_9 : MS, S_9 = (ms_set_a S_8 (upd (ms_a S_8) 8 ((p1 * 2) + 179))) → ∃ k_ : Nat, wM_decades_43 post k_ p2 0 S_9))))))))
set_option maxHeartbeats 4000000 in
set_option maxRecDepth 100000 in
theorem cM_decades (l : Launch) (D : va_G) (h : Nat → Nat) (cy : Nat → ClassId) (p1 : Int32) (p2 : Int32) (S : MS) (post : Int32 → MS → Prop) (hw : wM_decades p1 p2 S post) : k_Mi l yX12_decades wsX12_decades { frames := 8, cells := 0, slots := 0, locals := 190 } D (tyM cy) (wM h cy) [.ref (h 31), .int p1, .int p2] S post := by
  intro sz
  refine Met.ofW (cc := cX12_decades) (maxL := 5) (ret := (some .int)) (by decide) rfl ?_
  intro p e s m args below meth c s₁ B hml hv
  obtain ⟨rfl, hsz, hP, hK, hD0⟩ := hv
  have hx := B.exec
  have hb := B.bytes
  have hr := B.returns
  have hts := atoms_spec (ws := wsX12_decades) B.pre
  have hown : s.vm.findClass RX12 = some m.cls := findClass_of_methodNamed B.named
  have hlocks := B.notSynchronized
  subst hsz
  have hD := hD0.self (sz := s.heap.size)
  generalize hAe : va_A (wM h cy S) s.heap.size = A at hD ⊢
  have hA : ∀ q : Nat, s.heap.size ≤ q → A q := fun q h => by rw [← hAe]; exact Or.inr h
  have hS : va_S A s.heap s.heap [] := va_S.rf
  have hin : ∀ w ∈ wsX120, w ∈ wsX12_decades := fun _ h => List.mem_cons_of_mem _ (List.mem_append_right _ h)
  have w7 := hts (.fieldLink RX12 7 "ClownsMournModel" "a" "[I") (List.mem_of_getElem? (i := 1) rfl)
  have hl := lv_entry ([.ref (h 31), .int p1, .int p2]) (n := 5) (Nat.le_of_ble_eq_true rfl)
  rw [lg_entry_eq]
  generalize (lg_sl ([.ref (h 31), .int p1, .int p2]) ++ List.replicate (5 - (lg_sl ([.ref (h 31), .int p1, .int p2])).length) Slot.unset).toArray = ls at hl ⊢
  have hl : lv_has ls 5 [(0, .ref (h 31)), (1, .int p1), (2, .int p2)] := hl
  unfold wM_decades at hw
  clear hD0
  have L_43 : ∀ (n43 : Nat) (x2 : Int32) (x3 : Int32) (S : MS) (H : Heap) (locs : List Loc) (ls : Array Slot), wM_decades_43 post n43 x2 x3 S → va_P D vwCl (wM h cy S) H → va_D A (wM h cy S) → va_S A s.heap H locs → lv_has ls 5 [(0, .ref (h 31)), (2, .int x2), (3, .int x3)] → W p l e (headSpec wsX12_decades { frames := 8, cells := 0, slots := 0, locals := 190 }).room s m (([.ref (h 31), .int p1, .int p2] : List Value).toArray) below meth c H locs 0 0 (MQ below (va_Qi post (k_Post D (tyM cy) (wM h cy) A) A) (([.ref (h 31), .int p1, .int p2] : List Value).toArray) s 0 0 A) (F0 m 43 ls []) := by
    intro n43
    induction n43 with
    | zero => intro x2 x3 S H locs ls hw; exact False.elim hw
    | succ n43 ih_43 =>
      intro x2 x3 S H locs ls hw hP hD hS hl
      unfold wM_decades_43 at hw
      refine lv_iload_n hx hb dX12_decades_43 rfl (lv_at hl 2 rfl) ?_
      refine lv_iload_n hx hb dX12_decades_44 rfl (lv_at hl 1 rfl) ?_
      obtain ⟨hc_1t, hc_1f⟩ := hw
      refine lv_icmp_ge (tgt := 73) hx hb dX12_decades_45 (by decide) (fun c_1 => ?_) (fun c_1 => ?_)
      · have hw := hc_1t c_1
        clear hc_1t hc_1f
        refine lv_aload_n hx hb dX12_decades_73 rfl (lv_at hl 0 rfl) ?_
        refine va_get (D := D) (ci := 11) (v := .ref (h 0)) (C := RX12) (T := TX12) (N := 31) hx hb hts hin hown hK hP 0 rfl rfl 0 (by decide) w7 (fun _ h9 => h9) rfl dX12_decades_74 ?_
        refine lv_bipush (v := 7) hx hb dX12_decades_77 (by decide) ?_
        refine k_iald (f := (ms_a S)) (j := 7) hx hb hK hP 1 0 rfl rfl (by decide +kernel) rfl dX12_decades_79 ?_
        exact W.iret (v := (ms_a S) 7) hx hb hr (fun t ht hW => ⟨⟨(ms_a S) 7, S, rfl, hw, by rw [ht]; exact hP, va_K.moved hW.alike hK, hD⟩, hS.F ht⟩) hS.2.2 dX12_decades_80
      · have hw := hc_1f c_1
        clear hc_1t hc_1f
        refine lv_aload_n hx hb dX12_decades_48 rfl (lv_at hl 0 rfl) ?_
        refine va_get (D := D) (ci := 11) (v := .ref (h 0)) (C := RX12) (T := TX12) (N := 31) hx hb hts hin hown hK hP 0 rfl rfl 0 (by decide) w7 (fun _ h9 => h9) rfl dX12_decades_49 ?_
        refine lv_bipush (v := 8) hx hb dX12_decades_52 (by decide) ?_
        refine k_iald (f := (ms_a S)) (j := 8) hx hb hK hP 1 0 rfl rfl (by decide +kernel) rfl dX12_decades_54 ?_
        refine lv_istore (lv' := [(4, .int ((ms_a S) 8)), (0, .ref (h 31)), (2, .int x2), (3, .int x3)]) hx hb dX12_decades_55 hl (by decide) rfl (fun ls hl => ?_)
        refine lv_aload_n hx hb dX12_decades_57 rfl (lv_at hl 1 rfl) ?_
        refine k_callVv (As := []) (rest := []) ⟨hx, hb, hml, hown, hts⟩ (cM_anew l D h cy _ _ hw) (cwV 0 hts gX12_decades_X12_anew rfl rfl rfl (by decide +kernel) ⟨Nat.le_of_ble_eq_true rfl, Nat.le_of_ble_eq_true rfl⟩) (va_recv hK hP (ci := 11) (q0 := 0) rfl rfl) hK hP hD hS hA rfl hl.1 rfl (Nat.le_of_ble_eq_true rfl) dX12_decades_58 ⟨Nat.zero_le _, Nat.zero_le _⟩ (fun S_3 H locs hw hP hD hS => ?_)
        refine lv_aload_n hx hb dX12_decades_61 rfl (lv_at hl 1 rfl) ?_
        refine lv_iload hx hb dX12_decades_62 (lv_at hl 0 rfl) ?_
        refine k_callVv (As := [.int ((ms_a S) 8)]) (rest := []) ⟨hx, hb, hml, hown, hts⟩ (cM_happens l D h cy _ _ _ hw) (cwV 1 hts gX12_decades_X12_happens rfl rfl rfl (by decide +kernel) ⟨Nat.le_of_ble_eq_true rfl, Nat.le_of_ble_eq_true rfl⟩) (va_recv hK hP (ci := 11) (q0 := 0) rfl rfl) hK hP hD hS hA rfl hl.1 rfl (Nat.le_of_ble_eq_true rfl) dX12_decades_64 ⟨Nat.zero_le _, Nat.zero_le _⟩ (fun S_5 H locs hw hP hD hS => ?_)
        refine lv_iinc (v := x3 + 1) (lv' := [(3, .int (x3 + 1)), (4, .int ((ms_a S) 8)), (0, .ref (h 31)), (2, .int x2)]) hx hb dX12_decades_67 hl (k := 3) rfl (k_inc (by decide)) (by decide) rfl (fun ls hl => ?_)
        refine lv_goto (tgt := 43) hx hb dX12_decades_70 (by decide) ?_
        exact ih_43 x2 (x3 + 1) S_5 _ _ _ hw hP hD hS (lv_sub hl [2, 3, 0] rfl)
  refine lv_iload_n hx hb dX12_decades_0 rfl (lv_at hl 1 rfl) ?_
  refine lv_iconst (v := 0) hx hb dX12_decades_1 (by decide) ?_
  refine lv_sipush (v := 9999) hx hb dX12_decades_2 (by decide) ?_
  refine k_callSi (As := [.int p1, .int 0, .int 9999]) (rest := []) ⟨hx, hb, hml, hown, hts⟩ (cM_isIn l D h cy _ _ _ _ _ hw) (va_cwS 3 hts gX12_decades_X12_isIn rfl rfl rfl (by decide +kernel) ⟨Nat.le_of_ble_eq_true rfl, Nat.le_of_ble_eq_true rfl⟩) hK hP hD hS hA rfl hl.1 rfl (Nat.le_of_ble_eq_true rfl) dX12_decades_5 ⟨Nat.zero_le _, Nat.zero_le _⟩ (fun r_6 S_7 H locs hw hP hD hS => ?_)
  obtain ⟨hc_8t, hc_8f⟩ := hw
  refine lv_if_eq (tgt := 21) hx hb dX12_decades_8 (by decide) (fun c_8 => ?_) (fun c_8 => ?_)
  · have hw := hc_8t c_8
    clear hc_8t hc_8f
    refine lv_iconst (v := (-1)) hx hb dX12_decades_21 (by decide) ?_
    exact W.iret (v := (-1)) hx hb hr (fun t ht hW => ⟨⟨(-1), S_7, rfl, hw, by rw [ht]; exact hP, va_K.moved hW.alike hK, hD⟩, hS.F ht⟩) hS.2.2 dX12_decades_22
  · have hw := hc_8f c_8
    clear hc_8t hc_8f
    refine lv_iload_n hx hb dX12_decades_11 rfl (lv_at hl 2 rfl) ?_
    refine lv_iconst (v := 1) hx hb dX12_decades_12 (by decide) ?_
    refine lv_bipush (v := 40) hx hb dX12_decades_13 (by decide) ?_
    refine k_callSi (As := [.int p2, .int 1, .int 40]) (rest := []) ⟨hx, hb, hml, hown, hts⟩ (cM_isIn l D h cy _ _ _ _ _ hw) (va_cwS 3 hts gX12_decades_X12_isIn rfl rfl rfl (by decide +kernel) ⟨Nat.le_of_ble_eq_true rfl, Nat.le_of_ble_eq_true rfl⟩) hK hP hD hS hA rfl hl.1 rfl (Nat.le_of_ble_eq_true rfl) dX12_decades_15 ⟨Nat.zero_le _, Nat.zero_le _⟩ (fun r_9 S_10 H locs hw hP hD hS => ?_)
    obtain ⟨hc_11t, hc_11f⟩ := hw
    refine lv_if_ne (tgt := 23) hx hb dX12_decades_18 (by decide) (fun c_11 => ?_) (fun c_11 => ?_)
    · have hw := hc_11f c_11
      clear hc_11t hc_11f
      refine lv_aload_n hx hb dX12_decades_23 rfl (lv_at hl 0 rfl) ?_
      refine k_callVv (As := []) (rest := []) ⟨hx, hb, hml, hown, hts⟩ (cM_keep l D h cy _ _ hw) (cwV 0 hts gX12_decades_X12_keep rfl rfl rfl (by decide +kernel) ⟨Nat.le_of_ble_eq_true rfl, Nat.le_of_ble_eq_true rfl⟩) (va_recv hK hP (ci := 11) (q0 := 0) rfl rfl) hK hP hD hS hA rfl hl.1 rfl (Nat.le_of_ble_eq_true rfl) dX12_decades_24 ⟨Nat.zero_le _, Nat.zero_le _⟩ (fun S_13 H locs hw hP hD hS => ?_)
      refine lv_aload_n hx hb dX12_decades_27 rfl (lv_at hl 0 rfl) ?_
      refine va_get (D := D) (ci := 11) (v := .ref (h 0)) (C := RX12) (T := TX12) (N := 31) hx hb hts hin hown hK hP 0 rfl rfl 0 (by decide) w7 (fun _ h9 => h9) rfl dX12_decades_28 ?_
      refine lv_bipush (v := 8) hx hb dX12_decades_31 (by decide) ?_
      refine lv_iload_n hx hb dX12_decades_33 rfl (lv_at hl 1 rfl) ?_
      refine lv_iconst (v := 2) hx hb dX12_decades_34 (by decide) ?_
      refine lv_imul hx hb dX12_decades_35 ?_
      refine lv_sipush (v := 179) hx hb dX12_decades_36 (by decide) ?_
      refine lv_iadd hx hb dX12_decades_39 ?_
      refine k_iast (f := (ms_a S_13)) (j := 8) hx hb hK hP hD hS 1 0 rfl rfl (by decide +kernel) rfl dX12_decades_40 (fun H locs hP hD hS => ?_)
      obtain ⟨S_14, eS_14⟩ : ∃ z : MS, z = (ms_set_a S_13 (upd (ms_a S_13) 8 ((p1 * 2) + 179))) := ⟨_, rfl⟩
      have hw := hw S_14 eS_14
      have hP : va_P D vwCl (wM h cy S_14) H := by rw [eS_14, ← wMs_a]; exact hP
      have hD : va_D A (wM h cy S_14) := by rw [eS_14, ← wMs_a]; exact hD
      refine lv_iconst (v := 0) hx hb dX12_decades_41 (by decide) ?_
      refine lv_istore_n (lv' := [(3, .int 0), (0, .ref (h 31)), (1, .int p1), (2, .int p2)]) hx hb dX12_decades_42 rfl hl (by decide) rfl (fun ls hl => ?_)
      obtain ⟨n_43, hw⟩ := hw
      exact L_43 n_43 p2 0 S_14 _ _ _ hw hP hD hS (lv_sub hl [1, 3, 0] rfl)
    · have hw := hc_11t c_11
      clear hc_11t hc_11f
      refine lv_iconst (v := (-1)) hx hb dX12_decades_21 (by decide) ?_
      exact W.iret (v := (-1)) hx hb hr (fun t ht hW => ⟨⟨(-1), S_10, rfl, hw, by rw [ht]; exact hP, va_K.moved hW.alike hK, hD⟩, hS.F ht⟩) hS.2.2 dX12_decades_22
def wM_of (p1 : Int32) (p2 : Int32) (S : MS) (post : Int32 → MS → Prop) : Prop := wM_isHouse p1 S (fun r_1 S_2 => ((r_1 = 0 → post (-2) S_2) ∧ (¬ (r_1 = 0) → ((p2 = 0 → wM_get p1 4 S_2 (fun r_4 S_5 => post r_4 S_5)) ∧ (p2 = 1 → wM_get p1 0 S_2 (fun r_7 S_8 => post r_7 S_8)) ∧ (p2 = 2 → wM_get p1 1 S_2 (fun r_10 S_11 => post r_10 S_11)) ∧ (p2 = 3 → wM_get p1 2 S_2 (fun r_13 S_14 => post r_13 S_14)) ∧ (p2 = 4 → wM_get p1 3 S_2 (fun r_16 S_17 => post r_16 S_17)) ∧ (p2 = 5 → wM_growsOf ((ms_a S_2) 3) p1 S_2 (fun r_19 S_20 => post r_19 S_20)) ∧ (p2 = 6 → wM_thereAt p1 S_2 (fun r_22 S_23 => post r_22 S_23)) ∧ (¬ p2 = 0 → ¬ p2 = 1 → ¬ p2 = 2 → ¬ p2 = 3 → ¬ p2 = 4 → ¬ p2 = 5 → ¬ p2 = 6 → post (-2) S_2)))))
set_option maxHeartbeats 4000000 in
set_option maxRecDepth 100000 in
theorem cM_of (l : Launch) (D : va_G) (h : Nat → Nat) (cy : Nat → ClassId) (p1 : Int32) (p2 : Int32) (S : MS) (post : Int32 → MS → Prop) (hw : wM_of p1 p2 S post) : k_Mi l yX12_of wsX12_of { frames := 5, cells := 0, slots := 0, locals := 121 } D (tyM cy) (wM h cy) [.ref (h 31), .int p1, .int p2] S post := by
  intro sz
  refine Met.ofW (cc := cX12_of) (maxL := 3) (ret := (some .int)) (by decide) rfl ?_
  intro p e s m args below meth c s₁ B hml hv
  obtain ⟨rfl, hsz, hP, hK, hD0⟩ := hv
  have hx := B.exec
  have hb := B.bytes
  have hr := B.returns
  have hts := atoms_spec (ws := wsX12_of) B.pre
  have hown : s.vm.findClass RX12 = some m.cls := findClass_of_methodNamed B.named
  have hlocks := B.notSynchronized
  subst hsz
  have hD := hD0.self (sz := s.heap.size)
  generalize hAe : va_A (wM h cy S) s.heap.size = A at hD ⊢
  have hA : ∀ q : Nat, s.heap.size ≤ q → A q := fun q h => by rw [← hAe]; exact Or.inr h
  have hS : va_S A s.heap s.heap [] := va_S.rf
  have hin : ∀ w ∈ wsX120, w ∈ wsX12_of := fun _ h => List.mem_cons_of_mem _ (List.mem_append_right _ h)
  have w7 := hts (.fieldLink RX12 7 "ClownsMournModel" "a" "[I") (List.mem_of_getElem? (i := 1) rfl)
  have hl := lv_entry ([.ref (h 31), .int p1, .int p2]) (n := 3) (Nat.le_of_ble_eq_true rfl)
  rw [lg_entry_eq]
  generalize (lg_sl ([.ref (h 31), .int p1, .int p2]) ++ List.replicate (3 - (lg_sl ([.ref (h 31), .int p1, .int p2])).length) Slot.unset).toArray = ls at hl ⊢
  have hl : lv_has ls 3 [(0, .ref (h 31)), (1, .int p1), (2, .int p2)] := hl
  unfold wM_of at hw
  clear hD0
  refine lv_aload_n hx hb dX12_of_0 rfl (lv_at hl 0 rfl) ?_
  refine lv_iload_n hx hb dX12_of_1 rfl (lv_at hl 1 rfl) ?_
  refine k_callVi (As := [.int p1]) (rest := []) ⟨hx, hb, hml, hown, hts⟩ (cM_isHouse l D h cy _ _ _ hw) (cwV 1 hts gX12_of_X12_isHouse rfl rfl rfl (by decide +kernel) ⟨Nat.le_of_ble_eq_true rfl, Nat.le_of_ble_eq_true rfl⟩) (va_recv hK hP (ci := 11) (q0 := 0) rfl rfl) hK hP hD hS hA rfl hl.1 rfl (Nat.le_of_ble_eq_true rfl) dX12_of_2 ⟨Nat.zero_le _, Nat.zero_le _⟩ (fun r_1 S_2 H locs hw hP hD hS => ?_)
  obtain ⟨hc_3t, hc_3f⟩ := hw
  refine lv_if_ne (tgt := 11) hx hb dX12_of_5 (by decide) (fun c_3 => ?_) (fun c_3 => ?_)
  · have hw := hc_3f c_3
    clear hc_3t hc_3f
    refine lv_iload_n hx hb dX12_of_11 rfl (lv_at hl 2 rfl) ?_
    obtain ⟨hc_6, hw⟩ := hw
    by_cases c_6 : p2 = 0
    · have hw := hc_6 c_6
      refine lv_tableIn (off := 44) (tgt := 56) hx hb dX12_of_12 (by rw [c_6]; decide) (by rw [c_6]; decide) (by rw [c_6]; rfl) (by decide) ?_
      refine lv_aload_n hx hb dX12_of_56 rfl (lv_at hl 0 rfl) ?_
      refine lv_iload_n hx hb dX12_of_57 rfl (lv_at hl 1 rfl) ?_
      refine lv_iconst (v := 4) hx hb dX12_of_58 (by decide) ?_
      refine k_callVi (As := [.int p1, .int 4]) (rest := []) ⟨hx, hb, hml, hown, hts⟩ (cM_get l D h cy _ _ _ _ hw) (cwV 2 hts gX12_of_X12_get rfl rfl rfl (by decide +kernel) ⟨Nat.le_of_ble_eq_true rfl, Nat.le_of_ble_eq_true rfl⟩) (va_recv hK hP (ci := 11) (q0 := 0) rfl rfl) hK hP hD hS hA rfl hl.1 rfl (Nat.le_of_ble_eq_true rfl) dX12_of_59 ⟨Nat.zero_le _, Nat.zero_le _⟩ (fun r_4 S_5 H locs hw hP hD hS => ?_)
      exact W.iret (v := r_4) hx hb hr (fun t ht hW => ⟨⟨r_4, S_5, rfl, hw, by rw [ht]; exact hP, va_K.moved hW.alike hK, hD⟩, hS.F ht⟩) hS.2.2 dX12_of_62
    obtain ⟨hc_9, hw⟩ := hw
    by_cases c_9 : p2 = 1
    · have hw := hc_9 c_9
      refine lv_tableIn (off := 51) (tgt := 63) hx hb dX12_of_12 (by rw [c_9]; decide) (by rw [c_9]; decide) (by rw [c_9]; rfl) (by decide) ?_
      refine lv_aload_n hx hb dX12_of_63 rfl (lv_at hl 0 rfl) ?_
      refine lv_iload_n hx hb dX12_of_64 rfl (lv_at hl 1 rfl) ?_
      refine lv_iconst (v := 0) hx hb dX12_of_65 (by decide) ?_
      refine k_callVi (As := [.int p1, .int 0]) (rest := []) ⟨hx, hb, hml, hown, hts⟩ (cM_get l D h cy _ _ _ _ hw) (cwV 2 hts gX12_of_X12_get rfl rfl rfl (by decide +kernel) ⟨Nat.le_of_ble_eq_true rfl, Nat.le_of_ble_eq_true rfl⟩) (va_recv hK hP (ci := 11) (q0 := 0) rfl rfl) hK hP hD hS hA rfl hl.1 rfl (Nat.le_of_ble_eq_true rfl) dX12_of_66 ⟨Nat.zero_le _, Nat.zero_le _⟩ (fun r_7 S_8 H locs hw hP hD hS => ?_)
      exact W.iret (v := r_7) hx hb hr (fun t ht hW => ⟨⟨r_7, S_8, rfl, hw, by rw [ht]; exact hP, va_K.moved hW.alike hK, hD⟩, hS.F ht⟩) hS.2.2 dX12_of_69
    obtain ⟨hc_12, hw⟩ := hw
    by_cases c_12 : p2 = 2
    · have hw := hc_12 c_12
      refine lv_tableIn (off := 58) (tgt := 70) hx hb dX12_of_12 (by rw [c_12]; decide) (by rw [c_12]; decide) (by rw [c_12]; rfl) (by decide) ?_
      refine lv_aload_n hx hb dX12_of_70 rfl (lv_at hl 0 rfl) ?_
      refine lv_iload_n hx hb dX12_of_71 rfl (lv_at hl 1 rfl) ?_
      refine lv_iconst (v := 1) hx hb dX12_of_72 (by decide) ?_
      refine k_callVi (As := [.int p1, .int 1]) (rest := []) ⟨hx, hb, hml, hown, hts⟩ (cM_get l D h cy _ _ _ _ hw) (cwV 2 hts gX12_of_X12_get rfl rfl rfl (by decide +kernel) ⟨Nat.le_of_ble_eq_true rfl, Nat.le_of_ble_eq_true rfl⟩) (va_recv hK hP (ci := 11) (q0 := 0) rfl rfl) hK hP hD hS hA rfl hl.1 rfl (Nat.le_of_ble_eq_true rfl) dX12_of_73 ⟨Nat.zero_le _, Nat.zero_le _⟩ (fun r_10 S_11 H locs hw hP hD hS => ?_)
      exact W.iret (v := r_10) hx hb hr (fun t ht hW => ⟨⟨r_10, S_11, rfl, hw, by rw [ht]; exact hP, va_K.moved hW.alike hK, hD⟩, hS.F ht⟩) hS.2.2 dX12_of_76
    obtain ⟨hc_15, hw⟩ := hw
    by_cases c_15 : p2 = 3
    · have hw := hc_15 c_15
      refine lv_tableIn (off := 65) (tgt := 77) hx hb dX12_of_12 (by rw [c_15]; decide) (by rw [c_15]; decide) (by rw [c_15]; rfl) (by decide) ?_
      refine lv_aload_n hx hb dX12_of_77 rfl (lv_at hl 0 rfl) ?_
      refine lv_iload_n hx hb dX12_of_78 rfl (lv_at hl 1 rfl) ?_
      refine lv_iconst (v := 2) hx hb dX12_of_79 (by decide) ?_
      refine k_callVi (As := [.int p1, .int 2]) (rest := []) ⟨hx, hb, hml, hown, hts⟩ (cM_get l D h cy _ _ _ _ hw) (cwV 2 hts gX12_of_X12_get rfl rfl rfl (by decide +kernel) ⟨Nat.le_of_ble_eq_true rfl, Nat.le_of_ble_eq_true rfl⟩) (va_recv hK hP (ci := 11) (q0 := 0) rfl rfl) hK hP hD hS hA rfl hl.1 rfl (Nat.le_of_ble_eq_true rfl) dX12_of_80 ⟨Nat.zero_le _, Nat.zero_le _⟩ (fun r_13 S_14 H locs hw hP hD hS => ?_)
      exact W.iret (v := r_13) hx hb hr (fun t ht hW => ⟨⟨r_13, S_14, rfl, hw, by rw [ht]; exact hP, va_K.moved hW.alike hK, hD⟩, hS.F ht⟩) hS.2.2 dX12_of_83
    obtain ⟨hc_18, hw⟩ := hw
    by_cases c_18 : p2 = 4
    · have hw := hc_18 c_18
      refine lv_tableIn (off := 72) (tgt := 84) hx hb dX12_of_12 (by rw [c_18]; decide) (by rw [c_18]; decide) (by rw [c_18]; rfl) (by decide) ?_
      refine lv_aload_n hx hb dX12_of_84 rfl (lv_at hl 0 rfl) ?_
      refine lv_iload_n hx hb dX12_of_85 rfl (lv_at hl 1 rfl) ?_
      refine lv_iconst (v := 3) hx hb dX12_of_86 (by decide) ?_
      refine k_callVi (As := [.int p1, .int 3]) (rest := []) ⟨hx, hb, hml, hown, hts⟩ (cM_get l D h cy _ _ _ _ hw) (cwV 2 hts gX12_of_X12_get rfl rfl rfl (by decide +kernel) ⟨Nat.le_of_ble_eq_true rfl, Nat.le_of_ble_eq_true rfl⟩) (va_recv hK hP (ci := 11) (q0 := 0) rfl rfl) hK hP hD hS hA rfl hl.1 rfl (Nat.le_of_ble_eq_true rfl) dX12_of_87 ⟨Nat.zero_le _, Nat.zero_le _⟩ (fun r_16 S_17 H locs hw hP hD hS => ?_)
      exact W.iret (v := r_16) hx hb hr (fun t ht hW => ⟨⟨r_16, S_17, rfl, hw, by rw [ht]; exact hP, va_K.moved hW.alike hK, hD⟩, hS.F ht⟩) hS.2.2 dX12_of_90
    obtain ⟨hc_21, hw⟩ := hw
    by_cases c_21 : p2 = 5
    · have hw := hc_21 c_21
      refine lv_tableIn (off := 79) (tgt := 91) hx hb dX12_of_12 (by rw [c_21]; decide) (by rw [c_21]; decide) (by rw [c_21]; rfl) (by decide) ?_
      refine lv_aload_n hx hb dX12_of_91 rfl (lv_at hl 0 rfl) ?_
      refine lv_aload_n hx hb dX12_of_92 rfl (lv_at hl 0 rfl) ?_
      refine va_get (D := D) (ci := 11) (v := .ref (h 0)) (C := RX12) (T := TX12) (N := 31) hx hb hts hin hown hK hP 0 rfl rfl 0 (by decide) w7 (fun _ h9 => h9) rfl dX12_of_93 ?_
      refine lv_iconst (v := 3) hx hb dX12_of_96 (by decide) ?_
      refine k_iald (f := (ms_a S_2)) (j := 3) hx hb hK hP 1 0 rfl rfl (by decide +kernel) rfl dX12_of_97 ?_
      refine lv_iload_n hx hb dX12_of_98 rfl (lv_at hl 1 rfl) ?_
      refine k_callVi (As := [.int ((ms_a S_2) 3), .int p1]) (rest := []) ⟨hx, hb, hml, hown, hts⟩ (cM_growsOf l D h cy _ _ _ _ hw) (cwV 2 hts gX12_of_X12_growsOf rfl rfl rfl (by decide +kernel) ⟨Nat.le_of_ble_eq_true rfl, Nat.le_of_ble_eq_true rfl⟩) (va_recv hK hP (ci := 11) (q0 := 0) rfl rfl) hK hP hD hS hA rfl hl.1 rfl (Nat.le_of_ble_eq_true rfl) dX12_of_99 ⟨Nat.zero_le _, Nat.zero_le _⟩ (fun r_19 S_20 H locs hw hP hD hS => ?_)
      exact W.iret (v := r_19) hx hb hr (fun t ht hW => ⟨⟨r_19, S_20, rfl, hw, by rw [ht]; exact hP, va_K.moved hW.alike hK, hD⟩, hS.F ht⟩) hS.2.2 dX12_of_102
    obtain ⟨hc_24, hw⟩ := hw
    by_cases c_24 : p2 = 6
    · have hw := hc_24 c_24
      refine lv_tableIn (off := 91) (tgt := 103) hx hb dX12_of_12 (by rw [c_24]; decide) (by rw [c_24]; decide) (by rw [c_24]; rfl) (by decide) ?_
      refine lv_aload_n hx hb dX12_of_103 rfl (lv_at hl 0 rfl) ?_
      refine lv_iload_n hx hb dX12_of_104 rfl (lv_at hl 1 rfl) ?_
      refine k_callVi (As := [.int p1]) (rest := []) ⟨hx, hb, hml, hown, hts⟩ (cM_thereAt l D h cy _ _ _ hw) (cwV 1 hts gX12_of_X12_thereAt rfl rfl rfl (by decide +kernel) ⟨Nat.le_of_ble_eq_true rfl, Nat.le_of_ble_eq_true rfl⟩) (va_recv hK hP (ci := 11) (q0 := 0) rfl rfl) hK hP hD hS hA rfl hl.1 rfl (Nat.le_of_ble_eq_true rfl) dX12_of_105 ⟨Nat.zero_le _, Nat.zero_le _⟩ (fun r_22 S_23 H locs hw hP hD hS => ?_)
      exact W.iret (v := r_22) hx hb hr (fun t ht hW => ⟨⟨r_22, S_23, rfl, hw, by rw [ht]; exact hP, va_K.moved hW.alike hK, hD⟩, hS.F ht⟩) hS.2.2 dX12_of_108
    have hw := hw c_6 c_9 c_12 c_15 c_18 c_21 c_24
    have c_6n := lv_neT c_6 (a := 0) (by decide)
    have c_9n := lv_neT c_9 (a := 1) (by decide)
    have c_12n := lv_neT c_12 (a := 2) (by decide)
    have c_15n := lv_neT c_15 (a := 3) (by decide)
    have c_18n := lv_neT c_18 (a := 4) (by decide)
    have c_21n := lv_neT c_21 (a := 5) (by decide)
    have c_24n := lv_neT c_24 (a := 6) (by decide)
    refine lv_tableOut (tgt := 109) hx hb dX12_of_12 (by omega) (by decide) ?_
    refine lv_bipush (v := (-2)) hx hb dX12_of_109 (by decide) ?_
    exact W.iret (v := (-2)) hx hb hr (fun t ht hW => ⟨⟨(-2), S_2, rfl, hw, by rw [ht]; exact hP, va_K.moved hW.alike hK, hD⟩, hS.F ht⟩) hS.2.2 dX12_of_111
  · have hw := hc_3t c_3
    clear hc_3t hc_3f
    refine lv_bipush (v := (-2)) hx hb dX12_of_8 (by decide) ?_
    exact W.iret (v := (-2)) hx hb hr (fun t ht hW => ⟨⟨(-2), S_2, rfl, hw, by rw [ht]; exact hP, va_K.moved hW.alike hK, hD⟩, hS.F ht⟩) hS.2.2 dX12_of_10
def wM_ofClown (p1 : Int32) (p2 : Int32) (S : MS) (post : Int32 → MS → Prop) : Prop := wM_isClown p1 S (fun r_1 S_2 => ((r_1 = 0 → post (-2) S_2) ∧ (¬ (r_1 = 0) → ((p2 = 0 → wM_own p1 3 S_2 (fun r_4 S_5 => post r_4 S_5)) ∧ (p2 = 1 → wM_own p1 4 S_2 (fun r_7 S_8 => post r_7 S_8)) ∧ (p2 = 2 → wM_own p1 0 S_2 (fun r_10 S_11 => post r_10 S_11)) ∧ (p2 = 3 → wM_own p1 1 S_2 (fun r_13 S_14 => post r_13 S_14)) ∧ (p2 = 4 → wM_own p1 2 S_2 (fun r_16 S_17 => post r_16 S_17)) ∧ (¬ p2 = 0 → ¬ p2 = 1 → ¬ p2 = 2 → ¬ p2 = 3 → ¬ p2 = 4 → post (-2) S_2)))))
set_option maxHeartbeats 4000000 in
set_option maxRecDepth 100000 in
theorem cM_ofClown (l : Launch) (D : va_G) (h : Nat → Nat) (cy : Nat → ClassId) (p1 : Int32) (p2 : Int32) (S : MS) (post : Int32 → MS → Prop) (hw : wM_ofClown p1 p2 S post) : k_Mi l yX12_ofClown wsX12_ofClown { frames := 2, cells := 0, slots := 0, locals := 43 } D (tyM cy) (wM h cy) [.ref (h 31), .int p1, .int p2] S post := by
  intro sz
  refine Met.ofW (cc := cX12_ofClown) (maxL := 3) (ret := (some .int)) (by decide) rfl ?_
  intro p e s m args below meth c s₁ B hml hv
  obtain ⟨rfl, hsz, hP, hK, hD0⟩ := hv
  have hx := B.exec
  have hb := B.bytes
  have hr := B.returns
  have hts := atoms_spec (ws := wsX12_ofClown) B.pre
  have hown : s.vm.findClass RX12 = some m.cls := findClass_of_methodNamed B.named
  have hlocks := B.notSynchronized
  subst hsz
  have hD := hD0.self (sz := s.heap.size)
  generalize hAe : va_A (wM h cy S) s.heap.size = A at hD ⊢
  have hA : ∀ q : Nat, s.heap.size ≤ q → A q := fun q h => by rw [← hAe]; exact Or.inr h
  have hS : va_S A s.heap s.heap [] := va_S.rf
  have hl := lv_entry ([.ref (h 31), .int p1, .int p2]) (n := 3) (Nat.le_of_ble_eq_true rfl)
  rw [lg_entry_eq]
  generalize (lg_sl ([.ref (h 31), .int p1, .int p2]) ++ List.replicate (3 - (lg_sl ([.ref (h 31), .int p1, .int p2])).length) Slot.unset).toArray = ls at hl ⊢
  have hl : lv_has ls 3 [(0, .ref (h 31)), (1, .int p1), (2, .int p2)] := hl
  unfold wM_ofClown at hw
  clear hD0
  refine lv_aload_n hx hb dX12_ofClown_0 rfl (lv_at hl 0 rfl) ?_
  refine lv_iload_n hx hb dX12_ofClown_1 rfl (lv_at hl 1 rfl) ?_
  refine k_callVi (As := [.int p1]) (rest := []) ⟨hx, hb, hml, hown, hts⟩ (cM_isClown l D h cy _ _ _ hw) (cwV 1 hts gX12_ofClown_X12_isClown rfl rfl rfl (by decide +kernel) ⟨Nat.le_of_ble_eq_true rfl, Nat.le_of_ble_eq_true rfl⟩) (va_recv hK hP (ci := 11) (q0 := 0) rfl rfl) hK hP hD hS hA rfl hl.1 rfl (Nat.le_of_ble_eq_true rfl) dX12_ofClown_2 ⟨Nat.zero_le _, Nat.zero_le _⟩ (fun r_1 S_2 H locs hw hP hD hS => ?_)
  obtain ⟨hc_3t, hc_3f⟩ := hw
  refine lv_if_ne (tgt := 11) hx hb dX12_ofClown_5 (by decide) (fun c_3 => ?_) (fun c_3 => ?_)
  · have hw := hc_3f c_3
    clear hc_3t hc_3f
    refine lv_iload_n hx hb dX12_ofClown_11 rfl (lv_at hl 2 rfl) ?_
    obtain ⟨hc_6, hw⟩ := hw
    by_cases c_6 : p2 = 0
    · have hw := hc_6 c_6
      refine lv_tableIn (off := 36) (tgt := 48) hx hb dX12_ofClown_12 (by rw [c_6]; decide) (by rw [c_6]; decide) (by rw [c_6]; rfl) (by decide) ?_
      refine lv_aload_n hx hb dX12_ofClown_48 rfl (lv_at hl 0 rfl) ?_
      refine lv_iload_n hx hb dX12_ofClown_49 rfl (lv_at hl 1 rfl) ?_
      refine lv_iconst (v := 3) hx hb dX12_ofClown_50 (by decide) ?_
      refine k_callVi (As := [.int p1, .int 3]) (rest := []) ⟨hx, hb, hml, hown, hts⟩ (cM_own l D h cy _ _ _ _ hw) (cwV 2 hts gX12_ofClown_X12_own rfl rfl rfl (by decide +kernel) ⟨Nat.le_of_ble_eq_true rfl, Nat.le_of_ble_eq_true rfl⟩) (va_recv hK hP (ci := 11) (q0 := 0) rfl rfl) hK hP hD hS hA rfl hl.1 rfl (Nat.le_of_ble_eq_true rfl) dX12_ofClown_51 ⟨Nat.zero_le _, Nat.zero_le _⟩ (fun r_4 S_5 H locs hw hP hD hS => ?_)
      exact W.iret (v := r_4) hx hb hr (fun t ht hW => ⟨⟨r_4, S_5, rfl, hw, by rw [ht]; exact hP, va_K.moved hW.alike hK, hD⟩, hS.F ht⟩) hS.2.2 dX12_ofClown_54
    obtain ⟨hc_9, hw⟩ := hw
    by_cases c_9 : p2 = 1
    · have hw := hc_9 c_9
      refine lv_tableIn (off := 43) (tgt := 55) hx hb dX12_ofClown_12 (by rw [c_9]; decide) (by rw [c_9]; decide) (by rw [c_9]; rfl) (by decide) ?_
      refine lv_aload_n hx hb dX12_ofClown_55 rfl (lv_at hl 0 rfl) ?_
      refine lv_iload_n hx hb dX12_ofClown_56 rfl (lv_at hl 1 rfl) ?_
      refine lv_iconst (v := 4) hx hb dX12_ofClown_57 (by decide) ?_
      refine k_callVi (As := [.int p1, .int 4]) (rest := []) ⟨hx, hb, hml, hown, hts⟩ (cM_own l D h cy _ _ _ _ hw) (cwV 2 hts gX12_ofClown_X12_own rfl rfl rfl (by decide +kernel) ⟨Nat.le_of_ble_eq_true rfl, Nat.le_of_ble_eq_true rfl⟩) (va_recv hK hP (ci := 11) (q0 := 0) rfl rfl) hK hP hD hS hA rfl hl.1 rfl (Nat.le_of_ble_eq_true rfl) dX12_ofClown_58 ⟨Nat.zero_le _, Nat.zero_le _⟩ (fun r_7 S_8 H locs hw hP hD hS => ?_)
      exact W.iret (v := r_7) hx hb hr (fun t ht hW => ⟨⟨r_7, S_8, rfl, hw, by rw [ht]; exact hP, va_K.moved hW.alike hK, hD⟩, hS.F ht⟩) hS.2.2 dX12_ofClown_61
    obtain ⟨hc_12, hw⟩ := hw
    by_cases c_12 : p2 = 2
    · have hw := hc_12 c_12
      refine lv_tableIn (off := 50) (tgt := 62) hx hb dX12_ofClown_12 (by rw [c_12]; decide) (by rw [c_12]; decide) (by rw [c_12]; rfl) (by decide) ?_
      refine lv_aload_n hx hb dX12_ofClown_62 rfl (lv_at hl 0 rfl) ?_
      refine lv_iload_n hx hb dX12_ofClown_63 rfl (lv_at hl 1 rfl) ?_
      refine lv_iconst (v := 0) hx hb dX12_ofClown_64 (by decide) ?_
      refine k_callVi (As := [.int p1, .int 0]) (rest := []) ⟨hx, hb, hml, hown, hts⟩ (cM_own l D h cy _ _ _ _ hw) (cwV 2 hts gX12_ofClown_X12_own rfl rfl rfl (by decide +kernel) ⟨Nat.le_of_ble_eq_true rfl, Nat.le_of_ble_eq_true rfl⟩) (va_recv hK hP (ci := 11) (q0 := 0) rfl rfl) hK hP hD hS hA rfl hl.1 rfl (Nat.le_of_ble_eq_true rfl) dX12_ofClown_65 ⟨Nat.zero_le _, Nat.zero_le _⟩ (fun r_10 S_11 H locs hw hP hD hS => ?_)
      exact W.iret (v := r_10) hx hb hr (fun t ht hW => ⟨⟨r_10, S_11, rfl, hw, by rw [ht]; exact hP, va_K.moved hW.alike hK, hD⟩, hS.F ht⟩) hS.2.2 dX12_ofClown_68
    obtain ⟨hc_15, hw⟩ := hw
    by_cases c_15 : p2 = 3
    · have hw := hc_15 c_15
      refine lv_tableIn (off := 57) (tgt := 69) hx hb dX12_ofClown_12 (by rw [c_15]; decide) (by rw [c_15]; decide) (by rw [c_15]; rfl) (by decide) ?_
      refine lv_aload_n hx hb dX12_ofClown_69 rfl (lv_at hl 0 rfl) ?_
      refine lv_iload_n hx hb dX12_ofClown_70 rfl (lv_at hl 1 rfl) ?_
      refine lv_iconst (v := 1) hx hb dX12_ofClown_71 (by decide) ?_
      refine k_callVi (As := [.int p1, .int 1]) (rest := []) ⟨hx, hb, hml, hown, hts⟩ (cM_own l D h cy _ _ _ _ hw) (cwV 2 hts gX12_ofClown_X12_own rfl rfl rfl (by decide +kernel) ⟨Nat.le_of_ble_eq_true rfl, Nat.le_of_ble_eq_true rfl⟩) (va_recv hK hP (ci := 11) (q0 := 0) rfl rfl) hK hP hD hS hA rfl hl.1 rfl (Nat.le_of_ble_eq_true rfl) dX12_ofClown_72 ⟨Nat.zero_le _, Nat.zero_le _⟩ (fun r_13 S_14 H locs hw hP hD hS => ?_)
      exact W.iret (v := r_13) hx hb hr (fun t ht hW => ⟨⟨r_13, S_14, rfl, hw, by rw [ht]; exact hP, va_K.moved hW.alike hK, hD⟩, hS.F ht⟩) hS.2.2 dX12_ofClown_75
    obtain ⟨hc_18, hw⟩ := hw
    by_cases c_18 : p2 = 4
    · have hw := hc_18 c_18
      refine lv_tableIn (off := 64) (tgt := 76) hx hb dX12_ofClown_12 (by rw [c_18]; decide) (by rw [c_18]; decide) (by rw [c_18]; rfl) (by decide) ?_
      refine lv_aload_n hx hb dX12_ofClown_76 rfl (lv_at hl 0 rfl) ?_
      refine lv_iload_n hx hb dX12_ofClown_77 rfl (lv_at hl 1 rfl) ?_
      refine lv_iconst (v := 2) hx hb dX12_ofClown_78 (by decide) ?_
      refine k_callVi (As := [.int p1, .int 2]) (rest := []) ⟨hx, hb, hml, hown, hts⟩ (cM_own l D h cy _ _ _ _ hw) (cwV 2 hts gX12_ofClown_X12_own rfl rfl rfl (by decide +kernel) ⟨Nat.le_of_ble_eq_true rfl, Nat.le_of_ble_eq_true rfl⟩) (va_recv hK hP (ci := 11) (q0 := 0) rfl rfl) hK hP hD hS hA rfl hl.1 rfl (Nat.le_of_ble_eq_true rfl) dX12_ofClown_79 ⟨Nat.zero_le _, Nat.zero_le _⟩ (fun r_16 S_17 H locs hw hP hD hS => ?_)
      exact W.iret (v := r_16) hx hb hr (fun t ht hW => ⟨⟨r_16, S_17, rfl, hw, by rw [ht]; exact hP, va_K.moved hW.alike hK, hD⟩, hS.F ht⟩) hS.2.2 dX12_ofClown_82
    have hw := hw c_6 c_9 c_12 c_15 c_18
    have c_6n := lv_neT c_6 (a := 0) (by decide)
    have c_9n := lv_neT c_9 (a := 1) (by decide)
    have c_12n := lv_neT c_12 (a := 2) (by decide)
    have c_15n := lv_neT c_15 (a := 3) (by decide)
    have c_18n := lv_neT c_18 (a := 4) (by decide)
    refine lv_tableOut (tgt := 83) hx hb dX12_ofClown_12 (by omega) (by decide) ?_
    refine lv_bipush (v := (-2)) hx hb dX12_ofClown_83 (by decide) ?_
    exact W.iret (v := (-2)) hx hb hr (fun t ht hW => ⟨⟨(-2), S_2, rfl, hw, by rw [ht]; exact hP, va_K.moved hW.alike hK, hD⟩, hS.F ht⟩) hS.2.2 dX12_ofClown_85
  · have hw := hc_3t c_3
    clear hc_3t hc_3f
    refine lv_bipush (v := (-2)) hx hb dX12_ofClown_8 (by decide) ?_
    exact W.iret (v := (-2)) hx hb hr (fun t ht hW => ⟨⟨(-2), S_2, rfl, hw, by rw [ht]; exact hP, va_K.moved hW.alike hK, hD⟩, hS.F ht⟩) hS.2.2 dX12_ofClown_10
def wM_eased (p1 : Int32) (p2 : Int32) (S : MS) (post : Int32 → MS → Prop) : Prop := wM_isAtHouse p1 S (fun r_1 S_2 => ((r_1 = 0 → post (-1) S_2) ∧ (¬ (r_1 = 0) → wM_isKind p2 S_2 (fun r_4 S_5 => ((r_4 = 0 → post (-1) S_5) ∧ (¬ (r_4 = 0) → wM_easesOf p1 p2 S_5 (fun r_7 S_8 => post r_7 S_8)))))))
set_option maxHeartbeats 4000000 in
set_option maxRecDepth 100000 in
theorem cM_eased (l : Launch) (D : va_G) (h : Nat → Nat) (cy : Nat → ClassId) (p1 : Int32) (p2 : Int32) (S : MS) (post : Int32 → MS → Prop) (hw : wM_eased p1 p2 S post) : k_Mi l yX12_eased wsX12_eased { frames := 5, cells := 0, slots := 0, locals := 121 } D (tyM cy) (wM h cy) [.ref (h 31), .int p1, .int p2] S post := by
  intro sz
  refine Met.ofW (cc := cX12_eased) (maxL := 3) (ret := (some .int)) (by decide) rfl ?_
  intro p e s m args below meth c s₁ B hml hv
  obtain ⟨rfl, hsz, hP, hK, hD0⟩ := hv
  have hx := B.exec
  have hb := B.bytes
  have hr := B.returns
  have hts := atoms_spec (ws := wsX12_eased) B.pre
  have hown : s.vm.findClass RX12 = some m.cls := findClass_of_methodNamed B.named
  have hlocks := B.notSynchronized
  subst hsz
  have hD := hD0.self (sz := s.heap.size)
  generalize hAe : va_A (wM h cy S) s.heap.size = A at hD ⊢
  have hA : ∀ q : Nat, s.heap.size ≤ q → A q := fun q h => by rw [← hAe]; exact Or.inr h
  have hS : va_S A s.heap s.heap [] := va_S.rf
  have hl := lv_entry ([.ref (h 31), .int p1, .int p2]) (n := 3) (Nat.le_of_ble_eq_true rfl)
  rw [lg_entry_eq]
  generalize (lg_sl ([.ref (h 31), .int p1, .int p2]) ++ List.replicate (3 - (lg_sl ([.ref (h 31), .int p1, .int p2])).length) Slot.unset).toArray = ls at hl ⊢
  have hl : lv_has ls 3 [(0, .ref (h 31)), (1, .int p1), (2, .int p2)] := hl
  unfold wM_eased at hw
  clear hD0
  refine lv_aload_n hx hb dX12_eased_0 rfl (lv_at hl 0 rfl) ?_
  refine lv_iload_n hx hb dX12_eased_1 rfl (lv_at hl 1 rfl) ?_
  refine k_callVi (As := [.int p1]) (rest := []) ⟨hx, hb, hml, hown, hts⟩ (cM_isAtHouse l D h cy _ _ _ hw) (cwV 1 hts gX12_eased_X12_isAtHouse rfl rfl rfl (by decide +kernel) ⟨Nat.le_of_ble_eq_true rfl, Nat.le_of_ble_eq_true rfl⟩) (va_recv hK hP (ci := 11) (q0 := 0) rfl rfl) hK hP hD hS hA rfl hl.1 rfl (Nat.le_of_ble_eq_true rfl) dX12_eased_2 ⟨Nat.zero_le _, Nat.zero_le _⟩ (fun r_1 S_2 H locs hw hP hD hS => ?_)
  obtain ⟨hc_3t, hc_3f⟩ := hw
  refine lv_if_eq (tgt := 24) hx hb dX12_eased_5 (by decide) (fun c_3 => ?_) (fun c_3 => ?_)
  · have hw := hc_3t c_3
    clear hc_3t hc_3f
    refine lv_iconst (v := (-1)) hx hb dX12_eased_24 (by decide) ?_
    exact W.iret (v := (-1)) hx hb hr (fun t ht hW => ⟨⟨(-1), S_2, rfl, hw, by rw [ht]; exact hP, va_K.moved hW.alike hK, hD⟩, hS.F ht⟩) hS.2.2 dX12_eased_25
  · have hw := hc_3f c_3
    clear hc_3t hc_3f
    refine lv_iload_n hx hb dX12_eased_8 rfl (lv_at hl 2 rfl) ?_
    refine k_callSi (As := [.int p2]) (rest := []) ⟨hx, hb, hml, hown, hts⟩ (cM_isKind l D h cy _ _ _ hw) (va_cwS 1 hts gX12_eased_X12_isKind rfl rfl rfl (by decide +kernel) ⟨Nat.le_of_ble_eq_true rfl, Nat.le_of_ble_eq_true rfl⟩) hK hP hD hS hA rfl hl.1 rfl (Nat.le_of_ble_eq_true rfl) dX12_eased_9 ⟨Nat.zero_le _, Nat.zero_le _⟩ (fun r_4 S_5 H locs hw hP hD hS => ?_)
    obtain ⟨hc_6t, hc_6f⟩ := hw
    refine lv_if_eq (tgt := 24) hx hb dX12_eased_12 (by decide) (fun c_6 => ?_) (fun c_6 => ?_)
    · have hw := hc_6t c_6
      clear hc_6t hc_6f
      refine lv_iconst (v := (-1)) hx hb dX12_eased_24 (by decide) ?_
      exact W.iret (v := (-1)) hx hb hr (fun t ht hW => ⟨⟨(-1), S_5, rfl, hw, by rw [ht]; exact hP, va_K.moved hW.alike hK, hD⟩, hS.F ht⟩) hS.2.2 dX12_eased_25
    · have hw := hc_6f c_6
      clear hc_6t hc_6f
      refine lv_aload_n hx hb dX12_eased_15 rfl (lv_at hl 0 rfl) ?_
      refine lv_iload_n hx hb dX12_eased_16 rfl (lv_at hl 1 rfl) ?_
      refine lv_iload_n hx hb dX12_eased_17 rfl (lv_at hl 2 rfl) ?_
      refine k_callVi (As := [.int p1, .int p2]) (rest := []) ⟨hx, hb, hml, hown, hts⟩ (cM_easesOf l D h cy _ _ _ _ hw) (cwV 2 hts gX12_eased_X12_easesOf rfl rfl rfl (by decide +kernel) ⟨Nat.le_of_ble_eq_true rfl, Nat.le_of_ble_eq_true rfl⟩) (va_recv hK hP (ci := 11) (q0 := 0) rfl rfl) hK hP hD hS hA rfl hl.1 rfl (Nat.le_of_ble_eq_true rfl) dX12_eased_18 ⟨Nat.zero_le _, Nat.zero_le _⟩ (fun r_7 S_8 H locs hw hP hD hS => ?_)
      refine lv_goto (tgt := 25) hx hb dX12_eased_21 (by decide) ?_
      exact W.iret (v := r_7) hx hb hr (fun t ht hW => ⟨⟨r_7, S_8, rfl, hw, by rw [ht]; exact hP, va_K.moved hW.alike hK, hD⟩, hS.F ht⟩) hS.2.2 dX12_eased_25
def wM_laughs (p1 : Int32) (p2 : Int32) (S : MS) (post : Int32 → MS → Prop) : Prop := wM_isAtHouse p1 S (fun r_1 S_2 => ((r_1 = 0 → post (-1) S_2) ∧ (¬ (r_1 = 0) → wM_isKind p2 S_2 (fun r_4 S_5 => ((r_4 = 0 → post (-1) S_5) ∧ (¬ (r_4 = 0) → wM_own p1 1 S_5 (fun r_7 S_8 => wM_get r_7 0 S_8 (fun r_9 S_10 => wM_get r_7 1 S_10 (fun r_11 S_12 => wM_comfortNow p1 p2 S_12 (fun S_14 => wM_laughsOf p1 p2 S_14 (fun r_15 S_16 => wM_put r_7 0 r_9 S_16 (fun S_18 => wM_put r_7 1 r_11 S_18 (fun S_20 => post r_15 S_20)))))))))))))
set_option maxHeartbeats 4000000 in
set_option maxRecDepth 100000 in
theorem cM_laughs (l : Launch) (D : va_G) (h : Nat → Nat) (cy : Nat → ClassId) (p1 : Int32) (p2 : Int32) (S : MS) (post : Int32 → MS → Prop) (hw : wM_laughs p1 p2 S post) : k_Mi l yX12_laughs wsX12_laughs { frames := 6, cells := 0, slots := 0, locals := 144 } D (tyM cy) (wM h cy) [.ref (h 31), .int p1, .int p2] S post := by
  intro sz
  refine Met.ofW (cc := cX12_laughs) (maxL := 7) (ret := (some .int)) (by decide) rfl ?_
  intro p e s m args below meth c s₁ B hml hv
  obtain ⟨rfl, hsz, hP, hK, hD0⟩ := hv
  have hx := B.exec
  have hb := B.bytes
  have hr := B.returns
  have hts := atoms_spec (ws := wsX12_laughs) B.pre
  have hown : s.vm.findClass RX12 = some m.cls := findClass_of_methodNamed B.named
  have hlocks := B.notSynchronized
  subst hsz
  have hD := hD0.self (sz := s.heap.size)
  generalize hAe : va_A (wM h cy S) s.heap.size = A at hD ⊢
  have hA : ∀ q : Nat, s.heap.size ≤ q → A q := fun q h => by rw [← hAe]; exact Or.inr h
  have hS : va_S A s.heap s.heap [] := va_S.rf
  have hl := lv_entry ([.ref (h 31), .int p1, .int p2]) (n := 7) (Nat.le_of_ble_eq_true rfl)
  rw [lg_entry_eq]
  generalize (lg_sl ([.ref (h 31), .int p1, .int p2]) ++ List.replicate (7 - (lg_sl ([.ref (h 31), .int p1, .int p2])).length) Slot.unset).toArray = ls at hl ⊢
  have hl : lv_has ls 7 [(0, .ref (h 31)), (1, .int p1), (2, .int p2)] := hl
  unfold wM_laughs at hw
  clear hD0
  refine lv_aload_n hx hb dX12_laughs_0 rfl (lv_at hl 0 rfl) ?_
  refine lv_iload_n hx hb dX12_laughs_1 rfl (lv_at hl 1 rfl) ?_
  refine k_callVi (As := [.int p1]) (rest := []) ⟨hx, hb, hml, hown, hts⟩ (cM_isAtHouse l D h cy _ _ _ hw) (cwV 1 hts gX12_laughs_X12_isAtHouse rfl rfl rfl (by decide +kernel) ⟨Nat.le_of_ble_eq_true rfl, Nat.le_of_ble_eq_true rfl⟩) (va_recv hK hP (ci := 11) (q0 := 0) rfl rfl) hK hP hD hS hA rfl hl.1 rfl (Nat.le_of_ble_eq_true rfl) dX12_laughs_2 ⟨Nat.zero_le _, Nat.zero_le _⟩ (fun r_1 S_2 H locs hw hP hD hS => ?_)
  obtain ⟨hc_3t, hc_3f⟩ := hw
  refine lv_if_eq (tgt := 15) hx hb dX12_laughs_5 (by decide) (fun c_3 => ?_) (fun c_3 => ?_)
  · have hw := hc_3t c_3
    clear hc_3t hc_3f
    refine lv_iconst (v := (-1)) hx hb dX12_laughs_15 (by decide) ?_
    exact W.iret (v := (-1)) hx hb hr (fun t ht hW => ⟨⟨(-1), S_2, rfl, hw, by rw [ht]; exact hP, va_K.moved hW.alike hK, hD⟩, hS.F ht⟩) hS.2.2 dX12_laughs_16
  · have hw := hc_3f c_3
    clear hc_3t hc_3f
    refine lv_iload_n hx hb dX12_laughs_8 rfl (lv_at hl 2 rfl) ?_
    refine k_callSi (As := [.int p2]) (rest := []) ⟨hx, hb, hml, hown, hts⟩ (cM_isKind l D h cy _ _ _ hw) (va_cwS 1 hts gX12_laughs_X12_isKind rfl rfl rfl (by decide +kernel) ⟨Nat.le_of_ble_eq_true rfl, Nat.le_of_ble_eq_true rfl⟩) hK hP hD hS hA rfl hl.1 rfl (Nat.le_of_ble_eq_true rfl) dX12_laughs_9 ⟨Nat.zero_le _, Nat.zero_le _⟩ (fun r_4 S_5 H locs hw hP hD hS => ?_)
    obtain ⟨hc_6t, hc_6f⟩ := hw
    refine lv_if_ne (tgt := 17) hx hb dX12_laughs_12 (by decide) (fun c_6 => ?_) (fun c_6 => ?_)
    · have hw := hc_6f c_6
      clear hc_6t hc_6f
      refine lv_aload_n hx hb dX12_laughs_17 rfl (lv_at hl 0 rfl) ?_
      refine lv_iload_n hx hb dX12_laughs_18 rfl (lv_at hl 1 rfl) ?_
      refine lv_iconst (v := 1) hx hb dX12_laughs_19 (by decide) ?_
      refine k_callVi (As := [.int p1, .int 1]) (rest := []) ⟨hx, hb, hml, hown, hts⟩ (cM_own l D h cy _ _ _ _ hw) (cwV 2 hts gX12_laughs_X12_own rfl rfl rfl (by decide +kernel) ⟨Nat.le_of_ble_eq_true rfl, Nat.le_of_ble_eq_true rfl⟩) (va_recv hK hP (ci := 11) (q0 := 0) rfl rfl) hK hP hD hS hA rfl hl.1 rfl (Nat.le_of_ble_eq_true rfl) dX12_laughs_20 ⟨Nat.zero_le _, Nat.zero_le _⟩ (fun r_7 S_8 H locs hw hP hD hS => ?_)
      refine lv_istore_n (lv' := [(3, .int r_7), (0, .ref (h 31)), (1, .int p1), (2, .int p2)]) hx hb dX12_laughs_23 rfl hl (by decide) rfl (fun ls hl => ?_)
      refine lv_aload_n hx hb dX12_laughs_24 rfl (lv_at hl 1 rfl) ?_
      refine lv_iload_n hx hb dX12_laughs_25 rfl (lv_at hl 0 rfl) ?_
      refine lv_iconst (v := 0) hx hb dX12_laughs_26 (by decide) ?_
      refine k_callVi (As := [.int r_7, .int 0]) (rest := []) ⟨hx, hb, hml, hown, hts⟩ (cM_get l D h cy _ _ _ _ hw) (cwV 2 hts gX12_laughs_X12_get rfl rfl rfl (by decide +kernel) ⟨Nat.le_of_ble_eq_true rfl, Nat.le_of_ble_eq_true rfl⟩) (va_recv hK hP (ci := 11) (q0 := 0) rfl rfl) hK hP hD hS hA rfl hl.1 rfl (Nat.le_of_ble_eq_true rfl) dX12_laughs_27 ⟨Nat.zero_le _, Nat.zero_le _⟩ (fun r_9 S_10 H locs hw hP hD hS => ?_)
      refine lv_istore (lv' := [(4, .int r_9), (3, .int r_7), (0, .ref (h 31)), (1, .int p1), (2, .int p2)]) hx hb dX12_laughs_30 hl (by decide) rfl (fun ls hl => ?_)
      refine lv_aload_n hx hb dX12_laughs_32 rfl (lv_at hl 2 rfl) ?_
      refine lv_iload_n hx hb dX12_laughs_33 rfl (lv_at hl 1 rfl) ?_
      refine lv_iconst (v := 1) hx hb dX12_laughs_34 (by decide) ?_
      refine k_callVi (As := [.int r_7, .int 1]) (rest := []) ⟨hx, hb, hml, hown, hts⟩ (cM_get l D h cy _ _ _ _ hw) (cwV 2 hts gX12_laughs_X12_get rfl rfl rfl (by decide +kernel) ⟨Nat.le_of_ble_eq_true rfl, Nat.le_of_ble_eq_true rfl⟩) (va_recv hK hP (ci := 11) (q0 := 0) rfl rfl) hK hP hD hS hA rfl hl.1 rfl (Nat.le_of_ble_eq_true rfl) dX12_laughs_35 ⟨Nat.zero_le _, Nat.zero_le _⟩ (fun r_11 S_12 H locs hw hP hD hS => ?_)
      refine lv_istore (lv' := [(5, .int r_11), (4, .int r_9), (3, .int r_7), (0, .ref (h 31)), (1, .int p1), (2, .int p2)]) hx hb dX12_laughs_38 hl (by decide) rfl (fun ls hl => ?_)
      refine lv_aload_n hx hb dX12_laughs_40 rfl (lv_at hl 3 rfl) ?_
      refine lv_iload_n hx hb dX12_laughs_41 rfl (lv_at hl 4 rfl) ?_
      refine lv_iload_n hx hb dX12_laughs_42 rfl (lv_at hl 5 rfl) ?_
      refine k_callVv (As := [.int p1, .int p2]) (rest := []) ⟨hx, hb, hml, hown, hts⟩ (cM_comfortNow l D h cy _ _ _ _ hw) (cwV 2 hts gX12_laughs_X12_comfortNow rfl rfl rfl (by decide +kernel) ⟨Nat.le_of_ble_eq_true rfl, Nat.le_of_ble_eq_true rfl⟩) (va_recv hK hP (ci := 11) (q0 := 0) rfl rfl) hK hP hD hS hA rfl hl.1 rfl (Nat.le_of_ble_eq_true rfl) dX12_laughs_43 ⟨Nat.zero_le _, Nat.zero_le _⟩ (fun S_14 H locs hw hP hD hS => ?_)
      refine lv_aload_n hx hb dX12_laughs_46 rfl (lv_at hl 3 rfl) ?_
      refine lv_iload_n hx hb dX12_laughs_47 rfl (lv_at hl 4 rfl) ?_
      refine lv_iload_n hx hb dX12_laughs_48 rfl (lv_at hl 5 rfl) ?_
      refine k_callVi (As := [.int p1, .int p2]) (rest := []) ⟨hx, hb, hml, hown, hts⟩ (cM_laughsOf l D h cy _ _ _ _ hw) (cwV 2 hts gX12_laughs_X12_laughsOf rfl rfl rfl (by decide +kernel) ⟨Nat.le_of_ble_eq_true rfl, Nat.le_of_ble_eq_true rfl⟩) (va_recv hK hP (ci := 11) (q0 := 0) rfl rfl) hK hP hD hS hA rfl hl.1 rfl (Nat.le_of_ble_eq_true rfl) dX12_laughs_49 ⟨Nat.zero_le _, Nat.zero_le _⟩ (fun r_15 S_16 H locs hw hP hD hS => ?_)
      refine lv_istore (lv' := [(6, .int r_15), (5, .int r_11), (4, .int r_9), (3, .int r_7), (0, .ref (h 31)), (1, .int p1), (2, .int p2)]) hx hb dX12_laughs_52 hl (by decide) rfl (fun ls hl => ?_)
      refine lv_aload_n hx hb dX12_laughs_54 rfl (lv_at hl 4 rfl) ?_
      refine lv_iload_n hx hb dX12_laughs_55 rfl (lv_at hl 3 rfl) ?_
      refine lv_iconst (v := 0) hx hb dX12_laughs_56 (by decide) ?_
      refine lv_iload hx hb dX12_laughs_57 (lv_at hl 2 rfl) ?_
      refine k_callVv (As := [.int r_7, .int 0, .int r_9]) (rest := []) ⟨hx, hb, hml, hown, hts⟩ (cM_put l D h cy _ _ _ _ _ hw) (cwV 3 hts gX12_laughs_X12_put rfl rfl rfl (by decide +kernel) ⟨Nat.le_of_ble_eq_true rfl, Nat.le_of_ble_eq_true rfl⟩) (va_recv hK hP (ci := 11) (q0 := 0) rfl rfl) hK hP hD hS hA rfl hl.1 rfl (Nat.le_of_ble_eq_true rfl) dX12_laughs_59 ⟨Nat.zero_le _, Nat.zero_le _⟩ (fun S_18 H locs hw hP hD hS => ?_)
      refine lv_aload_n hx hb dX12_laughs_62 rfl (lv_at hl 4 rfl) ?_
      refine lv_iload_n hx hb dX12_laughs_63 rfl (lv_at hl 3 rfl) ?_
      refine lv_iconst (v := 1) hx hb dX12_laughs_64 (by decide) ?_
      refine lv_iload hx hb dX12_laughs_65 (lv_at hl 1 rfl) ?_
      refine k_callVv (As := [.int r_7, .int 1, .int r_11]) (rest := []) ⟨hx, hb, hml, hown, hts⟩ (cM_put l D h cy _ _ _ _ _ hw) (cwV 3 hts gX12_laughs_X12_put rfl rfl rfl (by decide +kernel) ⟨Nat.le_of_ble_eq_true rfl, Nat.le_of_ble_eq_true rfl⟩) (va_recv hK hP (ci := 11) (q0 := 0) rfl rfl) hK hP hD hS hA rfl hl.1 rfl (Nat.le_of_ble_eq_true rfl) dX12_laughs_67 ⟨Nat.zero_le _, Nat.zero_le _⟩ (fun S_20 H locs hw hP hD hS => ?_)
      refine lv_iload hx hb dX12_laughs_70 (lv_at hl 0 rfl) ?_
      exact W.iret (v := r_15) hx hb hr (fun t ht hW => ⟨⟨r_15, S_20, rfl, hw, by rw [ht]; exact hP, va_K.moved hW.alike hK, hD⟩, hS.F ht⟩) hS.2.2 dX12_laughs_72
    · have hw := hc_6t c_6
      clear hc_6t hc_6f
      refine lv_iconst (v := (-1)) hx hb dX12_laughs_15 (by decide) ?_
      exact W.iret (v := (-1)) hx hb hr (fun t ht hW => ⟨⟨(-1), S_5, rfl, hw, by rw [ht]; exact hP, va_K.moved hW.alike hK, hD⟩, hS.F ht⟩) hS.2.2 dX12_laughs_16
def wM_is (p1 : Int32) (S : MS) (post : Int32 → MS → Prop) : Prop := wM_isIn p1 0 1 S (fun r_1 S_2 => ((r_1 = 0 → post (-2) S_2) ∧ (¬ (r_1 = 0) → (vp_in (7 + p1) 2454 ∧ post ((ms_a S_2) (7 + p1).toNatClampNeg) S_2))))
set_option maxHeartbeats 4000000 in
set_option maxRecDepth 100000 in
theorem cM_is (l : Launch) (D : va_G) (h : Nat → Nat) (cy : Nat → ClassId) (p1 : Int32) (S : MS) (post : Int32 → MS → Prop) (hw : wM_is p1 S post) : k_Mi l yX12_is wsX12_is { frames := 1, cells := 0, slots := 0, locals := 22 } D (tyM cy) (wM h cy) [.ref (h 31), .int p1] S post := by
  intro sz
  refine Met.ofW (cc := cX12_is) (maxL := 2) (ret := (some .int)) (by decide) rfl ?_
  intro p e s m args below meth c s₁ B hml hv
  obtain ⟨rfl, hsz, hP, hK, hD0⟩ := hv
  have hx := B.exec
  have hb := B.bytes
  have hr := B.returns
  have hts := atoms_spec (ws := wsX12_is) B.pre
  have hown : s.vm.findClass RX12 = some m.cls := findClass_of_methodNamed B.named
  have hlocks := B.notSynchronized
  subst hsz
  have hD := hD0.self (sz := s.heap.size)
  generalize hAe : va_A (wM h cy S) s.heap.size = A at hD ⊢
  have hA : ∀ q : Nat, s.heap.size ≤ q → A q := fun q h => by rw [← hAe]; exact Or.inr h
  have hS : va_S A s.heap s.heap [] := va_S.rf
  have hin : ∀ w ∈ wsX120, w ∈ wsX12_is := fun _ h => List.mem_cons_of_mem _ (List.mem_append_right _ h)
  have w7 := hts (.fieldLink RX12 7 "ClownsMournModel" "a" "[I") (List.mem_of_getElem? (i := 1) rfl)
  have hl := lv_entry ([.ref (h 31), .int p1]) (n := 2) (Nat.le_of_ble_eq_true rfl)
  rw [lg_entry_eq]
  generalize (lg_sl ([.ref (h 31), .int p1]) ++ List.replicate (2 - (lg_sl ([.ref (h 31), .int p1])).length) Slot.unset).toArray = ls at hl ⊢
  have hl : lv_has ls 2 [(0, .ref (h 31)), (1, .int p1)] := hl
  unfold wM_is at hw
  clear hD0
  refine lv_iload_n hx hb dX12_is_0 rfl (lv_at hl 1 rfl) ?_
  refine lv_iconst (v := 0) hx hb dX12_is_1 (by decide) ?_
  refine lv_iconst (v := 1) hx hb dX12_is_2 (by decide) ?_
  refine k_callSi (As := [.int p1, .int 0, .int 1]) (rest := []) ⟨hx, hb, hml, hown, hts⟩ (cM_isIn l D h cy _ _ _ _ _ hw) (va_cwS 3 hts gX12_is_X12_isIn rfl rfl rfl (by decide +kernel) ⟨Nat.le_of_ble_eq_true rfl, Nat.le_of_ble_eq_true rfl⟩) hK hP hD hS hA rfl hl.1 rfl (Nat.le_of_ble_eq_true rfl) dX12_is_3 ⟨Nat.zero_le _, Nat.zero_le _⟩ (fun r_1 S_2 H locs hw hP hD hS => ?_)
  obtain ⟨hc_3t, hc_3f⟩ := hw
  refine lv_if_eq (tgt := 21) hx hb dX12_is_6 (by decide) (fun c_3 => ?_) (fun c_3 => ?_)
  · have hw := hc_3t c_3
    clear hc_3t hc_3f
    refine lv_bipush (v := (-2)) hx hb dX12_is_21 (by decide) ?_
    exact W.iret (v := (-2)) hx hb hr (fun t ht hW => ⟨⟨(-2), S_2, rfl, hw, by rw [ht]; exact hP, va_K.moved hW.alike hK, hD⟩, hS.F ht⟩) hS.2.2 dX12_is_23
  · have hw := hc_3f c_3
    clear hc_3t hc_3f
    refine lv_aload_n hx hb dX12_is_9 rfl (lv_at hl 0 rfl) ?_
    refine va_get (D := D) (ci := 11) (v := .ref (h 0)) (C := RX12) (T := TX12) (N := 31) hx hb hts hin hown hK hP 0 rfl rfl 0 (by decide) w7 (fun _ h9 => h9) rfl dX12_is_10 ?_
    refine lv_bipush (v := 7) hx hb dX12_is_13 (by decide) ?_
    refine lv_iload_n hx hb dX12_is_15 rfl (lv_at hl 1 rfl) ?_
    refine lv_iadd hx hb dX12_is_16 ?_
    obtain ⟨hi_4, hw⟩ := hw
    refine va_iald (f := (ms_a S_2)) hx hb hK hP 1 0 rfl rfl hi_4 dX12_is_17 ?_
    refine lv_goto (tgt := 23) hx hb dX12_is_18 (by decide) ?_
    exact W.iret (v := (ms_a S_2) (7 + p1).toNatClampNeg) hx hb hr (fun t ht hW => ⟨⟨(ms_a S_2) (7 + p1).toNatClampNeg, S_2, rfl, hw, by rw [ht]; exact hP, va_K.moved hW.alike hK, hD⟩, hS.F ht⟩) hS.2.2 dX12_is_23
def wM_entry (p1 : Int32) (p2 : Int32) (S : MS) (post : Int32 → MS → Prop) : Prop := ((p2 = 0 → (vp_in (2424 + p1) 2454 ∧ post (((ms_a S) (2424 + p1).toNatClampNeg) / 64) S)) ∧ (¬ (p2 = 0) → ((p2 = 1 → (vp_in (2424 + p1) 2454 ∧ post (k_rem (((ms_a S) (2424 + p1).toNatClampNeg) / 8) 8) S)) ∧ (¬ (p2 = 1) → (vp_in (2424 + p1) 2454 ∧ post (k_rem ((ms_a S) (2424 + p1).toNatClampNeg) 8) S)))))
set_option maxHeartbeats 4000000 in
set_option maxRecDepth 100000 in
theorem cM_entry (l : Launch) (D : va_G) (h : Nat → Nat) (cy : Nat → ClassId) (p1 : Int32) (p2 : Int32) (S : MS) (post : Int32 → MS → Prop) (hw : wM_entry p1 p2 S post) : k_Mi l yX12_entry wsX12_entry { frames := 0, cells := 0, slots := 0, locals := 0 } D (tyM cy) (wM h cy) [.ref (h 31), .int p1, .int p2] S post := by
  intro sz
  refine Met.ofW (cc := cX12_entry) (maxL := 3) (ret := (some .int)) (by decide) rfl ?_
  intro p e s m args below meth c s₁ B hml hv
  obtain ⟨rfl, hsz, hP, hK, hD0⟩ := hv
  have hx := B.exec
  have hb := B.bytes
  have hr := B.returns
  have hts := atoms_spec (ws := wsX12_entry) B.pre
  have hown : s.vm.findClass RX12 = some m.cls := findClass_of_methodNamed B.named
  have hlocks := B.notSynchronized
  subst hsz
  have hD := hD0.self (sz := s.heap.size)
  generalize hAe : va_A (wM h cy S) s.heap.size = A at hD ⊢
  have hA : ∀ q : Nat, s.heap.size ≤ q → A q := fun q h => by rw [← hAe]; exact Or.inr h
  have hS : va_S A s.heap s.heap [] := va_S.rf
  have hin : ∀ w ∈ wsX120, w ∈ wsX12_entry := fun _ h => List.mem_cons_of_mem _ (List.mem_append_right _ h)
  have w7 := hts (.fieldLink RX12 7 "ClownsMournModel" "a" "[I") (List.mem_of_getElem? (i := 1) rfl)
  have hl := lv_entry ([.ref (h 31), .int p1, .int p2]) (n := 3) (Nat.le_of_ble_eq_true rfl)
  rw [lg_entry_eq]
  generalize (lg_sl ([.ref (h 31), .int p1, .int p2]) ++ List.replicate (3 - (lg_sl ([.ref (h 31), .int p1, .int p2])).length) Slot.unset).toArray = ls at hl ⊢
  have hl : lv_has ls 3 [(0, .ref (h 31)), (1, .int p1), (2, .int p2)] := hl
  unfold wM_entry at hw
  clear hD0
  refine lv_iload_n hx hb dX12_entry_0 rfl (lv_at hl 2 rfl) ?_
  obtain ⟨hc_1t, hc_1f⟩ := hw
  refine lv_if_ne (tgt := 20) hx hb dX12_entry_1 (by decide) (fun c_1 => ?_) (fun c_1 => ?_)
  · have hw := hc_1f c_1
    clear hc_1t hc_1f
    refine lv_iload_n hx hb dX12_entry_20 rfl (lv_at hl 2 rfl) ?_
    refine lv_iconst (v := 1) hx hb dX12_entry_21 (by decide) ?_
    obtain ⟨hc_2t, hc_2f⟩ := hw
    refine lv_icmp_ne (tgt := 44) hx hb dX12_entry_22 (by decide) (fun c_2 => ?_) (fun c_2 => ?_)
    · have hw := hc_2f c_2
      clear hc_2t hc_2f
      refine lv_aload_n hx hb dX12_entry_44 rfl (lv_at hl 0 rfl) ?_
      refine va_get (D := D) (ci := 11) (v := .ref (h 0)) (C := RX12) (T := TX12) (N := 31) hx hb hts hin hown hK hP 0 rfl rfl 0 (by decide) w7 (fun _ h9 => h9) rfl dX12_entry_45 ?_
      refine lv_sipush (v := 2424) hx hb dX12_entry_48 (by decide) ?_
      refine lv_iload_n hx hb dX12_entry_51 rfl (lv_at hl 1 rfl) ?_
      refine lv_iadd hx hb dX12_entry_52 ?_
      obtain ⟨hi_3, hw⟩ := hw
      refine va_iald (f := (ms_a S)) hx hb hK hP 1 0 rfl rfl hi_3 dX12_entry_53 ?_
      refine lv_bipush (v := 8) hx hb dX12_entry_54 (by decide) ?_
      refine k_irem hx hb dX12_entry_56 (by decide) ?_
      exact W.iret (v := k_rem ((ms_a S) (2424 + p1).toNatClampNeg) 8) hx hb hr (fun t ht hW => ⟨⟨k_rem ((ms_a S) (2424 + p1).toNatClampNeg) 8, S, rfl, hw, by rw [ht]; exact hP, va_K.moved hW.alike hK, hD⟩, hS.F ht⟩) hS.2.2 dX12_entry_57
    · have hw := hc_2t c_2
      clear hc_2t hc_2f
      refine lv_aload_n hx hb dX12_entry_25 rfl (lv_at hl 0 rfl) ?_
      refine va_get (D := D) (ci := 11) (v := .ref (h 0)) (C := RX12) (T := TX12) (N := 31) hx hb hts hin hown hK hP 0 rfl rfl 0 (by decide) w7 (fun _ h9 => h9) rfl dX12_entry_26 ?_
      refine lv_sipush (v := 2424) hx hb dX12_entry_29 (by decide) ?_
      refine lv_iload_n hx hb dX12_entry_32 rfl (lv_at hl 1 rfl) ?_
      refine lv_iadd hx hb dX12_entry_33 ?_
      obtain ⟨hi_4, hw⟩ := hw
      refine va_iald (f := (ms_a S)) hx hb hK hP 1 0 rfl rfl hi_4 dX12_entry_34 ?_
      refine lv_bipush (v := 8) hx hb dX12_entry_35 (by decide) ?_
      refine lv_idiv hx hb dX12_entry_37 (by decide) ?_
      refine lv_bipush (v := 8) hx hb dX12_entry_38 (by decide) ?_
      refine k_irem hx hb dX12_entry_40 (by decide) ?_
      refine lv_goto (tgt := 57) hx hb dX12_entry_41 (by decide) ?_
      exact W.iret (v := k_rem (((ms_a S) (2424 + p1).toNatClampNeg) / 8) 8) hx hb hr (fun t ht hW => ⟨⟨k_rem (((ms_a S) (2424 + p1).toNatClampNeg) / 8) 8, S, rfl, hw, by rw [ht]; exact hP, va_K.moved hW.alike hK, hD⟩, hS.F ht⟩) hS.2.2 dX12_entry_57
  · have hw := hc_1t c_1
    clear hc_1t hc_1f
    refine lv_aload_n hx hb dX12_entry_4 rfl (lv_at hl 0 rfl) ?_
    refine va_get (D := D) (ci := 11) (v := .ref (h 0)) (C := RX12) (T := TX12) (N := 31) hx hb hts hin hown hK hP 0 rfl rfl 0 (by decide) w7 (fun _ h9 => h9) rfl dX12_entry_5 ?_
    refine lv_sipush (v := 2424) hx hb dX12_entry_8 (by decide) ?_
    refine lv_iload_n hx hb dX12_entry_11 rfl (lv_at hl 1 rfl) ?_
    refine lv_iadd hx hb dX12_entry_12 ?_
    obtain ⟨hi_5, hw⟩ := hw
    refine va_iald (f := (ms_a S)) hx hb hK hP 1 0 rfl rfl hi_5 dX12_entry_13 ?_
    refine lv_bipush (v := 64) hx hb dX12_entry_14 (by decide) ?_
    refine lv_idiv hx hb dX12_entry_16 (by decide) ?_
    refine lv_goto (tgt := 57) hx hb dX12_entry_17 (by decide) ?_
    exact W.iret (v := ((ms_a S) (2424 + p1).toNatClampNeg) / 64) hx hb hr (fun t ht hW => ⟨⟨((ms_a S) (2424 + p1).toNatClampNeg) / 64, S, rfl, hw, by rw [ht]; exact hP, va_K.moved hW.alike hK, hD⟩, hS.F ht⟩) hS.2.2 dX12_entry_57
def wM_book (p1 : Int32) (p2 : Int32) (S : MS) (post : Int32 → MS → Prop) : Prop := ((p1 = (-1) → post ((ms_a S) 9) S) ∧ (¬ (p1 = (-1)) → wM_isIn p1 0 (((ms_a S) 9) - 1) S (fun r_2 S_3 => ((r_2 = 0 → post (-2) S_3) ∧ (¬ (r_2 = 0) → wM_isIn p2 0 2 S_3 (fun r_5 S_6 => ((r_5 = 0 → post (-2) S_6) ∧ (¬ (r_5 = 0) → wM_entry p1 p2 S_6 (fun r_8 S_9 => post r_8 S_9)))))))))
set_option maxHeartbeats 4000000 in
set_option maxRecDepth 100000 in
theorem cM_book (l : Launch) (D : va_G) (h : Nat → Nat) (cy : Nat → ClassId) (p1 : Int32) (p2 : Int32) (S : MS) (post : Int32 → MS → Prop) (hw : wM_book p1 p2 S post) : k_Mi l yX12_book wsX12_book { frames := 1, cells := 0, slots := 0, locals := 22 } D (tyM cy) (wM h cy) [.ref (h 31), .int p1, .int p2] S post := by
  intro sz
  refine Met.ofW (cc := cX12_book) (maxL := 3) (ret := (some .int)) (by decide) rfl ?_
  intro p e s m args below meth c s₁ B hml hv
  obtain ⟨rfl, hsz, hP, hK, hD0⟩ := hv
  have hx := B.exec
  have hb := B.bytes
  have hr := B.returns
  have hts := atoms_spec (ws := wsX12_book) B.pre
  have hown : s.vm.findClass RX12 = some m.cls := findClass_of_methodNamed B.named
  have hlocks := B.notSynchronized
  subst hsz
  have hD := hD0.self (sz := s.heap.size)
  generalize hAe : va_A (wM h cy S) s.heap.size = A at hD ⊢
  have hA : ∀ q : Nat, s.heap.size ≤ q → A q := fun q h => by rw [← hAe]; exact Or.inr h
  have hS : va_S A s.heap s.heap [] := va_S.rf
  have hin : ∀ w ∈ wsX120, w ∈ wsX12_book := fun _ h => List.mem_cons_of_mem _ (List.mem_append_right _ h)
  have w7 := hts (.fieldLink RX12 7 "ClownsMournModel" "a" "[I") (List.mem_of_getElem? (i := 1) rfl)
  have hl := lv_entry ([.ref (h 31), .int p1, .int p2]) (n := 3) (Nat.le_of_ble_eq_true rfl)
  rw [lg_entry_eq]
  generalize (lg_sl ([.ref (h 31), .int p1, .int p2]) ++ List.replicate (3 - (lg_sl ([.ref (h 31), .int p1, .int p2])).length) Slot.unset).toArray = ls at hl ⊢
  have hl : lv_has ls 3 [(0, .ref (h 31)), (1, .int p1), (2, .int p2)] := hl
  unfold wM_book at hw
  clear hD0
  refine lv_iload_n hx hb dX12_book_0 rfl (lv_at hl 1 rfl) ?_
  refine lv_iconst (v := (-1)) hx hb dX12_book_1 (by decide) ?_
  obtain ⟨hc_1t, hc_1f⟩ := hw
  refine lv_icmp_ne (tgt := 13) hx hb dX12_book_2 (by decide) (fun c_1 => ?_) (fun c_1 => ?_)
  · have hw := hc_1f c_1
    clear hc_1t hc_1f
    refine lv_iload_n hx hb dX12_book_13 rfl (lv_at hl 1 rfl) ?_
    refine lv_iconst (v := 0) hx hb dX12_book_14 (by decide) ?_
    refine lv_aload_n hx hb dX12_book_15 rfl (lv_at hl 0 rfl) ?_
    refine va_get (D := D) (ci := 11) (v := .ref (h 0)) (C := RX12) (T := TX12) (N := 31) hx hb hts hin hown hK hP 0 rfl rfl 0 (by decide) w7 (fun _ h9 => h9) rfl dX12_book_16 ?_
    refine lv_bipush (v := 9) hx hb dX12_book_19 (by decide) ?_
    refine k_iald (f := (ms_a S)) (j := 9) hx hb hK hP 1 0 rfl rfl (by decide +kernel) rfl dX12_book_21 ?_
    refine lv_iconst (v := 1) hx hb dX12_book_22 (by decide) ?_
    refine lv_isub hx hb dX12_book_23 ?_
    refine k_callSi (As := [.int p1, .int 0, .int (((ms_a S) 9) - 1)]) (rest := []) ⟨hx, hb, hml, hown, hts⟩ (cM_isIn l D h cy _ _ _ _ _ hw) (va_cwS 3 hts gX12_book_X12_isIn rfl rfl rfl (by decide +kernel) ⟨Nat.le_of_ble_eq_true rfl, Nat.le_of_ble_eq_true rfl⟩) hK hP hD hS hA rfl hl.1 rfl (Nat.le_of_ble_eq_true rfl) dX12_book_24 ⟨Nat.zero_le _, Nat.zero_le _⟩ (fun r_2 S_3 H locs hw hP hD hS => ?_)
    obtain ⟨hc_4t, hc_4f⟩ := hw
    refine lv_if_eq (tgt := 48) hx hb dX12_book_27 (by decide) (fun c_4 => ?_) (fun c_4 => ?_)
    · have hw := hc_4t c_4
      clear hc_4t hc_4f
      refine lv_bipush (v := (-2)) hx hb dX12_book_48 (by decide) ?_
      exact W.iret (v := (-2)) hx hb hr (fun t ht hW => ⟨⟨(-2), S_3, rfl, hw, by rw [ht]; exact hP, va_K.moved hW.alike hK, hD⟩, hS.F ht⟩) hS.2.2 dX12_book_50
    · have hw := hc_4f c_4
      clear hc_4t hc_4f
      refine lv_iload_n hx hb dX12_book_30 rfl (lv_at hl 2 rfl) ?_
      refine lv_iconst (v := 0) hx hb dX12_book_31 (by decide) ?_
      refine lv_iconst (v := 2) hx hb dX12_book_32 (by decide) ?_
      refine k_callSi (As := [.int p2, .int 0, .int 2]) (rest := []) ⟨hx, hb, hml, hown, hts⟩ (cM_isIn l D h cy _ _ _ _ _ hw) (va_cwS 3 hts gX12_book_X12_isIn rfl rfl rfl (by decide +kernel) ⟨Nat.le_of_ble_eq_true rfl, Nat.le_of_ble_eq_true rfl⟩) hK hP hD hS hA rfl hl.1 rfl (Nat.le_of_ble_eq_true rfl) dX12_book_33 ⟨Nat.zero_le _, Nat.zero_le _⟩ (fun r_5 S_6 H locs hw hP hD hS => ?_)
      obtain ⟨hc_7t, hc_7f⟩ := hw
      refine lv_if_eq (tgt := 48) hx hb dX12_book_36 (by decide) (fun c_7 => ?_) (fun c_7 => ?_)
      · have hw := hc_7t c_7
        clear hc_7t hc_7f
        refine lv_bipush (v := (-2)) hx hb dX12_book_48 (by decide) ?_
        exact W.iret (v := (-2)) hx hb hr (fun t ht hW => ⟨⟨(-2), S_6, rfl, hw, by rw [ht]; exact hP, va_K.moved hW.alike hK, hD⟩, hS.F ht⟩) hS.2.2 dX12_book_50
      · have hw := hc_7f c_7
        clear hc_7t hc_7f
        refine lv_aload_n hx hb dX12_book_39 rfl (lv_at hl 0 rfl) ?_
        refine lv_iload_n hx hb dX12_book_40 rfl (lv_at hl 1 rfl) ?_
        refine lv_iload_n hx hb dX12_book_41 rfl (lv_at hl 2 rfl) ?_
        refine k_callVi (As := [.int p1, .int p2]) (rest := []) ⟨hx, hb, hml, hown, hts⟩ (cM_entry l D h cy _ _ _ _ hw) (cwV 2 hts gX12_book_X12_entry rfl rfl rfl (by decide +kernel) ⟨Nat.le_of_ble_eq_true rfl, Nat.le_of_ble_eq_true rfl⟩) (va_recv hK hP (ci := 11) (q0 := 0) rfl rfl) hK hP hD hS hA rfl hl.1 rfl (Nat.le_of_ble_eq_true rfl) dX12_book_42 ⟨Nat.zero_le _, Nat.zero_le _⟩ (fun r_8 S_9 H locs hw hP hD hS => ?_)
        refine lv_goto (tgt := 50) hx hb dX12_book_45 (by decide) ?_
        exact W.iret (v := r_8) hx hb hr (fun t ht hW => ⟨⟨r_8, S_9, rfl, hw, by rw [ht]; exact hP, va_K.moved hW.alike hK, hD⟩, hS.F ht⟩) hS.2.2 dX12_book_50
  · have hw := hc_1t c_1
    clear hc_1t hc_1f
    refine lv_aload_n hx hb dX12_book_5 rfl (lv_at hl 0 rfl) ?_
    refine va_get (D := D) (ci := 11) (v := .ref (h 0)) (C := RX12) (T := TX12) (N := 31) hx hb hts hin hown hK hP 0 rfl rfl 0 (by decide) w7 (fun _ h9 => h9) rfl dX12_book_6 ?_
    refine lv_bipush (v := 9) hx hb dX12_book_9 (by decide) ?_
    refine k_iald (f := (ms_a S)) (j := 9) hx hb hK hP 1 0 rfl rfl (by decide +kernel) rfl dX12_book_11 ?_
    exact W.iret (v := (ms_a S) 9) hx hb hr (fun t ht hW => ⟨⟨(ms_a S) 9, S, rfl, hw, by rw [ht]; exact hP, va_K.moved hW.alike hK, hD⟩, hS.F ht⟩) hS.2.2 dX12_book_12
def wM_ledger_20 (post : Int32 → MS → Prop) : Nat → Int32 → Int32 → Int32 → MS → Prop
  | 0, _, _, _, _ => False
  | n + 1, x1, x2, x3, S => ((((ms_a S) 9) ≤ x3 → post x2 S) ∧ (¬ (((ms_a S) 9) ≤ x3) → ((x1 = (-1) → wM_ledger_20 post n x1 (x2 + 1) (x3 + 1) S) ∧ (¬ (x1 = (-1)) → wM_entry x3 2 S (fun r_3 S_4 => ((r_3 = x1 → wM_ledger_20 post n x1 (x2 + 1) (x3 + 1) S_4) ∧ (¬ (r_3 = x1) → wM_ledger_20 post n x1 (x2 + 0) (x3 + 1) S_4)))))))
def wM_ledger (p1 : Int32) (S : MS) (post : Int32 → MS → Prop) : Prop := ((p1 = (-1) → ∃ k_ : Nat, wM_ledger_20 post k_ p1 0 0 S) ∧ (¬ (p1 = (-1)) → wM_isClown p1 S (fun r_2 S_3 => ((r_2 = 0 → post (-2) S_3) ∧ (¬ (r_2 = 0) → ∃ k_ : Nat, wM_ledger_20 post k_ p1 0 0 S_3)))))
set_option maxHeartbeats 4000000 in
set_option maxRecDepth 100000 in
theorem cM_ledger (l : Launch) (D : va_G) (h : Nat → Nat) (cy : Nat → ClassId) (p1 : Int32) (S : MS) (post : Int32 → MS → Prop) (hw : wM_ledger p1 S post) : k_Mi l yX12_ledger wsX12_ledger { frames := 2, cells := 0, slots := 0, locals := 43 } D (tyM cy) (wM h cy) [.ref (h 31), .int p1] S post := by
  intro sz
  refine Met.ofW (cc := cX12_ledger) (maxL := 4) (ret := (some .int)) (by decide) rfl ?_
  intro p e s m args below meth c s₁ B hml hv
  obtain ⟨rfl, hsz, hP, hK, hD0⟩ := hv
  have hx := B.exec
  have hb := B.bytes
  have hr := B.returns
  have hts := atoms_spec (ws := wsX12_ledger) B.pre
  have hown : s.vm.findClass RX12 = some m.cls := findClass_of_methodNamed B.named
  have hlocks := B.notSynchronized
  subst hsz
  have hD := hD0.self (sz := s.heap.size)
  generalize hAe : va_A (wM h cy S) s.heap.size = A at hD ⊢
  have hA : ∀ q : Nat, s.heap.size ≤ q → A q := fun q h => by rw [← hAe]; exact Or.inr h
  have hS : va_S A s.heap s.heap [] := va_S.rf
  have hin : ∀ w ∈ wsX120, w ∈ wsX12_ledger := fun _ h => List.mem_cons_of_mem _ (List.mem_append_right _ h)
  have w7 := hts (.fieldLink RX12 7 "ClownsMournModel" "a" "[I") (List.mem_of_getElem? (i := 1) rfl)
  have hl := lv_entry ([.ref (h 31), .int p1]) (n := 4) (Nat.le_of_ble_eq_true rfl)
  rw [lg_entry_eq]
  generalize (lg_sl ([.ref (h 31), .int p1]) ++ List.replicate (4 - (lg_sl ([.ref (h 31), .int p1])).length) Slot.unset).toArray = ls at hl ⊢
  have hl : lv_has ls 4 [(0, .ref (h 31)), (1, .int p1)] := hl
  unfold wM_ledger at hw
  clear hD0
  have L_20 : ∀ (n20 : Nat) (x1 : Int32) (x2 : Int32) (x3 : Int32) (S : MS) (H : Heap) (locs : List Loc) (ls : Array Slot), wM_ledger_20 post n20 x1 x2 x3 S → va_P D vwCl (wM h cy S) H → va_D A (wM h cy S) → va_S A s.heap H locs → lv_has ls 4 [(0, .ref (h 31)), (1, .int x1), (2, .int x2), (3, .int x3)] → W p l e (headSpec wsX12_ledger { frames := 2, cells := 0, slots := 0, locals := 43 }).room s m (([.ref (h 31), .int p1] : List Value).toArray) below meth c H locs 0 0 (MQ below (va_Qi post (k_Post D (tyM cy) (wM h cy) A) A) (([.ref (h 31), .int p1] : List Value).toArray) s 0 0 A) (F0 m 20 ls []) := by
    intro n20
    induction n20 with
    | zero => intro x1 x2 x3 S H locs ls hw; exact False.elim hw
    | succ n20 ih_20 =>
      intro x1 x2 x3 S H locs ls hw hP hD hS hl
      unfold wM_ledger_20 at hw
      refine lv_iload_n hx hb dX12_ledger_20 rfl (lv_at hl 3 rfl) ?_
      refine lv_aload_n hx hb dX12_ledger_21 rfl (lv_at hl 0 rfl) ?_
      refine va_get (D := D) (ci := 11) (v := .ref (h 0)) (C := RX12) (T := TX12) (N := 31) hx hb hts hin hown hK hP 0 rfl rfl 0 (by decide) w7 (fun _ h9 => h9) rfl dX12_ledger_22 ?_
      refine lv_bipush (v := 9) hx hb dX12_ledger_25 (by decide) ?_
      refine k_iald (f := (ms_a S)) (j := 9) hx hb hK hP 1 0 rfl rfl (by decide +kernel) rfl dX12_ledger_27 ?_
      obtain ⟨hc_1t, hc_1f⟩ := hw
      refine lv_icmp_ge (tgt := 60) hx hb dX12_ledger_28 (by decide) (fun c_1 => ?_) (fun c_1 => ?_)
      · have hw := hc_1t c_1
        clear hc_1t hc_1f
        refine lv_iload_n hx hb dX12_ledger_60 rfl (lv_at hl 2 rfl) ?_
        exact W.iret (v := x2) hx hb hr (fun t ht hW => ⟨⟨x2, S, rfl, hw, by rw [ht]; exact hP, va_K.moved hW.alike hK, hD⟩, hS.F ht⟩) hS.2.2 dX12_ledger_61
      · have hw := hc_1f c_1
        clear hc_1t hc_1f
        refine lv_iload_n hx hb dX12_ledger_31 rfl (lv_at hl 2 rfl) ?_
        refine lv_iload_n hx hb dX12_ledger_32 rfl (lv_at hl 1 rfl) ?_
        refine lv_iconst (v := (-1)) hx hb dX12_ledger_33 (by decide) ?_
        obtain ⟨hc_2t, hc_2f⟩ := hw
        refine lv_icmp_eq (tgt := 47) hx hb dX12_ledger_34 (by decide) (fun c_2 => ?_) (fun c_2 => ?_)
        · have hw := hc_2t c_2
          clear hc_2t hc_2f
          refine lv_iconst (v := 1) hx hb dX12_ledger_47 (by decide) ?_
          refine lv_goto (tgt := 52) hx hb dX12_ledger_48 (by decide) ?_
          refine lv_iadd hx hb dX12_ledger_52 ?_
          refine lv_istore_n (lv' := [(2, .int (x2 + 1)), (0, .ref (h 31)), (1, .int x1), (3, .int x3)]) hx hb dX12_ledger_53 rfl hl (by decide) rfl (fun ls hl => ?_)
          refine lv_iinc (v := x3 + 1) (lv' := [(3, .int (x3 + 1)), (2, .int (x2 + 1)), (0, .ref (h 31)), (1, .int x1)]) hx hb dX12_ledger_54 hl (k := 3) rfl (k_inc (by decide)) (by decide) rfl (fun ls hl => ?_)
          refine lv_goto (tgt := 20) hx hb dX12_ledger_57 (by decide) ?_
          exact ih_20 x1 (x2 + 1) (x3 + 1) S _ _ _ hw hP hD hS (lv_sub hl [2, 3, 1, 0] rfl)
        · have hw := hc_2f c_2
          clear hc_2t hc_2f
          refine lv_aload_n hx hb dX12_ledger_37 rfl (lv_at hl 0 rfl) ?_
          refine lv_iload_n hx hb dX12_ledger_38 rfl (lv_at hl 3 rfl) ?_
          refine lv_iconst (v := 2) hx hb dX12_ledger_39 (by decide) ?_
          refine k_callVi (As := [.int x3, .int 2]) (rest := [.int x2]) ⟨hx, hb, hml, hown, hts⟩ (cM_entry l D h cy _ _ _ _ hw) (cwV 2 hts gX12_ledger_X12_entry rfl rfl rfl (by decide +kernel) ⟨Nat.le_of_ble_eq_true rfl, Nat.le_of_ble_eq_true rfl⟩) (va_recv hK hP (ci := 11) (q0 := 0) rfl rfl) hK hP hD hS hA rfl hl.1 rfl (Nat.le_of_ble_eq_true rfl) dX12_ledger_40 ⟨Nat.zero_le _, Nat.zero_le _⟩ (fun r_3 S_4 H locs hw hP hD hS => ?_)
          refine lv_iload_n hx hb dX12_ledger_43 rfl (lv_at hl 1 rfl) ?_
          obtain ⟨hc_5t, hc_5f⟩ := hw
          refine lv_icmp_ne (tgt := 51) hx hb dX12_ledger_44 (by decide) (fun c_5 => ?_) (fun c_5 => ?_)
          · have hw := hc_5f c_5
            clear hc_5t hc_5f
            refine lv_iconst (v := 0) hx hb dX12_ledger_51 (by decide) ?_
            refine lv_iadd hx hb dX12_ledger_52 ?_
            refine lv_istore_n (lv' := [(2, .int (x2 + 0)), (0, .ref (h 31)), (1, .int x1), (3, .int x3)]) hx hb dX12_ledger_53 rfl hl (by decide) rfl (fun ls hl => ?_)
            refine lv_iinc (v := x3 + 1) (lv' := [(3, .int (x3 + 1)), (2, .int (x2 + 0)), (0, .ref (h 31)), (1, .int x1)]) hx hb dX12_ledger_54 hl (k := 3) rfl (k_inc (by decide)) (by decide) rfl (fun ls hl => ?_)
            refine lv_goto (tgt := 20) hx hb dX12_ledger_57 (by decide) ?_
            exact ih_20 x1 (x2 + 0) (x3 + 1) S_4 _ _ _ hw hP hD hS (lv_sub hl [2, 3, 1, 0] rfl)
          · have hw := hc_5t c_5
            clear hc_5t hc_5f
            refine lv_iconst (v := 1) hx hb dX12_ledger_47 (by decide) ?_
            refine lv_goto (tgt := 52) hx hb dX12_ledger_48 (by decide) ?_
            refine lv_iadd hx hb dX12_ledger_52 ?_
            refine lv_istore_n (lv' := [(2, .int (x2 + 1)), (0, .ref (h 31)), (1, .int x1), (3, .int x3)]) hx hb dX12_ledger_53 rfl hl (by decide) rfl (fun ls hl => ?_)
            refine lv_iinc (v := x3 + 1) (lv' := [(3, .int (x3 + 1)), (2, .int (x2 + 1)), (0, .ref (h 31)), (1, .int x1)]) hx hb dX12_ledger_54 hl (k := 3) rfl (k_inc (by decide)) (by decide) rfl (fun ls hl => ?_)
            refine lv_goto (tgt := 20) hx hb dX12_ledger_57 (by decide) ?_
            exact ih_20 x1 (x2 + 1) (x3 + 1) S_4 _ _ _ hw hP hD hS (lv_sub hl [2, 3, 1, 0] rfl)
  refine lv_iload_n hx hb dX12_ledger_0 rfl (lv_at hl 1 rfl) ?_
  refine lv_iconst (v := (-1)) hx hb dX12_ledger_1 (by decide) ?_
  obtain ⟨hc_6t, hc_6f⟩ := hw
  refine lv_icmp_eq (tgt := 16) hx hb dX12_ledger_2 (by decide) (fun c_6 => ?_) (fun c_6 => ?_)
  · have hw := hc_6t c_6
    clear hc_6t hc_6f
    refine lv_iconst (v := 0) hx hb dX12_ledger_16 (by decide) ?_
    refine lv_istore_n (lv' := [(2, .int 0), (0, .ref (h 31)), (1, .int p1)]) hx hb dX12_ledger_17 rfl hl (by decide) rfl (fun ls hl => ?_)
    refine lv_iconst (v := 0) hx hb dX12_ledger_18 (by decide) ?_
    refine lv_istore_n (lv' := [(3, .int 0), (2, .int 0), (0, .ref (h 31)), (1, .int p1)]) hx hb dX12_ledger_19 rfl hl (by decide) rfl (fun ls hl => ?_)
    obtain ⟨n_20, hw⟩ := hw
    exact L_20 n_20 p1 0 0 S _ _ _ hw hP hD hS (lv_sub hl [2, 3, 1, 0] rfl)
  · have hw := hc_6f c_6
    clear hc_6t hc_6f
    refine lv_aload_n hx hb dX12_ledger_5 rfl (lv_at hl 0 rfl) ?_
    refine lv_iload_n hx hb dX12_ledger_6 rfl (lv_at hl 1 rfl) ?_
    refine k_callVi (As := [.int p1]) (rest := []) ⟨hx, hb, hml, hown, hts⟩ (cM_isClown l D h cy _ _ _ hw) (cwV 1 hts gX12_ledger_X12_isClown rfl rfl rfl (by decide +kernel) ⟨Nat.le_of_ble_eq_true rfl, Nat.le_of_ble_eq_true rfl⟩) (va_recv hK hP (ci := 11) (q0 := 0) rfl rfl) hK hP hD hS hA rfl hl.1 rfl (Nat.le_of_ble_eq_true rfl) dX12_ledger_7 ⟨Nat.zero_le _, Nat.zero_le _⟩ (fun r_7 S_8 H locs hw hP hD hS => ?_)
    obtain ⟨hc_9t, hc_9f⟩ := hw
    refine lv_if_ne (tgt := 16) hx hb dX12_ledger_10 (by decide) (fun c_9 => ?_) (fun c_9 => ?_)
    · have hw := hc_9f c_9
      clear hc_9t hc_9f
      refine lv_iconst (v := 0) hx hb dX12_ledger_16 (by decide) ?_
      refine lv_istore_n (lv' := [(2, .int 0), (0, .ref (h 31)), (1, .int p1)]) hx hb dX12_ledger_17 rfl hl (by decide) rfl (fun ls hl => ?_)
      refine lv_iconst (v := 0) hx hb dX12_ledger_18 (by decide) ?_
      refine lv_istore_n (lv' := [(3, .int 0), (2, .int 0), (0, .ref (h 31)), (1, .int p1)]) hx hb dX12_ledger_19 rfl hl (by decide) rfl (fun ls hl => ?_)
      obtain ⟨n_20, hw⟩ := hw
      exact L_20 n_20 p1 0 0 S_8 _ _ _ hw hP hD hS (lv_sub hl [2, 3, 1, 0] rfl)
    · have hw := hc_9t c_9
      clear hc_9t hc_9f
      refine lv_bipush (v := (-2)) hx hb dX12_ledger_13 (by decide) ?_
      exact W.iret (v := (-2)) hx hb hr (fun t ht hW => ⟨⟨(-2), S_8, rfl, hw, by rw [ht]; exact hP, va_K.moved hW.alike hK, hD⟩, hS.F ht⟩) hS.2.2 dX12_ledger_15
def wM_clocks_14 (post : Int32 → MS → Prop) : Nat → Int32 → Int32 → Int32 → MS → Prop
  | 0, _, _, _, _ => False
  | n + 1, x1, x2, x3, S => ((((ms_a S) 0) ≤ x3 → post x2 S) ∧ (¬ (((ms_a S) 0) ≤ x3) → wM_get x3 2 S (fun r_2 S_3 => ((r_2 = x1 → wM_clocks_14 post n x1 (x2 ||| (k_shl 1 x3)) (x3 + 1) S_3) ∧ (¬ (r_2 = x1) → wM_clocks_14 post n x1 (x2 ||| 0) (x3 + 1) S_3)))))
def wM_clocks (p1 : Int32) (S : MS) (post : Int32 → MS → Prop) : Prop := wM_isClown p1 S (fun r_1 S_2 => ((r_1 = 0 → post (-1) S_2) ∧ (¬ (r_1 = 0) → ∃ k_ : Nat, wM_clocks_14 post k_ p1 0 0 S_2)))
set_option maxHeartbeats 4000000 in
set_option maxRecDepth 100000 in
theorem cM_clocks (l : Launch) (D : va_G) (h : Nat → Nat) (cy : Nat → ClassId) (p1 : Int32) (S : MS) (post : Int32 → MS → Prop) (hw : wM_clocks p1 S post) : k_Mi l yX12_clocks wsX12_clocks { frames := 2, cells := 0, slots := 0, locals := 43 } D (tyM cy) (wM h cy) [.ref (h 31), .int p1] S post := by
  intro sz
  refine Met.ofW (cc := cX12_clocks) (maxL := 4) (ret := (some .int)) (by decide) rfl ?_
  intro p e s m args below meth c s₁ B hml hv
  obtain ⟨rfl, hsz, hP, hK, hD0⟩ := hv
  have hx := B.exec
  have hb := B.bytes
  have hr := B.returns
  have hts := atoms_spec (ws := wsX12_clocks) B.pre
  have hown : s.vm.findClass RX12 = some m.cls := findClass_of_methodNamed B.named
  have hlocks := B.notSynchronized
  subst hsz
  have hD := hD0.self (sz := s.heap.size)
  generalize hAe : va_A (wM h cy S) s.heap.size = A at hD ⊢
  have hA : ∀ q : Nat, s.heap.size ≤ q → A q := fun q h => by rw [← hAe]; exact Or.inr h
  have hS : va_S A s.heap s.heap [] := va_S.rf
  have hin : ∀ w ∈ wsX120, w ∈ wsX12_clocks := fun _ h => List.mem_cons_of_mem _ (List.mem_append_right _ h)
  have w7 := hts (.fieldLink RX12 7 "ClownsMournModel" "a" "[I") (List.mem_of_getElem? (i := 1) rfl)
  have hl := lv_entry ([.ref (h 31), .int p1]) (n := 4) (Nat.le_of_ble_eq_true rfl)
  rw [lg_entry_eq]
  generalize (lg_sl ([.ref (h 31), .int p1]) ++ List.replicate (4 - (lg_sl ([.ref (h 31), .int p1])).length) Slot.unset).toArray = ls at hl ⊢
  have hl : lv_has ls 4 [(0, .ref (h 31)), (1, .int p1)] := hl
  unfold wM_clocks at hw
  clear hD0
  have L_14 : ∀ (n14 : Nat) (x1 : Int32) (x2 : Int32) (x3 : Int32) (S : MS) (H : Heap) (locs : List Loc) (ls : Array Slot), wM_clocks_14 post n14 x1 x2 x3 S → va_P D vwCl (wM h cy S) H → va_D A (wM h cy S) → va_S A s.heap H locs → lv_has ls 4 [(0, .ref (h 31)), (1, .int x1), (2, .int x2), (3, .int x3)] → W p l e (headSpec wsX12_clocks { frames := 2, cells := 0, slots := 0, locals := 43 }).room s m (([.ref (h 31), .int p1] : List Value).toArray) below meth c H locs 0 0 (MQ below (va_Qi post (k_Post D (tyM cy) (wM h cy) A) A) (([.ref (h 31), .int p1] : List Value).toArray) s 0 0 A) (F0 m 14 ls []) := by
    intro n14
    induction n14 with
    | zero => intro x1 x2 x3 S H locs ls hw; exact False.elim hw
    | succ n14 ih_14 =>
      intro x1 x2 x3 S H locs ls hw hP hD hS hl
      unfold wM_clocks_14 at hw
      refine lv_iload_n hx hb dX12_clocks_14 rfl (lv_at hl 3 rfl) ?_
      refine lv_aload_n hx hb dX12_clocks_15 rfl (lv_at hl 0 rfl) ?_
      refine va_get (D := D) (ci := 11) (v := .ref (h 0)) (C := RX12) (T := TX12) (N := 31) hx hb hts hin hown hK hP 0 rfl rfl 0 (by decide) w7 (fun _ h9 => h9) rfl dX12_clocks_16 ?_
      refine lv_iconst (v := 0) hx hb dX12_clocks_19 (by decide) ?_
      refine k_iald (f := (ms_a S)) (j := 0) hx hb hK hP 1 0 rfl rfl (by decide +kernel) rfl dX12_clocks_20 ?_
      obtain ⟨hc_1t, hc_1f⟩ := hw
      refine lv_icmp_ge (tgt := 50) hx hb dX12_clocks_21 (by decide) (fun c_1 => ?_) (fun c_1 => ?_)
      · have hw := hc_1t c_1
        clear hc_1t hc_1f
        refine lv_iload_n hx hb dX12_clocks_50 rfl (lv_at hl 2 rfl) ?_
        exact W.iret (v := x2) hx hb hr (fun t ht hW => ⟨⟨x2, S, rfl, hw, by rw [ht]; exact hP, va_K.moved hW.alike hK, hD⟩, hS.F ht⟩) hS.2.2 dX12_clocks_51
      · have hw := hc_1f c_1
        clear hc_1t hc_1f
        refine lv_iload_n hx hb dX12_clocks_24 rfl (lv_at hl 2 rfl) ?_
        refine lv_aload_n hx hb dX12_clocks_25 rfl (lv_at hl 0 rfl) ?_
        refine lv_iload_n hx hb dX12_clocks_26 rfl (lv_at hl 3 rfl) ?_
        refine lv_iconst (v := 2) hx hb dX12_clocks_27 (by decide) ?_
        refine k_callVi (As := [.int x3, .int 2]) (rest := [.int x2]) ⟨hx, hb, hml, hown, hts⟩ (cM_get l D h cy _ _ _ _ hw) (cwV 2 hts gX12_clocks_X12_get rfl rfl rfl (by decide +kernel) ⟨Nat.le_of_ble_eq_true rfl, Nat.le_of_ble_eq_true rfl⟩) (va_recv hK hP (ci := 11) (q0 := 0) rfl rfl) hK hP hD hS hA rfl hl.1 rfl (Nat.le_of_ble_eq_true rfl) dX12_clocks_28 ⟨Nat.zero_le _, Nat.zero_le _⟩ (fun r_2 S_3 H locs hw hP hD hS => ?_)
        refine lv_iload_n hx hb dX12_clocks_31 rfl (lv_at hl 1 rfl) ?_
        obtain ⟨hc_4t, hc_4f⟩ := hw
        refine lv_icmp_ne (tgt := 41) hx hb dX12_clocks_32 (by decide) (fun c_4 => ?_) (fun c_4 => ?_)
        · have hw := hc_4f c_4
          clear hc_4t hc_4f
          refine lv_iconst (v := 0) hx hb dX12_clocks_41 (by decide) ?_
          refine lv_ior hx hb dX12_clocks_42 ?_
          refine lv_istore_n (lv' := [(2, .int (x2 ||| 0)), (0, .ref (h 31)), (1, .int x1), (3, .int x3)]) hx hb dX12_clocks_43 rfl hl (by decide) rfl (fun ls hl => ?_)
          refine lv_iinc (v := x3 + 1) (lv' := [(3, .int (x3 + 1)), (2, .int (x2 ||| 0)), (0, .ref (h 31)), (1, .int x1)]) hx hb dX12_clocks_44 hl (k := 3) rfl (k_inc (by decide)) (by decide) rfl (fun ls hl => ?_)
          refine lv_goto (tgt := 14) hx hb dX12_clocks_47 (by decide) ?_
          exact ih_14 x1 (x2 ||| 0) (x3 + 1) S_3 _ _ _ hw hP hD hS (lv_sub hl [2, 3, 1, 0] rfl)
        · have hw := hc_4t c_4
          clear hc_4t hc_4f
          refine lv_iconst (v := 1) hx hb dX12_clocks_35 (by decide) ?_
          refine lv_iload_n hx hb dX12_clocks_36 rfl (lv_at hl 3 rfl) ?_
          refine k_ishl hx hb dX12_clocks_37 ?_
          refine lv_goto (tgt := 42) hx hb dX12_clocks_38 (by decide) ?_
          refine lv_ior hx hb dX12_clocks_42 ?_
          refine lv_istore_n (lv' := [(2, .int (x2 ||| (k_shl 1 x3))), (0, .ref (h 31)), (1, .int x1), (3, .int x3)]) hx hb dX12_clocks_43 rfl hl (by decide) rfl (fun ls hl => ?_)
          refine lv_iinc (v := x3 + 1) (lv' := [(3, .int (x3 + 1)), (2, .int (x2 ||| (k_shl 1 x3))), (0, .ref (h 31)), (1, .int x1)]) hx hb dX12_clocks_44 hl (k := 3) rfl (k_inc (by decide)) (by decide) rfl (fun ls hl => ?_)
          refine lv_goto (tgt := 14) hx hb dX12_clocks_47 (by decide) ?_
          exact ih_14 x1 (x2 ||| (k_shl 1 x3)) (x3 + 1) S_3 _ _ _ hw hP hD hS (lv_sub hl [2, 3, 1, 0] rfl)
  refine lv_aload_n hx hb dX12_clocks_0 rfl (lv_at hl 0 rfl) ?_
  refine lv_iload_n hx hb dX12_clocks_1 rfl (lv_at hl 1 rfl) ?_
  refine k_callVi (As := [.int p1]) (rest := []) ⟨hx, hb, hml, hown, hts⟩ (cM_isClown l D h cy _ _ _ hw) (cwV 1 hts gX12_clocks_X12_isClown rfl rfl rfl (by decide +kernel) ⟨Nat.le_of_ble_eq_true rfl, Nat.le_of_ble_eq_true rfl⟩) (va_recv hK hP (ci := 11) (q0 := 0) rfl rfl) hK hP hD hS hA rfl hl.1 rfl (Nat.le_of_ble_eq_true rfl) dX12_clocks_2 ⟨Nat.zero_le _, Nat.zero_le _⟩ (fun r_5 S_6 H locs hw hP hD hS => ?_)
  obtain ⟨hc_7t, hc_7f⟩ := hw
  refine lv_if_ne (tgt := 10) hx hb dX12_clocks_5 (by decide) (fun c_7 => ?_) (fun c_7 => ?_)
  · have hw := hc_7f c_7
    clear hc_7t hc_7f
    refine lv_iconst (v := 0) hx hb dX12_clocks_10 (by decide) ?_
    refine lv_istore_n (lv' := [(2, .int 0), (0, .ref (h 31)), (1, .int p1)]) hx hb dX12_clocks_11 rfl hl (by decide) rfl (fun ls hl => ?_)
    refine lv_iconst (v := 0) hx hb dX12_clocks_12 (by decide) ?_
    refine lv_istore_n (lv' := [(3, .int 0), (2, .int 0), (0, .ref (h 31)), (1, .int p1)]) hx hb dX12_clocks_13 rfl hl (by decide) rfl (fun ls hl => ?_)
    obtain ⟨n_14, hw⟩ := hw
    exact L_14 n_14 p1 0 0 S_6 _ _ _ hw hP hD hS (lv_sub hl [2, 3, 1, 0] rfl)
  · have hw := hc_7t c_7
    clear hc_7t hc_7f
    refine lv_iconst (v := (-1)) hx hb dX12_clocks_8 (by decide) ?_
    exact W.iret (v := (-1)) hx hb hr (fun t ht hW => ⟨⟨(-1), S_6, rfl, hw, by rw [ht]; exact hP, va_K.moved hW.alike hK, hD⟩, hS.F ht⟩) hS.2.2 dX12_clocks_9
def wM_saddest_4 (post : Int32 → MS → Prop) : Nat → Int32 → Int32 → MS → Prop
  | 0, _, _, _ => False
  | n + 1, x1, x2, S => ((((ms_a S) 0) ≤ x2 → post x1 S) ∧ (¬ (((ms_a S) 0) ≤ x2) → ((x1 = (-1) → wM_saddest_4 post n x2 (x2 + 1) S) ∧ (¬ (x1 = (-1)) → wM_get x2 0 S (fun r_3 S_4 => wM_get x1 0 S_4 (fun r_5 S_6 => ((r_3 ≤ r_5 → wM_saddest_4 post n x1 (x2 + 1) S_6) ∧ (¬ (r_3 ≤ r_5) → wM_saddest_4 post n x2 (x2 + 1) S_6))))))))
def wM_saddest (S : MS) (post : Int32 → MS → Prop) : Prop := ∃ k_ : Nat, wM_saddest_4 post k_ (-1) 0 S
set_option maxHeartbeats 4000000 in
set_option maxRecDepth 100000 in
theorem cM_saddest (l : Launch) (D : va_G) (h : Nat → Nat) (cy : Nat → ClassId) (S : MS) (post : Int32 → MS → Prop) (hw : wM_saddest S post) : k_Mi l yX12_saddest wsX12_saddest { frames := 1, cells := 0, slots := 0, locals := 22 } D (tyM cy) (wM h cy) [.ref (h 31)] S post := by
  intro sz
  refine Met.ofW (cc := cX12_saddest) (maxL := 3) (ret := (some .int)) (by decide) rfl ?_
  intro p e s m args below meth c s₁ B hml hv
  obtain ⟨rfl, hsz, hP, hK, hD0⟩ := hv
  have hx := B.exec
  have hb := B.bytes
  have hr := B.returns
  have hts := atoms_spec (ws := wsX12_saddest) B.pre
  have hown : s.vm.findClass RX12 = some m.cls := findClass_of_methodNamed B.named
  have hlocks := B.notSynchronized
  subst hsz
  have hD := hD0.self (sz := s.heap.size)
  generalize hAe : va_A (wM h cy S) s.heap.size = A at hD ⊢
  have hA : ∀ q : Nat, s.heap.size ≤ q → A q := fun q h => by rw [← hAe]; exact Or.inr h
  have hS : va_S A s.heap s.heap [] := va_S.rf
  have hin : ∀ w ∈ wsX120, w ∈ wsX12_saddest := fun _ h => List.mem_cons_of_mem _ (List.mem_append_right _ h)
  have w7 := hts (.fieldLink RX12 7 "ClownsMournModel" "a" "[I") (List.mem_of_getElem? (i := 1) rfl)
  have hl := lv_entry ([.ref (h 31)]) (n := 3) (Nat.le_of_ble_eq_true rfl)
  rw [lg_entry_eq]
  generalize (lg_sl ([.ref (h 31)]) ++ List.replicate (3 - (lg_sl ([.ref (h 31)])).length) Slot.unset).toArray = ls at hl ⊢
  have hl : lv_has ls 3 [(0, .ref (h 31))] := hl
  unfold wM_saddest at hw
  clear hD0
  have L_4 : ∀ (n4 : Nat) (x1 : Int32) (x2 : Int32) (S : MS) (H : Heap) (locs : List Loc) (ls : Array Slot), wM_saddest_4 post n4 x1 x2 S → va_P D vwCl (wM h cy S) H → va_D A (wM h cy S) → va_S A s.heap H locs → lv_has ls 3 [(0, .ref (h 31)), (1, .int x1), (2, .int x2)] → W p l e (headSpec wsX12_saddest { frames := 1, cells := 0, slots := 0, locals := 22 }).room s m (([.ref (h 31)] : List Value).toArray) below meth c H locs 0 0 (MQ below (va_Qi post (k_Post D (tyM cy) (wM h cy) A) A) (([.ref (h 31)] : List Value).toArray) s 0 0 A) (F0 m 4 ls []) := by
    intro n4
    induction n4 with
    | zero => intro x1 x2 S H locs ls hw; exact False.elim hw
    | succ n4 ih_4 =>
      intro x1 x2 S H locs ls hw hP hD hS hl
      unfold wM_saddest_4 at hw
      refine lv_iload_n hx hb dX12_saddest_4 rfl (lv_at hl 2 rfl) ?_
      refine lv_aload_n hx hb dX12_saddest_5 rfl (lv_at hl 0 rfl) ?_
      refine va_get (D := D) (ci := 11) (v := .ref (h 0)) (C := RX12) (T := TX12) (N := 31) hx hb hts hin hown hK hP 0 rfl rfl 0 (by decide) w7 (fun _ h9 => h9) rfl dX12_saddest_6 ?_
      refine lv_iconst (v := 0) hx hb dX12_saddest_9 (by decide) ?_
      refine k_iald (f := (ms_a S)) (j := 0) hx hb hK hP 1 0 rfl rfl (by decide +kernel) rfl dX12_saddest_10 ?_
      obtain ⟨hc_1t, hc_1f⟩ := hw
      refine lv_icmp_ge (tgt := 42) hx hb dX12_saddest_11 (by decide) (fun c_1 => ?_) (fun c_1 => ?_)
      · have hw := hc_1t c_1
        clear hc_1t hc_1f
        refine lv_iload_n hx hb dX12_saddest_42 rfl (lv_at hl 1 rfl) ?_
        exact W.iret (v := x1) hx hb hr (fun t ht hW => ⟨⟨x1, S, rfl, hw, by rw [ht]; exact hP, va_K.moved hW.alike hK, hD⟩, hS.F ht⟩) hS.2.2 dX12_saddest_43
      · have hw := hc_1f c_1
        clear hc_1t hc_1f
        refine lv_iload_n hx hb dX12_saddest_14 rfl (lv_at hl 1 rfl) ?_
        refine lv_iconst (v := (-1)) hx hb dX12_saddest_15 (by decide) ?_
        obtain ⟨hc_2t, hc_2f⟩ := hw
        refine lv_icmp_eq (tgt := 34) hx hb dX12_saddest_16 (by decide) (fun c_2 => ?_) (fun c_2 => ?_)
        · have hw := hc_2t c_2
          clear hc_2t hc_2f
          refine lv_iload_n hx hb dX12_saddest_34 rfl (lv_at hl 2 rfl) ?_
          refine lv_istore_n (lv' := [(1, .int x2), (0, .ref (h 31)), (2, .int x2)]) hx hb dX12_saddest_35 rfl hl (by decide) rfl (fun ls hl => ?_)
          refine lv_iinc (v := x2 + 1) (lv' := [(2, .int (x2 + 1)), (1, .int x2), (0, .ref (h 31))]) hx hb dX12_saddest_36 hl (k := 2) rfl (k_inc (by decide)) (by decide) rfl (fun ls hl => ?_)
          refine lv_goto (tgt := 4) hx hb dX12_saddest_39 (by decide) ?_
          exact ih_4 x2 (x2 + 1) S _ _ _ hw hP hD hS (lv_sub hl [2, 1, 0] rfl)
        · have hw := hc_2f c_2
          clear hc_2t hc_2f
          refine lv_aload_n hx hb dX12_saddest_19 rfl (lv_at hl 0 rfl) ?_
          refine lv_iload_n hx hb dX12_saddest_20 rfl (lv_at hl 2 rfl) ?_
          refine lv_iconst (v := 0) hx hb dX12_saddest_21 (by decide) ?_
          refine k_callVi (As := [.int x2, .int 0]) (rest := []) ⟨hx, hb, hml, hown, hts⟩ (cM_get l D h cy _ _ _ _ hw) (cwV 2 hts gX12_saddest_X12_get rfl rfl rfl (by decide +kernel) ⟨Nat.le_of_ble_eq_true rfl, Nat.le_of_ble_eq_true rfl⟩) (va_recv hK hP (ci := 11) (q0 := 0) rfl rfl) hK hP hD hS hA rfl hl.1 rfl (Nat.le_of_ble_eq_true rfl) dX12_saddest_22 ⟨Nat.zero_le _, Nat.zero_le _⟩ (fun r_3 S_4 H locs hw hP hD hS => ?_)
          refine lv_aload_n hx hb dX12_saddest_25 rfl (lv_at hl 0 rfl) ?_
          refine lv_iload_n hx hb dX12_saddest_26 rfl (lv_at hl 1 rfl) ?_
          refine lv_iconst (v := 0) hx hb dX12_saddest_27 (by decide) ?_
          refine k_callVi (As := [.int x1, .int 0]) (rest := [.int r_3]) ⟨hx, hb, hml, hown, hts⟩ (cM_get l D h cy _ _ _ _ hw) (cwV 2 hts gX12_saddest_X12_get rfl rfl rfl (by decide +kernel) ⟨Nat.le_of_ble_eq_true rfl, Nat.le_of_ble_eq_true rfl⟩) (va_recv hK hP (ci := 11) (q0 := 0) rfl rfl) hK hP hD hS hA rfl hl.1 rfl (Nat.le_of_ble_eq_true rfl) dX12_saddest_28 ⟨Nat.zero_le _, Nat.zero_le _⟩ (fun r_5 S_6 H locs hw hP hD hS => ?_)
          obtain ⟨hc_7t, hc_7f⟩ := hw
          refine lv_icmp_le (tgt := 36) hx hb dX12_saddest_31 (by decide) (fun c_7 => ?_) (fun c_7 => ?_)
          · have hw := hc_7t c_7
            clear hc_7t hc_7f
            refine lv_iinc (v := x2 + 1) (lv' := [(2, .int (x2 + 1)), (0, .ref (h 31)), (1, .int x1)]) hx hb dX12_saddest_36 hl (k := 2) rfl (k_inc (by decide)) (by decide) rfl (fun ls hl => ?_)
            refine lv_goto (tgt := 4) hx hb dX12_saddest_39 (by decide) ?_
            exact ih_4 x1 (x2 + 1) S_6 _ _ _ hw hP hD hS (lv_sub hl [1, 2, 0] rfl)
          · have hw := hc_7f c_7
            clear hc_7t hc_7f
            refine lv_iload_n hx hb dX12_saddest_34 rfl (lv_at hl 2 rfl) ?_
            refine lv_istore_n (lv' := [(1, .int x2), (0, .ref (h 31)), (2, .int x2)]) hx hb dX12_saddest_35 rfl hl (by decide) rfl (fun ls hl => ?_)
            refine lv_iinc (v := x2 + 1) (lv' := [(2, .int (x2 + 1)), (1, .int x2), (0, .ref (h 31))]) hx hb dX12_saddest_36 hl (k := 2) rfl (k_inc (by decide)) (by decide) rfl (fun ls hl => ?_)
            refine lv_goto (tgt := 4) hx hb dX12_saddest_39 (by decide) ?_
            exact ih_4 x2 (x2 + 1) S_6 _ _ _ hw hP hD hS (lv_sub hl [2, 1, 0] rfl)
  refine lv_iconst (v := (-1)) hx hb dX12_saddest_0 (by decide) ?_
  refine lv_istore_n (lv' := [(1, .int (-1)), (0, .ref (h 31))]) hx hb dX12_saddest_1 rfl hl (by decide) rfl (fun ls hl => ?_)
  refine lv_iconst (v := 0) hx hb dX12_saddest_2 (by decide) ?_
  refine lv_istore_n (lv' := [(2, .int 0), (1, .int (-1)), (0, .ref (h 31))]) hx hb dX12_saddest_3 rfl hl (by decide) rfl (fun ls hl => ?_)
  obtain ⟨n_4, hw⟩ := hw
  exact L_4 n_4 (-1) 0 S _ _ _ hw hP hD hS (lv_sub hl [2, 1, 0] rfl)
def wM_tiredest_4 (post : Int32 → MS → Prop) : Nat → Int32 → Int32 → MS → Prop
  | 0, _, _, _ => False
  | n + 1, x1, x2, S => ((((ms_a S) 1) ≤ x2 → post x1 S) ∧ (¬ (((ms_a S) 1) ≤ x2) → ((x1 = (-1) → wM_tiredest_4 post n x2 (x2 + 1) S) ∧ (¬ (x1 = (-1)) → wM_own x2 0 S (fun r_3 S_4 => wM_own x1 0 S_4 (fun r_5 S_6 => ((r_3 ≤ r_5 → wM_tiredest_4 post n x1 (x2 + 1) S_6) ∧ (¬ (r_3 ≤ r_5) → wM_tiredest_4 post n x2 (x2 + 1) S_6))))))))
def wM_tiredest (S : MS) (post : Int32 → MS → Prop) : Prop := ∃ k_ : Nat, wM_tiredest_4 post k_ (-1) 0 S
set_option maxHeartbeats 4000000 in
set_option maxRecDepth 100000 in
theorem cM_tiredest (l : Launch) (D : va_G) (h : Nat → Nat) (cy : Nat → ClassId) (S : MS) (post : Int32 → MS → Prop) (hw : wM_tiredest S post) : k_Mi l yX12_tiredest wsX12_tiredest { frames := 1, cells := 0, slots := 0, locals := 22 } D (tyM cy) (wM h cy) [.ref (h 31)] S post := by
  intro sz
  refine Met.ofW (cc := cX12_tiredest) (maxL := 3) (ret := (some .int)) (by decide) rfl ?_
  intro p e s m args below meth c s₁ B hml hv
  obtain ⟨rfl, hsz, hP, hK, hD0⟩ := hv
  have hx := B.exec
  have hb := B.bytes
  have hr := B.returns
  have hts := atoms_spec (ws := wsX12_tiredest) B.pre
  have hown : s.vm.findClass RX12 = some m.cls := findClass_of_methodNamed B.named
  have hlocks := B.notSynchronized
  subst hsz
  have hD := hD0.self (sz := s.heap.size)
  generalize hAe : va_A (wM h cy S) s.heap.size = A at hD ⊢
  have hA : ∀ q : Nat, s.heap.size ≤ q → A q := fun q h => by rw [← hAe]; exact Or.inr h
  have hS : va_S A s.heap s.heap [] := va_S.rf
  have hin : ∀ w ∈ wsX120, w ∈ wsX12_tiredest := fun _ h => List.mem_cons_of_mem _ (List.mem_append_right _ h)
  have w7 := hts (.fieldLink RX12 7 "ClownsMournModel" "a" "[I") (List.mem_of_getElem? (i := 1) rfl)
  have hl := lv_entry ([.ref (h 31)]) (n := 3) (Nat.le_of_ble_eq_true rfl)
  rw [lg_entry_eq]
  generalize (lg_sl ([.ref (h 31)]) ++ List.replicate (3 - (lg_sl ([.ref (h 31)])).length) Slot.unset).toArray = ls at hl ⊢
  have hl : lv_has ls 3 [(0, .ref (h 31))] := hl
  unfold wM_tiredest at hw
  clear hD0
  have L_4 : ∀ (n4 : Nat) (x1 : Int32) (x2 : Int32) (S : MS) (H : Heap) (locs : List Loc) (ls : Array Slot), wM_tiredest_4 post n4 x1 x2 S → va_P D vwCl (wM h cy S) H → va_D A (wM h cy S) → va_S A s.heap H locs → lv_has ls 3 [(0, .ref (h 31)), (1, .int x1), (2, .int x2)] → W p l e (headSpec wsX12_tiredest { frames := 1, cells := 0, slots := 0, locals := 22 }).room s m (([.ref (h 31)] : List Value).toArray) below meth c H locs 0 0 (MQ below (va_Qi post (k_Post D (tyM cy) (wM h cy) A) A) (([.ref (h 31)] : List Value).toArray) s 0 0 A) (F0 m 4 ls []) := by
    intro n4
    induction n4 with
    | zero => intro x1 x2 S H locs ls hw; exact False.elim hw
    | succ n4 ih_4 =>
      intro x1 x2 S H locs ls hw hP hD hS hl
      unfold wM_tiredest_4 at hw
      refine lv_iload_n hx hb dX12_tiredest_4 rfl (lv_at hl 2 rfl) ?_
      refine lv_aload_n hx hb dX12_tiredest_5 rfl (lv_at hl 0 rfl) ?_
      refine va_get (D := D) (ci := 11) (v := .ref (h 0)) (C := RX12) (T := TX12) (N := 31) hx hb hts hin hown hK hP 0 rfl rfl 0 (by decide) w7 (fun _ h9 => h9) rfl dX12_tiredest_6 ?_
      refine lv_iconst (v := 1) hx hb dX12_tiredest_9 (by decide) ?_
      refine k_iald (f := (ms_a S)) (j := 1) hx hb hK hP 1 0 rfl rfl (by decide +kernel) rfl dX12_tiredest_10 ?_
      obtain ⟨hc_1t, hc_1f⟩ := hw
      refine lv_icmp_ge (tgt := 42) hx hb dX12_tiredest_11 (by decide) (fun c_1 => ?_) (fun c_1 => ?_)
      · have hw := hc_1t c_1
        clear hc_1t hc_1f
        refine lv_iload_n hx hb dX12_tiredest_42 rfl (lv_at hl 1 rfl) ?_
        exact W.iret (v := x1) hx hb hr (fun t ht hW => ⟨⟨x1, S, rfl, hw, by rw [ht]; exact hP, va_K.moved hW.alike hK, hD⟩, hS.F ht⟩) hS.2.2 dX12_tiredest_43
      · have hw := hc_1f c_1
        clear hc_1t hc_1f
        refine lv_iload_n hx hb dX12_tiredest_14 rfl (lv_at hl 1 rfl) ?_
        refine lv_iconst (v := (-1)) hx hb dX12_tiredest_15 (by decide) ?_
        obtain ⟨hc_2t, hc_2f⟩ := hw
        refine lv_icmp_eq (tgt := 34) hx hb dX12_tiredest_16 (by decide) (fun c_2 => ?_) (fun c_2 => ?_)
        · have hw := hc_2t c_2
          clear hc_2t hc_2f
          refine lv_iload_n hx hb dX12_tiredest_34 rfl (lv_at hl 2 rfl) ?_
          refine lv_istore_n (lv' := [(1, .int x2), (0, .ref (h 31)), (2, .int x2)]) hx hb dX12_tiredest_35 rfl hl (by decide) rfl (fun ls hl => ?_)
          refine lv_iinc (v := x2 + 1) (lv' := [(2, .int (x2 + 1)), (1, .int x2), (0, .ref (h 31))]) hx hb dX12_tiredest_36 hl (k := 2) rfl (k_inc (by decide)) (by decide) rfl (fun ls hl => ?_)
          refine lv_goto (tgt := 4) hx hb dX12_tiredest_39 (by decide) ?_
          exact ih_4 x2 (x2 + 1) S _ _ _ hw hP hD hS (lv_sub hl [2, 1, 0] rfl)
        · have hw := hc_2f c_2
          clear hc_2t hc_2f
          refine lv_aload_n hx hb dX12_tiredest_19 rfl (lv_at hl 0 rfl) ?_
          refine lv_iload_n hx hb dX12_tiredest_20 rfl (lv_at hl 2 rfl) ?_
          refine lv_iconst (v := 0) hx hb dX12_tiredest_21 (by decide) ?_
          refine k_callVi (As := [.int x2, .int 0]) (rest := []) ⟨hx, hb, hml, hown, hts⟩ (cM_own l D h cy _ _ _ _ hw) (cwV 2 hts gX12_tiredest_X12_own rfl rfl rfl (by decide +kernel) ⟨Nat.le_of_ble_eq_true rfl, Nat.le_of_ble_eq_true rfl⟩) (va_recv hK hP (ci := 11) (q0 := 0) rfl rfl) hK hP hD hS hA rfl hl.1 rfl (Nat.le_of_ble_eq_true rfl) dX12_tiredest_22 ⟨Nat.zero_le _, Nat.zero_le _⟩ (fun r_3 S_4 H locs hw hP hD hS => ?_)
          refine lv_aload_n hx hb dX12_tiredest_25 rfl (lv_at hl 0 rfl) ?_
          refine lv_iload_n hx hb dX12_tiredest_26 rfl (lv_at hl 1 rfl) ?_
          refine lv_iconst (v := 0) hx hb dX12_tiredest_27 (by decide) ?_
          refine k_callVi (As := [.int x1, .int 0]) (rest := [.int r_3]) ⟨hx, hb, hml, hown, hts⟩ (cM_own l D h cy _ _ _ _ hw) (cwV 2 hts gX12_tiredest_X12_own rfl rfl rfl (by decide +kernel) ⟨Nat.le_of_ble_eq_true rfl, Nat.le_of_ble_eq_true rfl⟩) (va_recv hK hP (ci := 11) (q0 := 0) rfl rfl) hK hP hD hS hA rfl hl.1 rfl (Nat.le_of_ble_eq_true rfl) dX12_tiredest_28 ⟨Nat.zero_le _, Nat.zero_le _⟩ (fun r_5 S_6 H locs hw hP hD hS => ?_)
          obtain ⟨hc_7t, hc_7f⟩ := hw
          refine lv_icmp_le (tgt := 36) hx hb dX12_tiredest_31 (by decide) (fun c_7 => ?_) (fun c_7 => ?_)
          · have hw := hc_7t c_7
            clear hc_7t hc_7f
            refine lv_iinc (v := x2 + 1) (lv' := [(2, .int (x2 + 1)), (0, .ref (h 31)), (1, .int x1)]) hx hb dX12_tiredest_36 hl (k := 2) rfl (k_inc (by decide)) (by decide) rfl (fun ls hl => ?_)
            refine lv_goto (tgt := 4) hx hb dX12_tiredest_39 (by decide) ?_
            exact ih_4 x1 (x2 + 1) S_6 _ _ _ hw hP hD hS (lv_sub hl [1, 2, 0] rfl)
          · have hw := hc_7f c_7
            clear hc_7t hc_7f
            refine lv_iload_n hx hb dX12_tiredest_34 rfl (lv_at hl 2 rfl) ?_
            refine lv_istore_n (lv' := [(1, .int x2), (0, .ref (h 31)), (2, .int x2)]) hx hb dX12_tiredest_35 rfl hl (by decide) rfl (fun ls hl => ?_)
            refine lv_iinc (v := x2 + 1) (lv' := [(2, .int (x2 + 1)), (1, .int x2), (0, .ref (h 31))]) hx hb dX12_tiredest_36 hl (k := 2) rfl (k_inc (by decide)) (by decide) rfl (fun ls hl => ?_)
            refine lv_goto (tgt := 4) hx hb dX12_tiredest_39 (by decide) ?_
            exact ih_4 x2 (x2 + 1) S_6 _ _ _ hw hP hD hS (lv_sub hl [2, 1, 0] rfl)
  refine lv_iconst (v := (-1)) hx hb dX12_tiredest_0 (by decide) ?_
  refine lv_istore_n (lv' := [(1, .int (-1)), (0, .ref (h 31))]) hx hb dX12_tiredest_1 rfl hl (by decide) rfl (fun ls hl => ?_)
  refine lv_iconst (v := 0) hx hb dX12_tiredest_2 (by decide) ?_
  refine lv_istore_n (lv' := [(2, .int 0), (1, .int (-1)), (0, .ref (h 31))]) hx hb dX12_tiredest_3 rfl hl (by decide) rfl (fun ls hl => ?_)
  obtain ⟨n_4, hw⟩ := hw
  exact L_4 n_4 (-1) 0 S _ _ _ hw hP hD hS (lv_sub hl [2, 1, 0] rfl)
def wM_sitting_4 (post : Int32 → MS → Prop) : Nat → Int32 → Int32 → MS → Prop
  | 0, _, _, _ => False
  | n + 1, x1, x2, S => ((((ms_a S) 1) ≤ x2 → post x1 S) ∧ (¬ (((ms_a S) 1) ≤ x2) → wM_isAtHouse x2 S (fun r_2 S_3 => ((r_2 = 0 → wM_sitting_4 post n (x1 ||| 0) (x2 + 1) S_3) ∧ (¬ (r_2 = 0) → wM_own x2 0 S_3 (fun r_5 S_6 => ((r_5 = 9 → wM_sitting_4 post n (x1 ||| (k_shl 1 x2)) (x2 + 1) S_6) ∧ (¬ (r_5 = 9) → wM_sitting_4 post n (x1 ||| 0) (x2 + 1) S_6))))))))
def wM_sitting (S : MS) (post : Int32 → MS → Prop) : Prop := ∃ k_ : Nat, wM_sitting_4 post k_ 0 0 S
set_option maxHeartbeats 4000000 in
set_option maxRecDepth 100000 in
theorem cM_sitting (l : Launch) (D : va_G) (h : Nat → Nat) (cy : Nat → ClassId) (S : MS) (post : Int32 → MS → Prop) (hw : wM_sitting S post) : k_Mi l yX12_sitting wsX12_sitting { frames := 3, cells := 0, slots := 0, locals := 64 } D (tyM cy) (wM h cy) [.ref (h 31)] S post := by
  intro sz
  refine Met.ofW (cc := cX12_sitting) (maxL := 3) (ret := (some .int)) (by decide) rfl ?_
  intro p e s m args below meth c s₁ B hml hv
  obtain ⟨rfl, hsz, hP, hK, hD0⟩ := hv
  have hx := B.exec
  have hb := B.bytes
  have hr := B.returns
  have hts := atoms_spec (ws := wsX12_sitting) B.pre
  have hown : s.vm.findClass RX12 = some m.cls := findClass_of_methodNamed B.named
  have hlocks := B.notSynchronized
  subst hsz
  have hD := hD0.self (sz := s.heap.size)
  generalize hAe : va_A (wM h cy S) s.heap.size = A at hD ⊢
  have hA : ∀ q : Nat, s.heap.size ≤ q → A q := fun q h => by rw [← hAe]; exact Or.inr h
  have hS : va_S A s.heap s.heap [] := va_S.rf
  have hin : ∀ w ∈ wsX120, w ∈ wsX12_sitting := fun _ h => List.mem_cons_of_mem _ (List.mem_append_right _ h)
  have w7 := hts (.fieldLink RX12 7 "ClownsMournModel" "a" "[I") (List.mem_of_getElem? (i := 1) rfl)
  have hl := lv_entry ([.ref (h 31)]) (n := 3) (Nat.le_of_ble_eq_true rfl)
  rw [lg_entry_eq]
  generalize (lg_sl ([.ref (h 31)]) ++ List.replicate (3 - (lg_sl ([.ref (h 31)])).length) Slot.unset).toArray = ls at hl ⊢
  have hl : lv_has ls 3 [(0, .ref (h 31))] := hl
  unfold wM_sitting at hw
  clear hD0
  have L_4 : ∀ (n4 : Nat) (x1 : Int32) (x2 : Int32) (S : MS) (H : Heap) (locs : List Loc) (ls : Array Slot), wM_sitting_4 post n4 x1 x2 S → va_P D vwCl (wM h cy S) H → va_D A (wM h cy S) → va_S A s.heap H locs → lv_has ls 3 [(0, .ref (h 31)), (1, .int x1), (2, .int x2)] → W p l e (headSpec wsX12_sitting { frames := 3, cells := 0, slots := 0, locals := 64 }).room s m (([.ref (h 31)] : List Value).toArray) below meth c H locs 0 0 (MQ below (va_Qi post (k_Post D (tyM cy) (wM h cy) A) A) (([.ref (h 31)] : List Value).toArray) s 0 0 A) (F0 m 4 ls []) := by
    intro n4
    induction n4 with
    | zero => intro x1 x2 S H locs ls hw; exact False.elim hw
    | succ n4 ih_4 =>
      intro x1 x2 S H locs ls hw hP hD hS hl
      unfold wM_sitting_4 at hw
      refine lv_iload_n hx hb dX12_sitting_4 rfl (lv_at hl 2 rfl) ?_
      refine lv_aload_n hx hb dX12_sitting_5 rfl (lv_at hl 0 rfl) ?_
      refine va_get (D := D) (ci := 11) (v := .ref (h 0)) (C := RX12) (T := TX12) (N := 31) hx hb hts hin hown hK hP 0 rfl rfl 0 (by decide) w7 (fun _ h9 => h9) rfl dX12_sitting_6 ?_
      refine lv_iconst (v := 1) hx hb dX12_sitting_9 (by decide) ?_
      refine k_iald (f := (ms_a S)) (j := 1) hx hb hK hP 1 0 rfl rfl (by decide +kernel) rfl dX12_sitting_10 ?_
      obtain ⟨hc_1t, hc_1f⟩ := hw
      refine lv_icmp_ge (tgt := 49) hx hb dX12_sitting_11 (by decide) (fun c_1 => ?_) (fun c_1 => ?_)
      · have hw := hc_1t c_1
        clear hc_1t hc_1f
        refine lv_iload_n hx hb dX12_sitting_49 rfl (lv_at hl 1 rfl) ?_
        exact W.iret (v := x1) hx hb hr (fun t ht hW => ⟨⟨x1, S, rfl, hw, by rw [ht]; exact hP, va_K.moved hW.alike hK, hD⟩, hS.F ht⟩) hS.2.2 dX12_sitting_50
      · have hw := hc_1f c_1
        clear hc_1t hc_1f
        refine lv_iload_n hx hb dX12_sitting_14 rfl (lv_at hl 1 rfl) ?_
        refine lv_aload_n hx hb dX12_sitting_15 rfl (lv_at hl 0 rfl) ?_
        refine lv_iload_n hx hb dX12_sitting_16 rfl (lv_at hl 2 rfl) ?_
        refine k_callVi (As := [.int x2]) (rest := [.int x1]) ⟨hx, hb, hml, hown, hts⟩ (cM_isAtHouse l D h cy _ _ _ hw) (cwV 1 hts gX12_sitting_X12_isAtHouse rfl rfl rfl (by decide +kernel) ⟨Nat.le_of_ble_eq_true rfl, Nat.le_of_ble_eq_true rfl⟩) (va_recv hK hP (ci := 11) (q0 := 0) rfl rfl) hK hP hD hS hA rfl hl.1 rfl (Nat.le_of_ble_eq_true rfl) dX12_sitting_17 ⟨Nat.zero_le _, Nat.zero_le _⟩ (fun r_2 S_3 H locs hw hP hD hS => ?_)
        obtain ⟨hc_4t, hc_4f⟩ := hw
        refine lv_if_eq (tgt := 40) hx hb dX12_sitting_20 (by decide) (fun c_4 => ?_) (fun c_4 => ?_)
        · have hw := hc_4t c_4
          clear hc_4t hc_4f
          refine lv_iconst (v := 0) hx hb dX12_sitting_40 (by decide) ?_
          refine lv_ior hx hb dX12_sitting_41 ?_
          refine lv_istore_n (lv' := [(1, .int (x1 ||| 0)), (0, .ref (h 31)), (2, .int x2)]) hx hb dX12_sitting_42 rfl hl (by decide) rfl (fun ls hl => ?_)
          refine lv_iinc (v := x2 + 1) (lv' := [(2, .int (x2 + 1)), (1, .int (x1 ||| 0)), (0, .ref (h 31))]) hx hb dX12_sitting_43 hl (k := 2) rfl (k_inc (by decide)) (by decide) rfl (fun ls hl => ?_)
          refine lv_goto (tgt := 4) hx hb dX12_sitting_46 (by decide) ?_
          exact ih_4 (x1 ||| 0) (x2 + 1) S_3 _ _ _ hw hP hD hS (lv_sub hl [2, 1, 0] rfl)
        · have hw := hc_4f c_4
          clear hc_4t hc_4f
          refine lv_aload_n hx hb dX12_sitting_23 rfl (lv_at hl 0 rfl) ?_
          refine lv_iload_n hx hb dX12_sitting_24 rfl (lv_at hl 2 rfl) ?_
          refine lv_iconst (v := 0) hx hb dX12_sitting_25 (by decide) ?_
          refine k_callVi (As := [.int x2, .int 0]) (rest := [.int x1]) ⟨hx, hb, hml, hown, hts⟩ (cM_own l D h cy _ _ _ _ hw) (cwV 2 hts gX12_sitting_X12_own rfl rfl rfl (by decide +kernel) ⟨Nat.le_of_ble_eq_true rfl, Nat.le_of_ble_eq_true rfl⟩) (va_recv hK hP (ci := 11) (q0 := 0) rfl rfl) hK hP hD hS hA rfl hl.1 rfl (Nat.le_of_ble_eq_true rfl) dX12_sitting_26 ⟨Nat.zero_le _, Nat.zero_le _⟩ (fun r_5 S_6 H locs hw hP hD hS => ?_)
          refine lv_bipush (v := 9) hx hb dX12_sitting_29 (by decide) ?_
          obtain ⟨hc_7t, hc_7f⟩ := hw
          refine lv_icmp_ne (tgt := 40) hx hb dX12_sitting_31 (by decide) (fun c_7 => ?_) (fun c_7 => ?_)
          · have hw := hc_7f c_7
            clear hc_7t hc_7f
            refine lv_iconst (v := 0) hx hb dX12_sitting_40 (by decide) ?_
            refine lv_ior hx hb dX12_sitting_41 ?_
            refine lv_istore_n (lv' := [(1, .int (x1 ||| 0)), (0, .ref (h 31)), (2, .int x2)]) hx hb dX12_sitting_42 rfl hl (by decide) rfl (fun ls hl => ?_)
            refine lv_iinc (v := x2 + 1) (lv' := [(2, .int (x2 + 1)), (1, .int (x1 ||| 0)), (0, .ref (h 31))]) hx hb dX12_sitting_43 hl (k := 2) rfl (k_inc (by decide)) (by decide) rfl (fun ls hl => ?_)
            refine lv_goto (tgt := 4) hx hb dX12_sitting_46 (by decide) ?_
            exact ih_4 (x1 ||| 0) (x2 + 1) S_6 _ _ _ hw hP hD hS (lv_sub hl [2, 1, 0] rfl)
          · have hw := hc_7t c_7
            clear hc_7t hc_7f
            refine lv_iconst (v := 1) hx hb dX12_sitting_34 (by decide) ?_
            refine lv_iload_n hx hb dX12_sitting_35 rfl (lv_at hl 2 rfl) ?_
            refine k_ishl hx hb dX12_sitting_36 ?_
            refine lv_goto (tgt := 41) hx hb dX12_sitting_37 (by decide) ?_
            refine lv_ior hx hb dX12_sitting_41 ?_
            refine lv_istore_n (lv' := [(1, .int (x1 ||| (k_shl 1 x2))), (0, .ref (h 31)), (2, .int x2)]) hx hb dX12_sitting_42 rfl hl (by decide) rfl (fun ls hl => ?_)
            refine lv_iinc (v := x2 + 1) (lv' := [(2, .int (x2 + 1)), (1, .int (x1 ||| (k_shl 1 x2))), (0, .ref (h 31))]) hx hb dX12_sitting_43 hl (k := 2) rfl (k_inc (by decide)) (by decide) rfl (fun ls hl => ?_)
            refine lv_goto (tgt := 4) hx hb dX12_sitting_46 (by decide) ?_
            exact ih_4 (x1 ||| (k_shl 1 x2)) (x2 + 1) S_6 _ _ _ hw hP hD hS (lv_sub hl [2, 1, 0] rfl)
  refine lv_iconst (v := 0) hx hb dX12_sitting_0 (by decide) ?_
  refine lv_istore_n (lv' := [(1, .int 0), (0, .ref (h 31))]) hx hb dX12_sitting_1 rfl hl (by decide) rfl (fun ls hl => ?_)
  refine lv_iconst (v := 0) hx hb dX12_sitting_2 (by decide) ?_
  refine lv_istore_n (lv' := [(2, .int 0), (1, .int 0), (0, .ref (h 31))]) hx hb dX12_sitting_3 rfl hl (by decide) rfl (fun ls hl => ?_)
  obtain ⟨n_4, hw⟩ := hw
  exact L_4 n_4 0 0 S _ _ _ hw hP hD hS (lv_sub hl [2, 1, 0] rfl)
def wM_setAside_3 (post : MS → Prop) : Nat → Int32 → MS → Prop
  | 0, _, _ => False
  | n + 1, x1, S => ((71 ≤ x1 → post S) ∧ (¬ (71 ≤ x1) → (vp_in x1 2454 ∧ (vp_in x1 71 ∧ ∀ S_2 : MS, S_2 = (ms_set_aside S (upd (ms_aside S) (x1.toNatClampNeg) ((ms_a S) x1.toNatClampNeg))) → wM_setAside_3 post n (x1 + 1) S_2))))
def wM_setAside (S : MS) (post : MS → Prop) : Prop := ∃ k_ : Nat, wM_setAside_3 post k_ 7 S
set_option maxHeartbeats 4000000 in
set_option maxRecDepth 100000 in
theorem cM_setAside (l : Launch) (D : va_G) (h : Nat → Nat) (cy : Nat → ClassId) (S : MS) (post : MS → Prop) (hw : wM_setAside S post) : k_Mv l yX12_setAside wsX12_setAside { frames := 0, cells := 0, slots := 0, locals := 0 } D (tyM cy) (wM h cy) [.ref (h 31)] S post := by
  intro sz
  refine Met.ofW (cc := cX12_setAside) (maxL := 2) (ret := none) (by decide) rfl ?_
  intro p e s m args below meth c s₁ B hml hv
  obtain ⟨rfl, hsz, hP, hK, hD0⟩ := hv
  have hx := B.exec
  have hb := B.bytes
  have hr := B.returns
  have hts := atoms_spec (ws := wsX12_setAside) B.pre
  have hown : s.vm.findClass RX12 = some m.cls := findClass_of_methodNamed B.named
  have hlocks := B.notSynchronized
  subst hsz
  have hD := hD0.self (sz := s.heap.size)
  generalize hAe : va_A (wM h cy S) s.heap.size = A at hD ⊢
  have hA : ∀ q : Nat, s.heap.size ≤ q → A q := fun q h => by rw [← hAe]; exact Or.inr h
  have hS : va_S A s.heap s.heap [] := va_S.rf
  have hin : ∀ w ∈ wsX120, w ∈ wsX12_setAside := fun _ h => List.mem_cons_of_mem _ (List.mem_append_right _ h)
  have w7 := hts (.fieldLink RX12 7 "ClownsMournModel" "a" "[I") (List.mem_of_getElem? (i := 2) rfl)
  have w43 := hts (.fieldLink RX12 43 "ClownsMournModel" "aside" "[I") (List.mem_of_getElem? (i := 1) rfl)
  have hl := lv_entry ([.ref (h 31)]) (n := 2) (Nat.le_of_ble_eq_true rfl)
  rw [lg_entry_eq]
  generalize (lg_sl ([.ref (h 31)]) ++ List.replicate (2 - (lg_sl ([.ref (h 31)])).length) Slot.unset).toArray = ls at hl ⊢
  have hl : lv_has ls 2 [(0, .ref (h 31))] := hl
  unfold wM_setAside at hw
  clear hD0
  have L_3 : ∀ (n3 : Nat) (x1 : Int32) (S : MS) (H : Heap) (locs : List Loc) (ls : Array Slot), wM_setAside_3 post n3 x1 S → va_P D vwCl (wM h cy S) H → va_D A (wM h cy S) → va_S A s.heap H locs → lv_has ls 2 [(0, .ref (h 31)), (1, .int x1)] → W p l e (headSpec wsX12_setAside { frames := 0, cells := 0, slots := 0, locals := 0 }).room s m (([.ref (h 31)] : List Value).toArray) below meth c H locs 0 0 (MQ below (va_Qv post (k_Post D (tyM cy) (wM h cy) A) A) (([.ref (h 31)] : List Value).toArray) s 0 0 A) (F0 m 3 ls []) := by
    intro n3
    induction n3 with
    | zero => intro x1 S H locs ls hw; exact False.elim hw
    | succ n3 ih_3 =>
      intro x1 S H locs ls hw hP hD hS hl
      unfold wM_setAside_3 at hw
      refine lv_iload_n hx hb dX12_setAside_3 rfl (lv_at hl 1 rfl) ?_
      refine lv_bipush (v := 71) hx hb dX12_setAside_4 (by decide) ?_
      obtain ⟨hc_1t, hc_1f⟩ := hw
      refine lv_icmp_ge (tgt := 27) hx hb dX12_setAside_6 (by decide) (fun c_1 => ?_) (fun c_1 => ?_)
      · have hw := hc_1t c_1
        clear hc_1t hc_1f
        exact W.vret hx hb hr (fun t ht hW => ⟨⟨S, rfl, hw, by rw [ht]; exact hP, va_K.moved hW.alike hK, hD⟩, hS.F ht⟩) hS.2.2 dX12_setAside_27
      · have hw := hc_1f c_1
        clear hc_1t hc_1f
        refine lv_aload_n hx hb dX12_setAside_9 rfl (lv_at hl 0 rfl) ?_
        refine va_get (D := D) (ci := 11) (v := .ref (h 23)) (C := RX12) (T := TX12) (N := 31) hx hb hts hin hown hK hP 0 rfl rfl 23 (by decide) w43 (fun _ h9 => h9) rfl dX12_setAside_10 ?_
        refine lv_iload_n hx hb dX12_setAside_13 rfl (lv_at hl 1 rfl) ?_
        refine lv_aload_n hx hb dX12_setAside_14 rfl (lv_at hl 0 rfl) ?_
        refine va_get (D := D) (ci := 11) (v := .ref (h 0)) (C := RX12) (T := TX12) (N := 31) hx hb hts hin hown hK hP 0 rfl rfl 0 (by decide) w7 (fun _ h9 => h9) rfl dX12_setAside_15 ?_
        refine lv_iload_n hx hb dX12_setAside_18 rfl (lv_at hl 1 rfl) ?_
        obtain ⟨hi_4, hw⟩ := hw
        refine va_iald (f := (ms_a S)) hx hb hK hP 1 0 rfl rfl hi_4 dX12_setAside_19 ?_
        obtain ⟨hi_3, hw⟩ := hw
        refine va_iast (f := (ms_aside S)) hx hb hK hP hD hS 9 8 rfl rfl hi_3 dX12_setAside_20 (fun H locs hP hD hS => ?_)
        obtain ⟨S_2, eS_2⟩ : ∃ z : MS, z = (ms_set_aside S (upd (ms_aside S) (x1.toNatClampNeg) ((ms_a S) x1.toNatClampNeg))) := ⟨_, rfl⟩
        have hw := hw S_2 eS_2
        have hP : va_P D vwCl (wM h cy S_2) H := by rw [eS_2, ← wMs_aside]; exact hP
        have hD : va_D A (wM h cy S_2) := by rw [eS_2, ← wMs_aside]; exact hD
        refine lv_iinc (v := x1 + 1) (lv' := [(1, .int (x1 + 1)), (0, .ref (h 31))]) hx hb dX12_setAside_21 hl (k := 1) rfl (k_inc (by decide)) (by decide) rfl (fun ls hl => ?_)
        refine lv_goto (tgt := 3) hx hb dX12_setAside_24 (by decide) ?_
        exact ih_3 (x1 + 1) S_2 _ _ _ hw hP hD hS (lv_sub hl [1, 0] rfl)
  refine lv_bipush (v := 7) hx hb dX12_setAside_0 (by decide) ?_
  refine lv_istore_n (lv' := [(1, .int 7), (0, .ref (h 31))]) hx hb dX12_setAside_2 rfl hl (by decide) rfl (fun ls hl => ?_)
  obtain ⟨n_3, hw⟩ := hw
  exact L_3 n_3 7 S _ _ _ hw hP hD hS (lv_sub hl [1, 0] rfl)
def wM_putBack_3 (post : MS → Prop) : Nat → Int32 → MS → Prop
  | 0, _, _ => False
  | n + 1, x1, S => ((71 ≤ x1 → post S) ∧ (¬ (71 ≤ x1) → (vp_in x1 71 ∧ (vp_in x1 2454 ∧ ∀ S_2 : MS, S_2 = (ms_set_a S (upd (ms_a S) (x1.toNatClampNeg) ((ms_aside S) x1.toNatClampNeg))) → wM_putBack_3 post n (x1 + 1) S_2))))
def wM_putBack (S : MS) (post : MS → Prop) : Prop := ∃ k_ : Nat, wM_putBack_3 post k_ 7 S
set_option maxHeartbeats 4000000 in
set_option maxRecDepth 100000 in
theorem cM_putBack (l : Launch) (D : va_G) (h : Nat → Nat) (cy : Nat → ClassId) (S : MS) (post : MS → Prop) (hw : wM_putBack S post) : k_Mv l yX12_putBack wsX12_putBack { frames := 0, cells := 0, slots := 0, locals := 0 } D (tyM cy) (wM h cy) [.ref (h 31)] S post := by
  intro sz
  refine Met.ofW (cc := cX12_putBack) (maxL := 2) (ret := none) (by decide) rfl ?_
  intro p e s m args below meth c s₁ B hml hv
  obtain ⟨rfl, hsz, hP, hK, hD0⟩ := hv
  have hx := B.exec
  have hb := B.bytes
  have hr := B.returns
  have hts := atoms_spec (ws := wsX12_putBack) B.pre
  have hown : s.vm.findClass RX12 = some m.cls := findClass_of_methodNamed B.named
  have hlocks := B.notSynchronized
  subst hsz
  have hD := hD0.self (sz := s.heap.size)
  generalize hAe : va_A (wM h cy S) s.heap.size = A at hD ⊢
  have hA : ∀ q : Nat, s.heap.size ≤ q → A q := fun q h => by rw [← hAe]; exact Or.inr h
  have hS : va_S A s.heap s.heap [] := va_S.rf
  have hin : ∀ w ∈ wsX120, w ∈ wsX12_putBack := fun _ h => List.mem_cons_of_mem _ (List.mem_append_right _ h)
  have w7 := hts (.fieldLink RX12 7 "ClownsMournModel" "a" "[I") (List.mem_of_getElem? (i := 1) rfl)
  have w43 := hts (.fieldLink RX12 43 "ClownsMournModel" "aside" "[I") (List.mem_of_getElem? (i := 2) rfl)
  have hl := lv_entry ([.ref (h 31)]) (n := 2) (Nat.le_of_ble_eq_true rfl)
  rw [lg_entry_eq]
  generalize (lg_sl ([.ref (h 31)]) ++ List.replicate (2 - (lg_sl ([.ref (h 31)])).length) Slot.unset).toArray = ls at hl ⊢
  have hl : lv_has ls 2 [(0, .ref (h 31))] := hl
  unfold wM_putBack at hw
  clear hD0
  have L_3 : ∀ (n3 : Nat) (x1 : Int32) (S : MS) (H : Heap) (locs : List Loc) (ls : Array Slot), wM_putBack_3 post n3 x1 S → va_P D vwCl (wM h cy S) H → va_D A (wM h cy S) → va_S A s.heap H locs → lv_has ls 2 [(0, .ref (h 31)), (1, .int x1)] → W p l e (headSpec wsX12_putBack { frames := 0, cells := 0, slots := 0, locals := 0 }).room s m (([.ref (h 31)] : List Value).toArray) below meth c H locs 0 0 (MQ below (va_Qv post (k_Post D (tyM cy) (wM h cy) A) A) (([.ref (h 31)] : List Value).toArray) s 0 0 A) (F0 m 3 ls []) := by
    intro n3
    induction n3 with
    | zero => intro x1 S H locs ls hw; exact False.elim hw
    | succ n3 ih_3 =>
      intro x1 S H locs ls hw hP hD hS hl
      unfold wM_putBack_3 at hw
      refine lv_iload_n hx hb dX12_putBack_3 rfl (lv_at hl 1 rfl) ?_
      refine lv_bipush (v := 71) hx hb dX12_putBack_4 (by decide) ?_
      obtain ⟨hc_1t, hc_1f⟩ := hw
      refine lv_icmp_ge (tgt := 27) hx hb dX12_putBack_6 (by decide) (fun c_1 => ?_) (fun c_1 => ?_)
      · have hw := hc_1t c_1
        clear hc_1t hc_1f
        exact W.vret hx hb hr (fun t ht hW => ⟨⟨S, rfl, hw, by rw [ht]; exact hP, va_K.moved hW.alike hK, hD⟩, hS.F ht⟩) hS.2.2 dX12_putBack_27
      · have hw := hc_1f c_1
        clear hc_1t hc_1f
        refine lv_aload_n hx hb dX12_putBack_9 rfl (lv_at hl 0 rfl) ?_
        refine va_get (D := D) (ci := 11) (v := .ref (h 0)) (C := RX12) (T := TX12) (N := 31) hx hb hts hin hown hK hP 0 rfl rfl 0 (by decide) w7 (fun _ h9 => h9) rfl dX12_putBack_10 ?_
        refine lv_iload_n hx hb dX12_putBack_13 rfl (lv_at hl 1 rfl) ?_
        refine lv_aload_n hx hb dX12_putBack_14 rfl (lv_at hl 0 rfl) ?_
        refine va_get (D := D) (ci := 11) (v := .ref (h 23)) (C := RX12) (T := TX12) (N := 31) hx hb hts hin hown hK hP 0 rfl rfl 23 (by decide) w43 (fun _ h9 => h9) rfl dX12_putBack_15 ?_
        refine lv_iload_n hx hb dX12_putBack_18 rfl (lv_at hl 1 rfl) ?_
        obtain ⟨hi_4, hw⟩ := hw
        refine va_iald (f := (ms_aside S)) hx hb hK hP 9 8 rfl rfl hi_4 dX12_putBack_19 ?_
        obtain ⟨hi_3, hw⟩ := hw
        refine va_iast (f := (ms_a S)) hx hb hK hP hD hS 1 0 rfl rfl hi_3 dX12_putBack_20 (fun H locs hP hD hS => ?_)
        obtain ⟨S_2, eS_2⟩ : ∃ z : MS, z = (ms_set_a S (upd (ms_a S) (x1.toNatClampNeg) ((ms_aside S) x1.toNatClampNeg))) := ⟨_, rfl⟩
        have hw := hw S_2 eS_2
        have hP : va_P D vwCl (wM h cy S_2) H := by rw [eS_2, ← wMs_a]; exact hP
        have hD : va_D A (wM h cy S_2) := by rw [eS_2, ← wMs_a]; exact hD
        refine lv_iinc (v := x1 + 1) (lv' := [(1, .int (x1 + 1)), (0, .ref (h 31))]) hx hb dX12_putBack_21 hl (k := 1) rfl (k_inc (by decide)) (by decide) rfl (fun ls hl => ?_)
        refine lv_goto (tgt := 3) hx hb dX12_putBack_24 (by decide) ?_
        exact ih_3 (x1 + 1) S_2 _ _ _ hw hP hD hS (lv_sub hl [1, 0] rfl)
  refine lv_bipush (v := 7) hx hb dX12_putBack_0 (by decide) ?_
  refine lv_istore_n (lv' := [(1, .int 7), (0, .ref (h 31))]) hx hb dX12_putBack_2 rfl hl (by decide) rfl (fun ls hl => ?_)
  obtain ⟨n_3, hw⟩ := hw
  exact L_3 n_3 7 S _ _ _ hw hP hD hS (lv_sub hl [1, 0] rfl)
def wM_foretold_26 (post : Int32 → MS → Prop) : Nat → Int32 → Int32 → Int32 → MS → Prop
  | 0, _, _, _, _ => False
  | n + 1, x1, x2, x3, S => ((x1 ≤ x3 → wM_get x2 0 S (fun r_2 S_3 => wM_putBack S_3 (fun S_5 => post r_2 S_5))) ∧ (¬ (x1 ≤ x3) → ((9999 ≤ ((ms_a S) 7) → wM_foretold_26 post n x1 x2 (x3 + 1) S) ∧ (¬ (9999 ≤ ((ms_a S) 7)) → wM_pass S (fun S_8 => wM_foretold_26 post n x1 x2 (x3 + 1) S_8)))))
def wM_foretold (p1 : Int32) (p2 : Int32) (S : MS) (post : Int32 → MS → Prop) : Prop := wM_isIn p1 1 60 S (fun r_1 S_2 => ((r_1 = 0 → post (-1) S_2) ∧ (¬ (r_1 = 0) → wM_isHouse p2 S_2 (fun r_4 S_5 => ((r_4 = 0 → post (-1) S_5) ∧ (¬ (r_4 = 0) → wM_setAside S_5 (fun S_8 => ∃ k_ : Nat, wM_foretold_26 post k_ p1 p2 0 S_8)))))))
set_option maxHeartbeats 4000000 in
set_option maxRecDepth 100000 in
theorem cM_foretold (l : Launch) (D : va_G) (h : Nat → Nat) (cy : Nat → ClassId) (p1 : Int32) (p2 : Int32) (S : MS) (post : Int32 → MS → Prop) (hw : wM_foretold p1 p2 S post) : k_Mi l yX12_foretold wsX12_foretold { frames := 6, cells := 0, slots := 0, locals := 142 } D (tyM cy) (wM h cy) [.ref (h 31), .int p1, .int p2] S post := by
  intro sz
  refine Met.ofW (cc := cX12_foretold) (maxL := 4) (ret := (some .int)) (by decide) rfl ?_
  intro p e s m args below meth c s₁ B hml hv
  obtain ⟨rfl, hsz, hP, hK, hD0⟩ := hv
  have hx := B.exec
  have hb := B.bytes
  have hr := B.returns
  have hts := atoms_spec (ws := wsX12_foretold) B.pre
  have hown : s.vm.findClass RX12 = some m.cls := findClass_of_methodNamed B.named
  have hlocks := B.notSynchronized
  subst hsz
  have hD := hD0.self (sz := s.heap.size)
  generalize hAe : va_A (wM h cy S) s.heap.size = A at hD ⊢
  have hA : ∀ q : Nat, s.heap.size ≤ q → A q := fun q h => by rw [← hAe]; exact Or.inr h
  have hS : va_S A s.heap s.heap [] := va_S.rf
  have hin : ∀ w ∈ wsX120, w ∈ wsX12_foretold := fun _ h => List.mem_cons_of_mem _ (List.mem_append_right _ h)
  have w7 := hts (.fieldLink RX12 7 "ClownsMournModel" "a" "[I") (List.mem_of_getElem? (i := 1) rfl)
  have hl := lv_entry ([.ref (h 31), .int p1, .int p2]) (n := 4) (Nat.le_of_ble_eq_true rfl)
  rw [lg_entry_eq]
  generalize (lg_sl ([.ref (h 31), .int p1, .int p2]) ++ List.replicate (4 - (lg_sl ([.ref (h 31), .int p1, .int p2])).length) Slot.unset).toArray = ls at hl ⊢
  have hl : lv_has ls 4 [(0, .ref (h 31)), (1, .int p1), (2, .int p2)] := hl
  unfold wM_foretold at hw
  clear hD0
  have L_26 : ∀ (n26 : Nat) (x1 : Int32) (x2 : Int32) (x3 : Int32) (S : MS) (H : Heap) (locs : List Loc) (ls : Array Slot), wM_foretold_26 post n26 x1 x2 x3 S → va_P D vwCl (wM h cy S) H → va_D A (wM h cy S) → va_S A s.heap H locs → lv_has ls 4 [(0, .ref (h 31)), (1, .int x1), (2, .int x2), (3, .int x3)] → W p l e (headSpec wsX12_foretold { frames := 6, cells := 0, slots := 0, locals := 142 }).room s m (([.ref (h 31), .int p1, .int p2] : List Value).toArray) below meth c H locs 0 0 (MQ below (va_Qi post (k_Post D (tyM cy) (wM h cy) A) A) (([.ref (h 31), .int p1, .int p2] : List Value).toArray) s 0 0 A) (F0 m 26 ls []) := by
    intro n26
    induction n26 with
    | zero => intro x1 x2 x3 S H locs ls hw; exact False.elim hw
    | succ n26 ih_26 =>
      intro x1 x2 x3 S H locs ls hw hP hD hS hl
      unfold wM_foretold_26 at hw
      refine lv_iload_n hx hb dX12_foretold_26 rfl (lv_at hl 3 rfl) ?_
      refine lv_iload_n hx hb dX12_foretold_27 rfl (lv_at hl 1 rfl) ?_
      obtain ⟨hc_1t, hc_1f⟩ := hw
      refine lv_icmp_ge (tgt := 54) hx hb dX12_foretold_28 (by decide) (fun c_1 => ?_) (fun c_1 => ?_)
      · have hw := hc_1t c_1
        clear hc_1t hc_1f
        refine lv_aload_n hx hb dX12_foretold_54 rfl (lv_at hl 0 rfl) ?_
        refine lv_iload_n hx hb dX12_foretold_55 rfl (lv_at hl 2 rfl) ?_
        refine lv_iconst (v := 0) hx hb dX12_foretold_56 (by decide) ?_
        refine k_callVi (As := [.int x2, .int 0]) (rest := []) ⟨hx, hb, hml, hown, hts⟩ (cM_get l D h cy _ _ _ _ hw) (cwV 2 hts gX12_foretold_X12_get rfl rfl rfl (by decide +kernel) ⟨Nat.le_of_ble_eq_true rfl, Nat.le_of_ble_eq_true rfl⟩) (va_recv hK hP (ci := 11) (q0 := 0) rfl rfl) hK hP hD hS hA rfl hl.1 rfl (Nat.le_of_ble_eq_true rfl) dX12_foretold_57 ⟨Nat.zero_le _, Nat.zero_le _⟩ (fun r_2 S_3 H locs hw hP hD hS => ?_)
        refine lv_istore_n (lv' := [(3, .int r_2), (0, .ref (h 31)), (1, .int x1), (2, .int x2)]) hx hb dX12_foretold_60 rfl hl (by decide) rfl (fun ls hl => ?_)
        refine lv_aload_n hx hb dX12_foretold_61 rfl (lv_at hl 1 rfl) ?_
        refine k_callVv (As := []) (rest := []) ⟨hx, hb, hml, hown, hts⟩ (cM_putBack l D h cy _ _ hw) (cwV 0 hts gX12_foretold_X12_putBack rfl rfl rfl (by decide +kernel) ⟨Nat.le_of_ble_eq_true rfl, Nat.le_of_ble_eq_true rfl⟩) (va_recv hK hP (ci := 11) (q0 := 0) rfl rfl) hK hP hD hS hA rfl hl.1 rfl (Nat.le_of_ble_eq_true rfl) dX12_foretold_62 ⟨Nat.zero_le _, Nat.zero_le _⟩ (fun S_5 H locs hw hP hD hS => ?_)
        refine lv_iload_n hx hb dX12_foretold_65 rfl (lv_at hl 0 rfl) ?_
        exact W.iret (v := r_2) hx hb hr (fun t ht hW => ⟨⟨r_2, S_5, rfl, hw, by rw [ht]; exact hP, va_K.moved hW.alike hK, hD⟩, hS.F ht⟩) hS.2.2 dX12_foretold_66
      · have hw := hc_1f c_1
        clear hc_1t hc_1f
        refine lv_aload_n hx hb dX12_foretold_31 rfl (lv_at hl 0 rfl) ?_
        refine va_get (D := D) (ci := 11) (v := .ref (h 0)) (C := RX12) (T := TX12) (N := 31) hx hb hts hin hown hK hP 0 rfl rfl 0 (by decide) w7 (fun _ h9 => h9) rfl dX12_foretold_32 ?_
        refine lv_bipush (v := 7) hx hb dX12_foretold_35 (by decide) ?_
        refine k_iald (f := (ms_a S)) (j := 7) hx hb hK hP 1 0 rfl rfl (by decide +kernel) rfl dX12_foretold_37 ?_
        refine lv_sipush (v := 9999) hx hb dX12_foretold_38 (by decide) ?_
        obtain ⟨hc_6t, hc_6f⟩ := hw
        refine lv_icmp_ge (tgt := 48) hx hb dX12_foretold_41 (by decide) (fun c_6 => ?_) (fun c_6 => ?_)
        · have hw := hc_6t c_6
          clear hc_6t hc_6f
          refine lv_iinc (v := x3 + 1) (lv' := [(3, .int (x3 + 1)), (0, .ref (h 31)), (1, .int x1), (2, .int x2)]) hx hb dX12_foretold_48 hl (k := 3) rfl (k_inc (by decide)) (by decide) rfl (fun ls hl => ?_)
          refine lv_goto (tgt := 26) hx hb dX12_foretold_51 (by decide) ?_
          exact ih_26 x1 x2 (x3 + 1) S _ _ _ hw hP hD hS (lv_sub hl [1, 2, 3, 0] rfl)
        · have hw := hc_6f c_6
          clear hc_6t hc_6f
          refine lv_aload_n hx hb dX12_foretold_44 rfl (lv_at hl 0 rfl) ?_
          refine k_callVv (As := []) (rest := []) ⟨hx, hb, hml, hown, hts⟩ (cM_pass l D h cy _ _ hw) (cwV 0 hts gX12_foretold_X12_pass rfl rfl rfl (by decide +kernel) ⟨Nat.le_of_ble_eq_true rfl, Nat.le_of_ble_eq_true rfl⟩) (va_recv hK hP (ci := 11) (q0 := 0) rfl rfl) hK hP hD hS hA rfl hl.1 rfl (Nat.le_of_ble_eq_true rfl) dX12_foretold_45 ⟨Nat.zero_le _, Nat.zero_le _⟩ (fun S_8 H locs hw hP hD hS => ?_)
          refine lv_iinc (v := x3 + 1) (lv' := [(3, .int (x3 + 1)), (0, .ref (h 31)), (1, .int x1), (2, .int x2)]) hx hb dX12_foretold_48 hl (k := 3) rfl (k_inc (by decide)) (by decide) rfl (fun ls hl => ?_)
          refine lv_goto (tgt := 26) hx hb dX12_foretold_51 (by decide) ?_
          exact ih_26 x1 x2 (x3 + 1) S_8 _ _ _ hw hP hD hS (lv_sub hl [1, 2, 3, 0] rfl)
  refine lv_iload_n hx hb dX12_foretold_0 rfl (lv_at hl 1 rfl) ?_
  refine lv_iconst (v := 1) hx hb dX12_foretold_1 (by decide) ?_
  refine lv_bipush (v := 60) hx hb dX12_foretold_2 (by decide) ?_
  refine k_callSi (As := [.int p1, .int 1, .int 60]) (rest := []) ⟨hx, hb, hml, hown, hts⟩ (cM_isIn l D h cy _ _ _ _ _ hw) (va_cwS 3 hts gX12_foretold_X12_isIn rfl rfl rfl (by decide +kernel) ⟨Nat.le_of_ble_eq_true rfl, Nat.le_of_ble_eq_true rfl⟩) hK hP hD hS hA rfl hl.1 rfl (Nat.le_of_ble_eq_true rfl) dX12_foretold_4 ⟨Nat.zero_le _, Nat.zero_le _⟩ (fun r_9 S_10 H locs hw hP hD hS => ?_)
  obtain ⟨hc_11t, hc_11f⟩ := hw
  refine lv_if_eq (tgt := 18) hx hb dX12_foretold_7 (by decide) (fun c_11 => ?_) (fun c_11 => ?_)
  · have hw := hc_11t c_11
    clear hc_11t hc_11f
    refine lv_iconst (v := (-1)) hx hb dX12_foretold_18 (by decide) ?_
    exact W.iret (v := (-1)) hx hb hr (fun t ht hW => ⟨⟨(-1), S_10, rfl, hw, by rw [ht]; exact hP, va_K.moved hW.alike hK, hD⟩, hS.F ht⟩) hS.2.2 dX12_foretold_19
  · have hw := hc_11f c_11
    clear hc_11t hc_11f
    refine lv_aload_n hx hb dX12_foretold_10 rfl (lv_at hl 0 rfl) ?_
    refine lv_iload_n hx hb dX12_foretold_11 rfl (lv_at hl 2 rfl) ?_
    refine k_callVi (As := [.int p2]) (rest := []) ⟨hx, hb, hml, hown, hts⟩ (cM_isHouse l D h cy _ _ _ hw) (cwV 1 hts gX12_foretold_X12_isHouse rfl rfl rfl (by decide +kernel) ⟨Nat.le_of_ble_eq_true rfl, Nat.le_of_ble_eq_true rfl⟩) (va_recv hK hP (ci := 11) (q0 := 0) rfl rfl) hK hP hD hS hA rfl hl.1 rfl (Nat.le_of_ble_eq_true rfl) dX12_foretold_12 ⟨Nat.zero_le _, Nat.zero_le _⟩ (fun r_12 S_13 H locs hw hP hD hS => ?_)
    obtain ⟨hc_14t, hc_14f⟩ := hw
    refine lv_if_ne (tgt := 20) hx hb dX12_foretold_15 (by decide) (fun c_14 => ?_) (fun c_14 => ?_)
    · have hw := hc_14f c_14
      clear hc_14t hc_14f
      refine lv_aload_n hx hb dX12_foretold_20 rfl (lv_at hl 0 rfl) ?_
      refine k_callVv (As := []) (rest := []) ⟨hx, hb, hml, hown, hts⟩ (cM_setAside l D h cy _ _ hw) (cwV 0 hts gX12_foretold_X12_setAside rfl rfl rfl (by decide +kernel) ⟨Nat.le_of_ble_eq_true rfl, Nat.le_of_ble_eq_true rfl⟩) (va_recv hK hP (ci := 11) (q0 := 0) rfl rfl) hK hP hD hS hA rfl hl.1 rfl (Nat.le_of_ble_eq_true rfl) dX12_foretold_21 ⟨Nat.zero_le _, Nat.zero_le _⟩ (fun S_16 H locs hw hP hD hS => ?_)
      refine lv_iconst (v := 0) hx hb dX12_foretold_24 (by decide) ?_
      refine lv_istore_n (lv' := [(3, .int 0), (0, .ref (h 31)), (1, .int p1), (2, .int p2)]) hx hb dX12_foretold_25 rfl hl (by decide) rfl (fun ls hl => ?_)
      obtain ⟨n_26, hw⟩ := hw
      exact L_26 n_26 p1 p2 0 S_16 _ _ _ hw hP hD hS (lv_sub hl [1, 2, 3, 0] rfl)
    · have hw := hc_14t c_14
      clear hc_14t hc_14f
      refine lv_iconst (v := (-1)) hx hb dX12_foretold_18 (by decide) ?_
      exact W.iret (v := (-1)) hx hb hr (fun t ht hW => ⟨⟨(-1), S_13, rfl, hw, by rw [ht]; exact hP, va_K.moved hW.alike hK, hD⟩, hS.F ht⟩) hS.2.2 dX12_foretold_19
def wM_griefOfAll_4 (post : Int32 → MS → Prop) : Nat → Int32 → Int32 → MS → Prop
  | 0, _, _, _ => False
  | n + 1, x1, x2, S => ((((ms_a S) 0) ≤ x2 → post x1 S) ∧ (¬ (((ms_a S) 0) ≤ x2) → wM_get x2 0 S (fun r_2 S_3 => wM_griefOfAll_4 post n (x1 + r_2) (x2 + 1) S_3)))
def wM_griefOfAll (S : MS) (post : Int32 → MS → Prop) : Prop := ∃ k_ : Nat, wM_griefOfAll_4 post k_ 0 0 S
set_option maxHeartbeats 4000000 in
set_option maxRecDepth 100000 in
theorem cM_griefOfAll (l : Launch) (D : va_G) (h : Nat → Nat) (cy : Nat → ClassId) (S : MS) (post : Int32 → MS → Prop) (hw : wM_griefOfAll S post) : k_Mi l yX12_griefOfAll wsX12_griefOfAll { frames := 1, cells := 0, slots := 0, locals := 22 } D (tyM cy) (wM h cy) [.ref (h 31)] S post := by
  intro sz
  refine Met.ofW (cc := cX12_griefOfAll) (maxL := 3) (ret := (some .int)) (by decide) rfl ?_
  intro p e s m args below meth c s₁ B hml hv
  obtain ⟨rfl, hsz, hP, hK, hD0⟩ := hv
  have hx := B.exec
  have hb := B.bytes
  have hr := B.returns
  have hts := atoms_spec (ws := wsX12_griefOfAll) B.pre
  have hown : s.vm.findClass RX12 = some m.cls := findClass_of_methodNamed B.named
  have hlocks := B.notSynchronized
  subst hsz
  have hD := hD0.self (sz := s.heap.size)
  generalize hAe : va_A (wM h cy S) s.heap.size = A at hD ⊢
  have hA : ∀ q : Nat, s.heap.size ≤ q → A q := fun q h => by rw [← hAe]; exact Or.inr h
  have hS : va_S A s.heap s.heap [] := va_S.rf
  have hin : ∀ w ∈ wsX120, w ∈ wsX12_griefOfAll := fun _ h => List.mem_cons_of_mem _ (List.mem_append_right _ h)
  have w7 := hts (.fieldLink RX12 7 "ClownsMournModel" "a" "[I") (List.mem_of_getElem? (i := 1) rfl)
  have hl := lv_entry ([.ref (h 31)]) (n := 3) (Nat.le_of_ble_eq_true rfl)
  rw [lg_entry_eq]
  generalize (lg_sl ([.ref (h 31)]) ++ List.replicate (3 - (lg_sl ([.ref (h 31)])).length) Slot.unset).toArray = ls at hl ⊢
  have hl : lv_has ls 3 [(0, .ref (h 31))] := hl
  unfold wM_griefOfAll at hw
  clear hD0
  have L_4 : ∀ (n4 : Nat) (x1 : Int32) (x2 : Int32) (S : MS) (H : Heap) (locs : List Loc) (ls : Array Slot), wM_griefOfAll_4 post n4 x1 x2 S → va_P D vwCl (wM h cy S) H → va_D A (wM h cy S) → va_S A s.heap H locs → lv_has ls 3 [(0, .ref (h 31)), (1, .int x1), (2, .int x2)] → W p l e (headSpec wsX12_griefOfAll { frames := 1, cells := 0, slots := 0, locals := 22 }).room s m (([.ref (h 31)] : List Value).toArray) below meth c H locs 0 0 (MQ below (va_Qi post (k_Post D (tyM cy) (wM h cy) A) A) (([.ref (h 31)] : List Value).toArray) s 0 0 A) (F0 m 4 ls []) := by
    intro n4
    induction n4 with
    | zero => intro x1 x2 S H locs ls hw; exact False.elim hw
    | succ n4 ih_4 =>
      intro x1 x2 S H locs ls hw hP hD hS hl
      unfold wM_griefOfAll_4 at hw
      refine lv_iload_n hx hb dX12_griefOfAll_4 rfl (lv_at hl 2 rfl) ?_
      refine lv_aload_n hx hb dX12_griefOfAll_5 rfl (lv_at hl 0 rfl) ?_
      refine va_get (D := D) (ci := 11) (v := .ref (h 0)) (C := RX12) (T := TX12) (N := 31) hx hb hts hin hown hK hP 0 rfl rfl 0 (by decide) w7 (fun _ h9 => h9) rfl dX12_griefOfAll_6 ?_
      refine lv_iconst (v := 0) hx hb dX12_griefOfAll_9 (by decide) ?_
      refine k_iald (f := (ms_a S)) (j := 0) hx hb hK hP 1 0 rfl rfl (by decide +kernel) rfl dX12_griefOfAll_10 ?_
      obtain ⟨hc_1t, hc_1f⟩ := hw
      refine lv_icmp_ge (tgt := 29) hx hb dX12_griefOfAll_11 (by decide) (fun c_1 => ?_) (fun c_1 => ?_)
      · have hw := hc_1t c_1
        clear hc_1t hc_1f
        refine lv_iload_n hx hb dX12_griefOfAll_29 rfl (lv_at hl 1 rfl) ?_
        exact W.iret (v := x1) hx hb hr (fun t ht hW => ⟨⟨x1, S, rfl, hw, by rw [ht]; exact hP, va_K.moved hW.alike hK, hD⟩, hS.F ht⟩) hS.2.2 dX12_griefOfAll_30
      · have hw := hc_1f c_1
        clear hc_1t hc_1f
        refine lv_iload_n hx hb dX12_griefOfAll_14 rfl (lv_at hl 1 rfl) ?_
        refine lv_aload_n hx hb dX12_griefOfAll_15 rfl (lv_at hl 0 rfl) ?_
        refine lv_iload_n hx hb dX12_griefOfAll_16 rfl (lv_at hl 2 rfl) ?_
        refine lv_iconst (v := 0) hx hb dX12_griefOfAll_17 (by decide) ?_
        refine k_callVi (As := [.int x2, .int 0]) (rest := [.int x1]) ⟨hx, hb, hml, hown, hts⟩ (cM_get l D h cy _ _ _ _ hw) (cwV 2 hts gX12_griefOfAll_X12_get rfl rfl rfl (by decide +kernel) ⟨Nat.le_of_ble_eq_true rfl, Nat.le_of_ble_eq_true rfl⟩) (va_recv hK hP (ci := 11) (q0 := 0) rfl rfl) hK hP hD hS hA rfl hl.1 rfl (Nat.le_of_ble_eq_true rfl) dX12_griefOfAll_18 ⟨Nat.zero_le _, Nat.zero_le _⟩ (fun r_2 S_3 H locs hw hP hD hS => ?_)
        refine lv_iadd hx hb dX12_griefOfAll_21 ?_
        refine lv_istore_n (lv' := [(1, .int (x1 + r_2)), (0, .ref (h 31)), (2, .int x2)]) hx hb dX12_griefOfAll_22 rfl hl (by decide) rfl (fun ls hl => ?_)
        refine lv_iinc (v := x2 + 1) (lv' := [(2, .int (x2 + 1)), (1, .int (x1 + r_2)), (0, .ref (h 31))]) hx hb dX12_griefOfAll_23 hl (k := 2) rfl (k_inc (by decide)) (by decide) rfl (fun ls hl => ?_)
        refine lv_goto (tgt := 4) hx hb dX12_griefOfAll_26 (by decide) ?_
        exact ih_4 (x1 + r_2) (x2 + 1) S_3 _ _ _ hw hP hD hS (lv_sub hl [2, 1, 0] rfl)
  refine lv_iconst (v := 0) hx hb dX12_griefOfAll_0 (by decide) ?_
  refine lv_istore_n (lv' := [(1, .int 0), (0, .ref (h 31))]) hx hb dX12_griefOfAll_1 rfl hl (by decide) rfl (fun ls hl => ?_)
  refine lv_iconst (v := 0) hx hb dX12_griefOfAll_2 (by decide) ?_
  refine lv_istore_n (lv' := [(2, .int 0), (1, .int 0), (0, .ref (h 31))]) hx hb dX12_griefOfAll_3 rfl hl (by decide) rfl (fun ls hl => ?_)
  obtain ⟨n_4, hw⟩ := hw
  exact L_4 n_4 0 0 S _ _ _ hw hP hD hS (lv_sub hl [2, 1, 0] rfl)
def wM_heavy_56 (post : Int32 → MS → Prop) (x1 : Int32) (x2 : Int32) (S : MS) : Prop := wM_griefOfAll S (fun r_1 S_2 => ((r_1 < x1 → wM_putBack S_2 (fun S_5 => post (-1) S_5)) ∧ (¬ (r_1 < x1) → wM_putBack S_2 (fun S_7 => post x2 S_7))))
def wM_heavy_19 (post : Int32 → MS → Prop) : Nat → Int32 → Int32 → MS → Prop
  | 0, _, _, _ => False
  | n + 1, x1, x2, S => ((60 ≤ x2 → wM_heavy_56 post x1 x2 S) ∧ (¬ (60 ≤ x2) → ((9999 ≤ ((ms_a S) 7) → wM_heavy_56 post x1 x2 S) ∧ (¬ (9999 ≤ ((ms_a S) 7)) → wM_griefOfAll S (fun r_3 S_4 => ((x1 ≤ r_3 → wM_heavy_56 post x1 x2 S_4) ∧ (¬ (x1 ≤ r_3) → wM_pass S_4 (fun S_7 => wM_heavy_19 post n x1 (x2 + 1) S_7))))))))
def wM_heavy (p1 : Int32) (S : MS) (post : Int32 → MS → Prop) : Prop := wM_isIn p1 0 600 S (fun r_1 S_2 => ((r_1 = 0 → post (-1) S_2) ∧ (¬ (r_1 = 0) → wM_setAside S_2 (fun S_5 => ∃ k_ : Nat, wM_heavy_19 post k_ p1 0 S_5))))
set_option maxHeartbeats 4000000 in
set_option maxRecDepth 100000 in
theorem cM_heavy (l : Launch) (D : va_G) (h : Nat → Nat) (cy : Nat → ClassId) (p1 : Int32) (S : MS) (post : Int32 → MS → Prop) (hw : wM_heavy p1 S post) : k_Mi l yX12_heavy wsX12_heavy { frames := 6, cells := 0, slots := 0, locals := 142 } D (tyM cy) (wM h cy) [.ref (h 31), .int p1] S post := by
  intro sz
  refine Met.ofW (cc := cX12_heavy) (maxL := 4) (ret := (some .int)) (by decide) rfl ?_
  intro p e s m args below meth c s₁ B hml hv
  obtain ⟨rfl, hsz, hP, hK, hD0⟩ := hv
  have hx := B.exec
  have hb := B.bytes
  have hr := B.returns
  have hts := atoms_spec (ws := wsX12_heavy) B.pre
  have hown : s.vm.findClass RX12 = some m.cls := findClass_of_methodNamed B.named
  have hlocks := B.notSynchronized
  subst hsz
  have hD := hD0.self (sz := s.heap.size)
  generalize hAe : va_A (wM h cy S) s.heap.size = A at hD ⊢
  have hA : ∀ q : Nat, s.heap.size ≤ q → A q := fun q h => by rw [← hAe]; exact Or.inr h
  have hS : va_S A s.heap s.heap [] := va_S.rf
  have hin : ∀ w ∈ wsX120, w ∈ wsX12_heavy := fun _ h => List.mem_cons_of_mem _ (List.mem_append_right _ h)
  have w7 := hts (.fieldLink RX12 7 "ClownsMournModel" "a" "[I") (List.mem_of_getElem? (i := 1) rfl)
  have hl := lv_entry ([.ref (h 31), .int p1]) (n := 4) (Nat.le_of_ble_eq_true rfl)
  rw [lg_entry_eq]
  generalize (lg_sl ([.ref (h 31), .int p1]) ++ List.replicate (4 - (lg_sl ([.ref (h 31), .int p1])).length) Slot.unset).toArray = ls at hl ⊢
  have hl : lv_has ls 4 [(0, .ref (h 31)), (1, .int p1)] := hl
  unfold wM_heavy at hw
  clear hD0
  have J_56 : ∀ (x1 : Int32) (x2 : Int32) (S : MS) (H : Heap) (locs : List Loc) (ls : Array Slot), wM_heavy_56 post x1 x2 S → va_P D vwCl (wM h cy S) H → va_D A (wM h cy S) → va_S A s.heap H locs → lv_has ls 4 [(0, .ref (h 31)), (1, .int x1), (2, .int x2)] → W p l e (headSpec wsX12_heavy { frames := 6, cells := 0, slots := 0, locals := 142 }).room s m (([.ref (h 31), .int p1] : List Value).toArray) below meth c H locs 0 0 (MQ below (va_Qi post (k_Post D (tyM cy) (wM h cy) A) A) (([.ref (h 31), .int p1] : List Value).toArray) s 0 0 A) (F0 m 56 ls []) := by
    intro x1 x2 S H locs ls hw hP hD hS hl
    unfold wM_heavy_56 at hw
    refine lv_aload_n hx hb dX12_heavy_56 rfl (lv_at hl 0 rfl) ?_
    refine k_callVi (As := []) (rest := []) ⟨hx, hb, hml, hown, hts⟩ (cM_griefOfAll l D h cy _ _ hw) (cwV 0 hts gX12_heavy_X12_griefOfAll rfl rfl rfl (by decide +kernel) ⟨Nat.le_of_ble_eq_true rfl, Nat.le_of_ble_eq_true rfl⟩) (va_recv hK hP (ci := 11) (q0 := 0) rfl rfl) hK hP hD hS hA rfl hl.1 rfl (Nat.le_of_ble_eq_true rfl) dX12_heavy_57 ⟨Nat.zero_le _, Nat.zero_le _⟩ (fun r_1 S_2 H locs hw hP hD hS => ?_)
    refine lv_iload_n hx hb dX12_heavy_60 rfl (lv_at hl 1 rfl) ?_
    obtain ⟨hc_3t, hc_3f⟩ := hw
    refine lv_icmp_lt (tgt := 68) hx hb dX12_heavy_61 (by decide) (fun c_3 => ?_) (fun c_3 => ?_)
    · have hw := hc_3t c_3
      clear hc_3t hc_3f
      refine lv_iconst (v := (-1)) hx hb dX12_heavy_68 (by decide) ?_
      refine lv_istore_n (lv' := [(3, .int (-1)), (0, .ref (h 31)), (1, .int x1), (2, .int x2)]) hx hb dX12_heavy_69 rfl hl (by decide) rfl (fun ls hl => ?_)
      refine lv_aload_n hx hb dX12_heavy_70 rfl (lv_at hl 1 rfl) ?_
      refine k_callVv (As := []) (rest := []) ⟨hx, hb, hml, hown, hts⟩ (cM_putBack l D h cy _ _ hw) (cwV 0 hts gX12_heavy_X12_putBack rfl rfl rfl (by decide +kernel) ⟨Nat.le_of_ble_eq_true rfl, Nat.le_of_ble_eq_true rfl⟩) (va_recv hK hP (ci := 11) (q0 := 0) rfl rfl) hK hP hD hS hA rfl hl.1 rfl (Nat.le_of_ble_eq_true rfl) dX12_heavy_71 ⟨Nat.zero_le _, Nat.zero_le _⟩ (fun S_5 H locs hw hP hD hS => ?_)
      refine lv_iload_n hx hb dX12_heavy_74 rfl (lv_at hl 0 rfl) ?_
      exact W.iret (v := (-1)) hx hb hr (fun t ht hW => ⟨⟨(-1), S_5, rfl, hw, by rw [ht]; exact hP, va_K.moved hW.alike hK, hD⟩, hS.F ht⟩) hS.2.2 dX12_heavy_75
    · have hw := hc_3f c_3
      clear hc_3t hc_3f
      refine lv_iload_n hx hb dX12_heavy_64 rfl (lv_at hl 2 rfl) ?_
      refine lv_goto (tgt := 69) hx hb dX12_heavy_65 (by decide) ?_
      refine lv_istore_n (lv' := [(3, .int x2), (0, .ref (h 31)), (1, .int x1), (2, .int x2)]) hx hb dX12_heavy_69 rfl hl (by decide) rfl (fun ls hl => ?_)
      refine lv_aload_n hx hb dX12_heavy_70 rfl (lv_at hl 1 rfl) ?_
      refine k_callVv (As := []) (rest := []) ⟨hx, hb, hml, hown, hts⟩ (cM_putBack l D h cy _ _ hw) (cwV 0 hts gX12_heavy_X12_putBack rfl rfl rfl (by decide +kernel) ⟨Nat.le_of_ble_eq_true rfl, Nat.le_of_ble_eq_true rfl⟩) (va_recv hK hP (ci := 11) (q0 := 0) rfl rfl) hK hP hD hS hA rfl hl.1 rfl (Nat.le_of_ble_eq_true rfl) dX12_heavy_71 ⟨Nat.zero_le _, Nat.zero_le _⟩ (fun S_7 H locs hw hP hD hS => ?_)
      refine lv_iload_n hx hb dX12_heavy_74 rfl (lv_at hl 0 rfl) ?_
      exact W.iret (v := x2) hx hb hr (fun t ht hW => ⟨⟨x2, S_7, rfl, hw, by rw [ht]; exact hP, va_K.moved hW.alike hK, hD⟩, hS.F ht⟩) hS.2.2 dX12_heavy_75
  have L_19 : ∀ (n19 : Nat) (x1 : Int32) (x2 : Int32) (S : MS) (H : Heap) (locs : List Loc) (ls : Array Slot), wM_heavy_19 post n19 x1 x2 S → va_P D vwCl (wM h cy S) H → va_D A (wM h cy S) → va_S A s.heap H locs → lv_has ls 4 [(0, .ref (h 31)), (1, .int x1), (2, .int x2)] → W p l e (headSpec wsX12_heavy { frames := 6, cells := 0, slots := 0, locals := 142 }).room s m (([.ref (h 31), .int p1] : List Value).toArray) below meth c H locs 0 0 (MQ below (va_Qi post (k_Post D (tyM cy) (wM h cy) A) A) (([.ref (h 31), .int p1] : List Value).toArray) s 0 0 A) (F0 m 19 ls []) := by
    intro n19
    induction n19 with
    | zero => intro x1 x2 S H locs ls hw; exact False.elim hw
    | succ n19 ih_19 =>
      intro x1 x2 S H locs ls hw hP hD hS hl
      unfold wM_heavy_19 at hw
      refine lv_iload_n hx hb dX12_heavy_19 rfl (lv_at hl 2 rfl) ?_
      refine lv_bipush (v := 60) hx hb dX12_heavy_20 (by decide) ?_
      obtain ⟨hc_8t, hc_8f⟩ := hw
      refine lv_icmp_ge (tgt := 56) hx hb dX12_heavy_22 (by decide) (fun c_8 => ?_) (fun c_8 => ?_)
      · have hw := hc_8t c_8
        clear hc_8t hc_8f
        exact J_56 x1 x2 S _ _ _ hw hP hD hS (lv_sub hl [0, 1, 2] rfl)
      · have hw := hc_8f c_8
        clear hc_8t hc_8f
        refine lv_aload_n hx hb dX12_heavy_25 rfl (lv_at hl 0 rfl) ?_
        refine va_get (D := D) (ci := 11) (v := .ref (h 0)) (C := RX12) (T := TX12) (N := 31) hx hb hts hin hown hK hP 0 rfl rfl 0 (by decide) w7 (fun _ h9 => h9) rfl dX12_heavy_26 ?_
        refine lv_bipush (v := 7) hx hb dX12_heavy_29 (by decide) ?_
        refine k_iald (f := (ms_a S)) (j := 7) hx hb hK hP 1 0 rfl rfl (by decide +kernel) rfl dX12_heavy_31 ?_
        refine lv_sipush (v := 9999) hx hb dX12_heavy_32 (by decide) ?_
        obtain ⟨hc_9t, hc_9f⟩ := hw
        refine lv_icmp_ge (tgt := 56) hx hb dX12_heavy_35 (by decide) (fun c_9 => ?_) (fun c_9 => ?_)
        · have hw := hc_9t c_9
          clear hc_9t hc_9f
          exact J_56 x1 x2 S _ _ _ hw hP hD hS (lv_sub hl [0, 1, 2] rfl)
        · have hw := hc_9f c_9
          clear hc_9t hc_9f
          refine lv_aload_n hx hb dX12_heavy_38 rfl (lv_at hl 0 rfl) ?_
          refine k_callVi (As := []) (rest := []) ⟨hx, hb, hml, hown, hts⟩ (cM_griefOfAll l D h cy _ _ hw) (cwV 0 hts gX12_heavy_X12_griefOfAll rfl rfl rfl (by decide +kernel) ⟨Nat.le_of_ble_eq_true rfl, Nat.le_of_ble_eq_true rfl⟩) (va_recv hK hP (ci := 11) (q0 := 0) rfl rfl) hK hP hD hS hA rfl hl.1 rfl (Nat.le_of_ble_eq_true rfl) dX12_heavy_39 ⟨Nat.zero_le _, Nat.zero_le _⟩ (fun r_10 S_11 H locs hw hP hD hS => ?_)
          refine lv_iload_n hx hb dX12_heavy_42 rfl (lv_at hl 1 rfl) ?_
          obtain ⟨hc_12t, hc_12f⟩ := hw
          refine lv_icmp_ge (tgt := 56) hx hb dX12_heavy_43 (by decide) (fun c_12 => ?_) (fun c_12 => ?_)
          · have hw := hc_12t c_12
            clear hc_12t hc_12f
            exact J_56 x1 x2 S_11 _ _ _ hw hP hD hS (lv_sub hl [0, 1, 2] rfl)
          · have hw := hc_12f c_12
            clear hc_12t hc_12f
            refine lv_aload_n hx hb dX12_heavy_46 rfl (lv_at hl 0 rfl) ?_
            refine k_callVv (As := []) (rest := []) ⟨hx, hb, hml, hown, hts⟩ (cM_pass l D h cy _ _ hw) (cwV 0 hts gX12_heavy_X12_pass rfl rfl rfl (by decide +kernel) ⟨Nat.le_of_ble_eq_true rfl, Nat.le_of_ble_eq_true rfl⟩) (va_recv hK hP (ci := 11) (q0 := 0) rfl rfl) hK hP hD hS hA rfl hl.1 rfl (Nat.le_of_ble_eq_true rfl) dX12_heavy_47 ⟨Nat.zero_le _, Nat.zero_le _⟩ (fun S_14 H locs hw hP hD hS => ?_)
            refine lv_iinc (v := x2 + 1) (lv' := [(2, .int (x2 + 1)), (0, .ref (h 31)), (1, .int x1)]) hx hb dX12_heavy_50 hl (k := 2) rfl (k_inc (by decide)) (by decide) rfl (fun ls hl => ?_)
            refine lv_goto (tgt := 19) hx hb dX12_heavy_53 (by decide) ?_
            exact ih_19 x1 (x2 + 1) S_14 _ _ _ hw hP hD hS (lv_sub hl [1, 2, 0] rfl)
  refine lv_iload_n hx hb dX12_heavy_0 rfl (lv_at hl 1 rfl) ?_
  refine lv_iconst (v := 0) hx hb dX12_heavy_1 (by decide) ?_
  refine lv_sipush (v := 600) hx hb dX12_heavy_2 (by decide) ?_
  refine k_callSi (As := [.int p1, .int 0, .int 600]) (rest := []) ⟨hx, hb, hml, hown, hts⟩ (cM_isIn l D h cy _ _ _ _ _ hw) (va_cwS 3 hts gX12_heavy_X12_isIn rfl rfl rfl (by decide +kernel) ⟨Nat.le_of_ble_eq_true rfl, Nat.le_of_ble_eq_true rfl⟩) hK hP hD hS hA rfl hl.1 rfl (Nat.le_of_ble_eq_true rfl) dX12_heavy_5 ⟨Nat.zero_le _, Nat.zero_le _⟩ (fun r_15 S_16 H locs hw hP hD hS => ?_)
  obtain ⟨hc_17t, hc_17f⟩ := hw
  refine lv_if_ne (tgt := 13) hx hb dX12_heavy_8 (by decide) (fun c_17 => ?_) (fun c_17 => ?_)
  · have hw := hc_17f c_17
    clear hc_17t hc_17f
    refine lv_aload_n hx hb dX12_heavy_13 rfl (lv_at hl 0 rfl) ?_
    refine k_callVv (As := []) (rest := []) ⟨hx, hb, hml, hown, hts⟩ (cM_setAside l D h cy _ _ hw) (cwV 0 hts gX12_heavy_X12_setAside rfl rfl rfl (by decide +kernel) ⟨Nat.le_of_ble_eq_true rfl, Nat.le_of_ble_eq_true rfl⟩) (va_recv hK hP (ci := 11) (q0 := 0) rfl rfl) hK hP hD hS hA rfl hl.1 rfl (Nat.le_of_ble_eq_true rfl) dX12_heavy_14 ⟨Nat.zero_le _, Nat.zero_le _⟩ (fun S_19 H locs hw hP hD hS => ?_)
    refine lv_iconst (v := 0) hx hb dX12_heavy_17 (by decide) ?_
    refine lv_istore_n (lv' := [(2, .int 0), (0, .ref (h 31)), (1, .int p1)]) hx hb dX12_heavy_18 rfl hl (by decide) rfl (fun ls hl => ?_)
    obtain ⟨n_19, hw⟩ := hw
    exact L_19 n_19 p1 0 S_19 _ _ _ hw hP hD hS (lv_sub hl [1, 2, 0] rfl)
  · have hw := hc_17t c_17
    clear hc_17t hc_17f
    refine lv_iconst (v := (-1)) hx hb dX12_heavy_11 (by decide) ?_
    exact W.iret (v := (-1)) hx hb hr (fun t ht hW => ⟨⟨(-1), S_16, rfl, hw, by rw [ht]; exact hP, va_K.moved hW.alike hK, hD⟩, hS.F ht⟩) hS.2.2 dX12_heavy_12
def wM_told (p1 : Int32) (p2 : Int32) (S : MS) (post : Int32 → MS → Prop) : Prop := wM_isKind p1 S (fun r_1 S_2 => ((r_1 = 0 → post (-1) S_2) ∧ (¬ (r_1 = 0) → wM_isIn p2 0 9 S_2 (fun r_4 S_5 => ((r_4 = 0 → post (-1) S_5) ∧ (¬ (r_4 = 0) → wM_moodBy p1 p2 S_5 (fun r_7 S_8 => post r_7 S_8)))))))
set_option maxHeartbeats 4000000 in
set_option maxRecDepth 100000 in
theorem cM_told (l : Launch) (D : va_G) (h : Nat → Nat) (cy : Nat → ClassId) (p1 : Int32) (p2 : Int32) (S : MS) (post : Int32 → MS → Prop) (hw : wM_told p1 p2 S post) : k_Mi l yX12_told wsX12_told { frames := 2, cells := 0, slots := 0, locals := 42 } D (tyM cy) (wM h cy) [.ref (h 31), .int p1, .int p2] S post := by
  intro sz
  refine Met.ofW (cc := cX12_told) (maxL := 3) (ret := (some .int)) (by decide) rfl ?_
  intro p e s m args below meth c s₁ B hml hv
  obtain ⟨rfl, hsz, hP, hK, hD0⟩ := hv
  have hx := B.exec
  have hb := B.bytes
  have hr := B.returns
  have hts := atoms_spec (ws := wsX12_told) B.pre
  have hown : s.vm.findClass RX12 = some m.cls := findClass_of_methodNamed B.named
  have hlocks := B.notSynchronized
  subst hsz
  have hD := hD0.self (sz := s.heap.size)
  generalize hAe : va_A (wM h cy S) s.heap.size = A at hD ⊢
  have hA : ∀ q : Nat, s.heap.size ≤ q → A q := fun q h => by rw [← hAe]; exact Or.inr h
  have hS : va_S A s.heap s.heap [] := va_S.rf
  have hl := lv_entry ([.ref (h 31), .int p1, .int p2]) (n := 3) (Nat.le_of_ble_eq_true rfl)
  rw [lg_entry_eq]
  generalize (lg_sl ([.ref (h 31), .int p1, .int p2]) ++ List.replicate (3 - (lg_sl ([.ref (h 31), .int p1, .int p2])).length) Slot.unset).toArray = ls at hl ⊢
  have hl : lv_has ls 3 [(0, .ref (h 31)), (1, .int p1), (2, .int p2)] := hl
  unfold wM_told at hw
  clear hD0
  refine lv_iload_n hx hb dX12_told_0 rfl (lv_at hl 1 rfl) ?_
  refine k_callSi (As := [.int p1]) (rest := []) ⟨hx, hb, hml, hown, hts⟩ (cM_isKind l D h cy _ _ _ hw) (va_cwS 1 hts gX12_told_X12_isKind rfl rfl rfl (by decide +kernel) ⟨Nat.le_of_ble_eq_true rfl, Nat.le_of_ble_eq_true rfl⟩) hK hP hD hS hA rfl hl.1 rfl (Nat.le_of_ble_eq_true rfl) dX12_told_1 ⟨Nat.zero_le _, Nat.zero_le _⟩ (fun r_1 S_2 H locs hw hP hD hS => ?_)
  obtain ⟨hc_3t, hc_3f⟩ := hw
  refine lv_if_eq (tgt := 26) hx hb dX12_told_4 (by decide) (fun c_3 => ?_) (fun c_3 => ?_)
  · have hw := hc_3t c_3
    clear hc_3t hc_3f
    refine lv_iconst (v := (-1)) hx hb dX12_told_26 (by decide) ?_
    exact W.iret (v := (-1)) hx hb hr (fun t ht hW => ⟨⟨(-1), S_2, rfl, hw, by rw [ht]; exact hP, va_K.moved hW.alike hK, hD⟩, hS.F ht⟩) hS.2.2 dX12_told_27
  · have hw := hc_3f c_3
    clear hc_3t hc_3f
    refine lv_iload_n hx hb dX12_told_7 rfl (lv_at hl 2 rfl) ?_
    refine lv_iconst (v := 0) hx hb dX12_told_8 (by decide) ?_
    refine lv_bipush (v := 9) hx hb dX12_told_9 (by decide) ?_
    refine k_callSi (As := [.int p2, .int 0, .int 9]) (rest := []) ⟨hx, hb, hml, hown, hts⟩ (cM_isIn l D h cy _ _ _ _ _ hw) (va_cwS 3 hts gX12_told_X12_isIn rfl rfl rfl (by decide +kernel) ⟨Nat.le_of_ble_eq_true rfl, Nat.le_of_ble_eq_true rfl⟩) hK hP hD hS hA rfl hl.1 rfl (Nat.le_of_ble_eq_true rfl) dX12_told_11 ⟨Nat.zero_le _, Nat.zero_le _⟩ (fun r_4 S_5 H locs hw hP hD hS => ?_)
    obtain ⟨hc_6t, hc_6f⟩ := hw
    refine lv_if_eq (tgt := 26) hx hb dX12_told_14 (by decide) (fun c_6 => ?_) (fun c_6 => ?_)
    · have hw := hc_6t c_6
      clear hc_6t hc_6f
      refine lv_iconst (v := (-1)) hx hb dX12_told_26 (by decide) ?_
      exact W.iret (v := (-1)) hx hb hr (fun t ht hW => ⟨⟨(-1), S_5, rfl, hw, by rw [ht]; exact hP, va_K.moved hW.alike hK, hD⟩, hS.F ht⟩) hS.2.2 dX12_told_27
    · have hw := hc_6f c_6
      clear hc_6t hc_6f
      refine lv_aload_n hx hb dX12_told_17 rfl (lv_at hl 0 rfl) ?_
      refine lv_iload_n hx hb dX12_told_18 rfl (lv_at hl 1 rfl) ?_
      refine lv_iload_n hx hb dX12_told_19 rfl (lv_at hl 2 rfl) ?_
      refine k_callVi (As := [.int p1, .int p2]) (rest := []) ⟨hx, hb, hml, hown, hts⟩ (cM_moodBy l D h cy _ _ _ _ hw) (cwV 2 hts gX12_told_X12_moodBy rfl rfl rfl (by decide +kernel) ⟨Nat.le_of_ble_eq_true rfl, Nat.le_of_ble_eq_true rfl⟩) (va_recv hK hP (ci := 11) (q0 := 0) rfl rfl) hK hP hD hS hA rfl hl.1 rfl (Nat.le_of_ble_eq_true rfl) dX12_told_20 ⟨Nat.zero_le _, Nat.zero_le _⟩ (fun r_7 S_8 H locs hw hP hD hS => ?_)
      refine lv_goto (tgt := 27) hx hb dX12_told_23 (by decide) ?_
      exact W.iret (v := r_7) hx hb hr (fun t ht hW => ⟨⟨r_7, S_8, rfl, hw, by rw [ht]; exact hP, va_K.moved hW.alike hK, hD⟩, hS.F ht⟩) hS.2.2 dX12_told_27
def wM_beginAt_2 (post : MS → Prop) : Nat → Int32 → Int32 → Int32 → MS → Prop
  | 0, _, _, _, _ => False
  | n + 1, x1, x2, x3, S => ((x2 ≤ x3 → (∀ S_2 : MS, S_2 = (ms_set_line S (upd (ms_line S) 0 x1)) → (vp_in x1 10000 ∧ ∀ S_3 : MS, S_3 = (ms_set_depth S_2 (upd (ms_depth S_2) (x1.toNatClampNeg) 0)) → (vp_in x1 10000 ∧ ∀ S_4 : MS, S_4 = (ms_set_from S_3 (upd (ms_from S_3) (x1.toNatClampNeg) (-1))) → (∀ S_5 : MS, S_5 = (ms_set_lined S_4 1) → post S_5))))) ∧ (¬ (x2 ≤ x3) → (vp_in x3 10000 ∧ ∀ S_8 : MS, S_8 = (ms_set_depth S (upd (ms_depth S) (x3.toNatClampNeg) (-1))) → wM_beginAt_2 post n x1 x2 (x3 + 1) S_8)))
def wM_beginAt (p1 : Int32) (p2 : Int32) (S : MS) (post : MS → Prop) : Prop := ∃ k_ : Nat, wM_beginAt_2 post k_ p1 p2 0 S
set_option maxHeartbeats 4000000 in
set_option maxRecDepth 100000 in
theorem cM_beginAt (l : Launch) (D : va_G) (h : Nat → Nat) (cy : Nat → ClassId) (p1 : Int32) (p2 : Int32) (S : MS) (post : MS → Prop) (hw : wM_beginAt p1 p2 S post) : k_Mv l yX12_beginAt wsX12_beginAt { frames := 0, cells := 0, slots := 0, locals := 0 } D (tyM cy) (wM h cy) [.ref (h 31), .int p1, .int p2] S post := by
  intro sz
  refine Met.ofW (cc := cX12_beginAt) (maxL := 4) (ret := none) (by decide) rfl ?_
  intro p e s m args below meth c s₁ B hml hv
  obtain ⟨rfl, hsz, hP, hK, hD0⟩ := hv
  have hx := B.exec
  have hb := B.bytes
  have hr := B.returns
  have hts := atoms_spec (ws := wsX12_beginAt) B.pre
  have hown : s.vm.findClass RX12 = some m.cls := findClass_of_methodNamed B.named
  have hlocks := B.notSynchronized
  subst hsz
  have hD := hD0.self (sz := s.heap.size)
  generalize hAe : va_A (wM h cy S) s.heap.size = A at hD ⊢
  have hA : ∀ q : Nat, s.heap.size ≤ q → A q := fun q h => by rw [← hAe]; exact Or.inr h
  have hS : va_S A s.heap s.heap [] := va_S.rf
  have hin : ∀ w ∈ wsX120, w ∈ wsX12_beginAt := fun _ h => List.mem_cons_of_mem _ (List.mem_append_right _ h)
  have w46 := hts (.fieldLink RX12 46 "ClownsMournModel" "line" "[I") (List.mem_of_getElem? (i := 2) rfl)
  have w49 := hts (.fieldLink RX12 49 "ClownsMournModel" "from" "[I") (List.mem_of_getElem? (i := 3) rfl)
  have w55 := hts (.fieldLink RX12 55 "ClownsMournModel" "depth" "[I") (List.mem_of_getElem? (i := 1) rfl)
  have w417 := hts (.fieldLink RX12 417 "ClownsMournModel" "lined" "I") (List.mem_of_getElem? (i := 4) rfl)
  have hl := lv_entry ([.ref (h 31), .int p1, .int p2]) (n := 4) (Nat.le_of_ble_eq_true rfl)
  rw [lg_entry_eq]
  generalize (lg_sl ([.ref (h 31), .int p1, .int p2]) ++ List.replicate (4 - (lg_sl ([.ref (h 31), .int p1, .int p2])).length) Slot.unset).toArray = ls at hl ⊢
  have hl : lv_has ls 4 [(0, .ref (h 31)), (1, .int p1), (2, .int p2)] := hl
  unfold wM_beginAt at hw
  clear hD0
  have L_2 : ∀ (n2 : Nat) (x1 : Int32) (x2 : Int32) (x3 : Int32) (S : MS) (H : Heap) (locs : List Loc) (ls : Array Slot), wM_beginAt_2 post n2 x1 x2 x3 S → va_P D vwCl (wM h cy S) H → va_D A (wM h cy S) → va_S A s.heap H locs → lv_has ls 4 [(0, .ref (h 31)), (1, .int x1), (2, .int x2), (3, .int x3)] → W p l e (headSpec wsX12_beginAt { frames := 0, cells := 0, slots := 0, locals := 0 }).room s m (([.ref (h 31), .int p1, .int p2] : List Value).toArray) below meth c H locs 0 0 (MQ below (va_Qv post (k_Post D (tyM cy) (wM h cy) A) A) (([.ref (h 31), .int p1, .int p2] : List Value).toArray) s 0 0 A) (F0 m 2 ls []) := by
    intro n2
    induction n2 with
    | zero => intro x1 x2 x3 S H locs ls hw; exact False.elim hw
    | succ n2 ih_2 =>
      intro x1 x2 x3 S H locs ls hw hP hD hS hl
      unfold wM_beginAt_2 at hw
      refine lv_iload_n hx hb dX12_beginAt_2 rfl (lv_at hl 3 rfl) ?_
      refine lv_iload_n hx hb dX12_beginAt_3 rfl (lv_at hl 2 rfl) ?_
      obtain ⟨hc_1t, hc_1f⟩ := hw
      refine lv_icmp_ge (tgt := 20) hx hb dX12_beginAt_4 (by decide) (fun c_1 => ?_) (fun c_1 => ?_)
      · have hw := hc_1t c_1
        clear hc_1t hc_1f
        refine lv_aload_n hx hb dX12_beginAt_20 rfl (lv_at hl 0 rfl) ?_
        refine va_get (D := D) (ci := 11) (v := .ref (h 24)) (C := RX12) (T := TX12) (N := 31) hx hb hts hin hown hK hP 0 rfl rfl 24 (by decide) w46 (fun _ h9 => h9) rfl dX12_beginAt_21 ?_
        refine lv_iconst (v := 0) hx hb dX12_beginAt_24 (by decide) ?_
        refine lv_iload_n hx hb dX12_beginAt_25 rfl (lv_at hl 1 rfl) ?_
        refine k_iast (f := (ms_line S)) (j := 0) hx hb hK hP hD hS 10 9 rfl rfl (by decide +kernel) rfl dX12_beginAt_26 (fun H locs hP hD hS => ?_)
        obtain ⟨S_2, eS_2⟩ : ∃ z : MS, z = (ms_set_line S (upd (ms_line S) 0 x1)) := ⟨_, rfl⟩
        have hw := hw S_2 eS_2
        have hP : va_P D vwCl (wM h cy S_2) H := by rw [eS_2, ← wMs_line]; exact hP
        have hD : va_D A (wM h cy S_2) := by rw [eS_2, ← wMs_line]; exact hD
        refine lv_aload_n hx hb dX12_beginAt_27 rfl (lv_at hl 0 rfl) ?_
        refine va_get (D := D) (ci := 11) (v := .ref (h 27)) (C := RX12) (T := TX12) (N := 31) hx hb hts hin hown hK hP 0 rfl rfl 27 (by decide) w55 (fun _ h9 => h9) rfl dX12_beginAt_28 ?_
        refine lv_iload_n hx hb dX12_beginAt_31 rfl (lv_at hl 1 rfl) ?_
        refine lv_iconst (v := 0) hx hb dX12_beginAt_32 (by decide) ?_
        obtain ⟨hi_7, hw⟩ := hw
        refine va_iast (f := (ms_depth S_2)) hx hb hK hP hD hS 13 12 rfl rfl hi_7 dX12_beginAt_33 (fun H locs hP hD hS => ?_)
        obtain ⟨S_3, eS_3⟩ : ∃ z : MS, z = (ms_set_depth S_2 (upd (ms_depth S_2) (x1.toNatClampNeg) 0)) := ⟨_, rfl⟩
        have hw := hw S_3 eS_3
        have hP : va_P D vwCl (wM h cy S_3) H := by rw [eS_3, ← wMs_depth]; exact hP
        have hD : va_D A (wM h cy S_3) := by rw [eS_3, ← wMs_depth]; exact hD
        refine lv_aload_n hx hb dX12_beginAt_34 rfl (lv_at hl 0 rfl) ?_
        refine va_get (D := D) (ci := 11) (v := .ref (h 25)) (C := RX12) (T := TX12) (N := 31) hx hb hts hin hown hK hP 0 rfl rfl 25 (by decide) w49 (fun _ h9 => h9) rfl dX12_beginAt_35 ?_
        refine lv_iload_n hx hb dX12_beginAt_38 rfl (lv_at hl 1 rfl) ?_
        refine lv_iconst (v := (-1)) hx hb dX12_beginAt_39 (by decide) ?_
        obtain ⟨hi_6, hw⟩ := hw
        refine va_iast (f := (ms_from S_3)) hx hb hK hP hD hS 11 10 rfl rfl hi_6 dX12_beginAt_40 (fun H locs hP hD hS => ?_)
        obtain ⟨S_4, eS_4⟩ : ∃ z : MS, z = (ms_set_from S_3 (upd (ms_from S_3) (x1.toNatClampNeg) (-1))) := ⟨_, rfl⟩
        have hw := hw S_4 eS_4
        have hP : va_P D vwCl (wM h cy S_4) H := by rw [eS_4, ← wMs_from]; exact hP
        have hD : va_D A (wM h cy S_4) := by rw [eS_4, ← wMs_from]; exact hD
        refine lv_aload_n hx hb dX12_beginAt_41 rfl (lv_at hl 0 rfl) ?_
        refine lv_iconst (v := 1) hx hb dX12_beginAt_42 (by decide) ?_
        refine va_put (D := D) (ci := 11) (v := .int 1) (ty := .int) (C := RX12) (T := TX12) (N := 31) hx hb hts hin tyX12 tyX12_ok nmX12 hown hK hP hD hS 0 rfl rfl 28 (by decide) w417 (fun _ h9 => h9) rfl (tyX12_ok 28 (by decide)) rfl rfl (Nat.le_of_ble_eq_true rfl) dX12_beginAt_43 (fun H locs hP hD hS => ?_)
        obtain ⟨S_5, eS_5⟩ : ∃ z : MS, z = (ms_set_lined S_4 1) := ⟨_, rfl⟩
        have hw := hw S_5 eS_5
        have hP : va_P D vwCl (wM h cy S_5) H := by rw [eS_5, ← wMp_lined]; exact hP
        have hD : va_D A (wM h cy S_5) := by rw [eS_5, ← wMp_lined]; exact hD
        exact W.vret hx hb hr (fun t ht hW => ⟨⟨S_5, rfl, hw, by rw [ht]; exact hP, va_K.moved hW.alike hK, hD⟩, hS.F ht⟩) hS.2.2 dX12_beginAt_46
      · have hw := hc_1f c_1
        clear hc_1t hc_1f
        refine lv_aload_n hx hb dX12_beginAt_7 rfl (lv_at hl 0 rfl) ?_
        refine va_get (D := D) (ci := 11) (v := .ref (h 27)) (C := RX12) (T := TX12) (N := 31) hx hb hts hin hown hK hP 0 rfl rfl 27 (by decide) w55 (fun _ h9 => h9) rfl dX12_beginAt_8 ?_
        refine lv_iload_n hx hb dX12_beginAt_11 rfl (lv_at hl 3 rfl) ?_
        refine lv_iconst (v := (-1)) hx hb dX12_beginAt_12 (by decide) ?_
        obtain ⟨hi_9, hw⟩ := hw
        refine va_iast (f := (ms_depth S)) hx hb hK hP hD hS 13 12 rfl rfl hi_9 dX12_beginAt_13 (fun H locs hP hD hS => ?_)
        obtain ⟨S_8, eS_8⟩ : ∃ z : MS, z = (ms_set_depth S (upd (ms_depth S) (x3.toNatClampNeg) (-1))) := ⟨_, rfl⟩
        have hw := hw S_8 eS_8
        have hP : va_P D vwCl (wM h cy S_8) H := by rw [eS_8, ← wMs_depth]; exact hP
        have hD : va_D A (wM h cy S_8) := by rw [eS_8, ← wMs_depth]; exact hD
        refine lv_iinc (v := x3 + 1) (lv' := [(3, .int (x3 + 1)), (0, .ref (h 31)), (1, .int x1), (2, .int x2)]) hx hb dX12_beginAt_14 hl (k := 3) rfl (k_inc (by decide)) (by decide) rfl (fun ls hl => ?_)
        refine lv_goto (tgt := 2) hx hb dX12_beginAt_17 (by decide) ?_
        exact ih_2 x1 x2 (x3 + 1) S_8 _ _ _ hw hP hD hS (lv_sub hl [1, 2, 3, 0] rfl)
  refine lv_iconst (v := 0) hx hb dX12_beginAt_0 (by decide) ?_
  refine lv_istore_n (lv' := [(3, .int 0), (0, .ref (h 31)), (1, .int p1), (2, .int p2)]) hx hb dX12_beginAt_1 rfl hl (by decide) rfl (fun ls hl => ?_)
  obtain ⟨n_2, hw⟩ := hw
  exact L_2 n_2 p1 p2 0 S _ _ _ hw hP hD hS (lv_sub hl [1, 2, 3, 0] rfl)
def wM_comeTo (p1 : Int32) (p2 : Int32) (p3 : Int32) (S : MS) (post : MS → Prop) : Prop := (vp_in p1 10000 ∧ ((((ms_depth S) p1.toNatClampNeg) = (-1) → (vp_in p2 10000 ∧ (vp_in p1 10000 ∧ ∀ S_2 : MS, S_2 = (ms_set_depth S (upd (ms_depth S) (p1.toNatClampNeg) (((ms_depth S) p2.toNatClampNeg) + 1))) → (vp_in p1 10000 ∧ ∀ S_3 : MS, S_3 = (ms_set_from S_2 (upd (ms_from S_2) (p1.toNatClampNeg) p2)) → (vp_in p1 10000 ∧ ∀ S_4 : MS, S_4 = (ms_set_byFall S_3 (upd (ms_byFall S_3) (p1.toNatClampNeg) p3)) → (vp_in (ms_lined S_4) 10000 ∧ ∀ S_5 : MS, S_5 = (ms_set_line S_4 (upd (ms_line S_4) ((ms_lined S_4).toNatClampNeg) p1)) → (∀ S_6 : MS, S_6 = (ms_set_lined S_5 ((ms_lined S_5) + 1)) → post S_6))))))) ∧ (¬ (((ms_depth S) p1.toNatClampNeg) = (-1)) → post S)))
set_option maxHeartbeats 4000000 in
set_option maxRecDepth 100000 in
theorem cM_comeTo (l : Launch) (D : va_G) (h : Nat → Nat) (cy : Nat → ClassId) (p1 : Int32) (p2 : Int32) (p3 : Int32) (S : MS) (post : MS → Prop) (hw : wM_comeTo p1 p2 p3 S post) : k_Mv l yX12_comeTo wsX12_comeTo { frames := 0, cells := 0, slots := 0, locals := 0 } D (tyM cy) (wM h cy) [.ref (h 31), .int p1, .int p2, .int p3] S post := by
  intro sz
  refine Met.ofW (cc := cX12_comeTo) (maxL := 4) (ret := none) (by decide) rfl ?_
  intro p e s m args below meth c s₁ B hml hv
  obtain ⟨rfl, hsz, hP, hK, hD0⟩ := hv
  have hx := B.exec
  have hb := B.bytes
  have hr := B.returns
  have hts := atoms_spec (ws := wsX12_comeTo) B.pre
  have hown : s.vm.findClass RX12 = some m.cls := findClass_of_methodNamed B.named
  have hlocks := B.notSynchronized
  subst hsz
  have hD := hD0.self (sz := s.heap.size)
  generalize hAe : va_A (wM h cy S) s.heap.size = A at hD ⊢
  have hA : ∀ q : Nat, s.heap.size ≤ q → A q := fun q h => by rw [← hAe]; exact Or.inr h
  have hS : va_S A s.heap s.heap [] := va_S.rf
  have hin : ∀ w ∈ wsX120, w ∈ wsX12_comeTo := fun _ h => List.mem_cons_of_mem _ (List.mem_append_right _ h)
  have w46 := hts (.fieldLink RX12 46 "ClownsMournModel" "line" "[I") (List.mem_of_getElem? (i := 4) rfl)
  have w49 := hts (.fieldLink RX12 49 "ClownsMournModel" "from" "[I") (List.mem_of_getElem? (i := 2) rfl)
  have w52 := hts (.fieldLink RX12 52 "ClownsMournModel" "byFall" "[I") (List.mem_of_getElem? (i := 3) rfl)
  have w55 := hts (.fieldLink RX12 55 "ClownsMournModel" "depth" "[I") (List.mem_of_getElem? (i := 1) rfl)
  have w417 := hts (.fieldLink RX12 417 "ClownsMournModel" "lined" "I") (List.mem_of_getElem? (i := 5) rfl)
  have hl := lv_entry ([.ref (h 31), .int p1, .int p2, .int p3]) (n := 4) (Nat.le_of_ble_eq_true rfl)
  rw [lg_entry_eq]
  generalize (lg_sl ([.ref (h 31), .int p1, .int p2, .int p3]) ++ List.replicate (4 - (lg_sl ([.ref (h 31), .int p1, .int p2, .int p3])).length) Slot.unset).toArray = ls at hl ⊢
  have hl : lv_has ls 4 [(0, .ref (h 31)), (1, .int p1), (2, .int p2), (3, .int p3)] := hl
  unfold wM_comeTo at hw
  clear hD0
  refine lv_aload_n hx hb dX12_comeTo_0 rfl (lv_at hl 0 rfl) ?_
  refine va_get (D := D) (ci := 11) (v := .ref (h 27)) (C := RX12) (T := TX12) (N := 31) hx hb hts hin hown hK hP 0 rfl rfl 27 (by decide) w55 (fun _ h9 => h9) rfl dX12_comeTo_1 ?_
  refine lv_iload_n hx hb dX12_comeTo_4 rfl (lv_at hl 1 rfl) ?_
  obtain ⟨hi_12, hw⟩ := hw
  refine va_iald (f := (ms_depth S)) hx hb hK hP 13 12 rfl rfl hi_12 dX12_comeTo_5 ?_
  refine lv_iconst (v := (-1)) hx hb dX12_comeTo_6 (by decide) ?_
  obtain ⟨hc_1t, hc_1f⟩ := hw
  refine lv_icmp_eq (tgt := 11) hx hb dX12_comeTo_7 (by decide) (fun c_1 => ?_) (fun c_1 => ?_)
  · have hw := hc_1t c_1
    clear hc_1t hc_1f
    refine lv_aload_n hx hb dX12_comeTo_11 rfl (lv_at hl 0 rfl) ?_
    refine va_get (D := D) (ci := 11) (v := .ref (h 27)) (C := RX12) (T := TX12) (N := 31) hx hb hts hin hown hK hP 0 rfl rfl 27 (by decide) w55 (fun _ h9 => h9) rfl dX12_comeTo_12 ?_
    refine lv_iload_n hx hb dX12_comeTo_15 rfl (lv_at hl 1 rfl) ?_
    refine lv_aload_n hx hb dX12_comeTo_16 rfl (lv_at hl 0 rfl) ?_
    refine va_get (D := D) (ci := 11) (v := .ref (h 27)) (C := RX12) (T := TX12) (N := 31) hx hb hts hin hown hK hP 0 rfl rfl 27 (by decide) w55 (fun _ h9 => h9) rfl dX12_comeTo_17 ?_
    refine lv_iload_n hx hb dX12_comeTo_20 rfl (lv_at hl 2 rfl) ?_
    obtain ⟨hi_11, hw⟩ := hw
    refine va_iald (f := (ms_depth S)) hx hb hK hP 13 12 rfl rfl hi_11 dX12_comeTo_21 ?_
    refine lv_iconst (v := 1) hx hb dX12_comeTo_22 (by decide) ?_
    refine lv_iadd hx hb dX12_comeTo_23 ?_
    obtain ⟨hi_10, hw⟩ := hw
    refine va_iast (f := (ms_depth S)) hx hb hK hP hD hS 13 12 rfl rfl hi_10 dX12_comeTo_24 (fun H locs hP hD hS => ?_)
    obtain ⟨S_2, eS_2⟩ : ∃ z : MS, z = (ms_set_depth S (upd (ms_depth S) (p1.toNatClampNeg) (((ms_depth S) p2.toNatClampNeg) + 1))) := ⟨_, rfl⟩
    have hw := hw S_2 eS_2
    have hP : va_P D vwCl (wM h cy S_2) H := by rw [eS_2, ← wMs_depth]; exact hP
    have hD : va_D A (wM h cy S_2) := by rw [eS_2, ← wMs_depth]; exact hD
    refine lv_aload_n hx hb dX12_comeTo_25 rfl (lv_at hl 0 rfl) ?_
    refine va_get (D := D) (ci := 11) (v := .ref (h 25)) (C := RX12) (T := TX12) (N := 31) hx hb hts hin hown hK hP 0 rfl rfl 25 (by decide) w49 (fun _ h9 => h9) rfl dX12_comeTo_26 ?_
    refine lv_iload_n hx hb dX12_comeTo_29 rfl (lv_at hl 1 rfl) ?_
    refine lv_iload_n hx hb dX12_comeTo_30 rfl (lv_at hl 2 rfl) ?_
    obtain ⟨hi_9, hw⟩ := hw
    refine va_iast (f := (ms_from S_2)) hx hb hK hP hD hS 11 10 rfl rfl hi_9 dX12_comeTo_31 (fun H locs hP hD hS => ?_)
    obtain ⟨S_3, eS_3⟩ : ∃ z : MS, z = (ms_set_from S_2 (upd (ms_from S_2) (p1.toNatClampNeg) p2)) := ⟨_, rfl⟩
    have hw := hw S_3 eS_3
    have hP : va_P D vwCl (wM h cy S_3) H := by rw [eS_3, ← wMs_from]; exact hP
    have hD : va_D A (wM h cy S_3) := by rw [eS_3, ← wMs_from]; exact hD
    refine lv_aload_n hx hb dX12_comeTo_32 rfl (lv_at hl 0 rfl) ?_
    refine va_get (D := D) (ci := 11) (v := .ref (h 26)) (C := RX12) (T := TX12) (N := 31) hx hb hts hin hown hK hP 0 rfl rfl 26 (by decide) w52 (fun _ h9 => h9) rfl dX12_comeTo_33 ?_
    refine lv_iload_n hx hb dX12_comeTo_36 rfl (lv_at hl 1 rfl) ?_
    refine lv_iload_n hx hb dX12_comeTo_37 rfl (lv_at hl 3 rfl) ?_
    obtain ⟨hi_8, hw⟩ := hw
    refine va_iast (f := (ms_byFall S_3)) hx hb hK hP hD hS 12 11 rfl rfl hi_8 dX12_comeTo_38 (fun H locs hP hD hS => ?_)
    obtain ⟨S_4, eS_4⟩ : ∃ z : MS, z = (ms_set_byFall S_3 (upd (ms_byFall S_3) (p1.toNatClampNeg) p3)) := ⟨_, rfl⟩
    have hw := hw S_4 eS_4
    have hP : va_P D vwCl (wM h cy S_4) H := by rw [eS_4, ← wMs_byFall]; exact hP
    have hD : va_D A (wM h cy S_4) := by rw [eS_4, ← wMs_byFall]; exact hD
    refine lv_aload_n hx hb dX12_comeTo_39 rfl (lv_at hl 0 rfl) ?_
    refine va_get (D := D) (ci := 11) (v := .ref (h 24)) (C := RX12) (T := TX12) (N := 31) hx hb hts hin hown hK hP 0 rfl rfl 24 (by decide) w46 (fun _ h9 => h9) rfl dX12_comeTo_40 ?_
    refine lv_aload_n hx hb dX12_comeTo_43 rfl (lv_at hl 0 rfl) ?_
    refine va_get (D := D) (ci := 11) (v := .int (ms_lined S_4)) (C := RX12) (T := TX12) (N := 31) hx hb hts hin hown hK hP 0 rfl rfl 28 (by decide) w417 (fun _ h9 => h9) rfl dX12_comeTo_44 ?_
    refine lv_iload_n hx hb dX12_comeTo_47 rfl (lv_at hl 1 rfl) ?_
    obtain ⟨hi_7, hw⟩ := hw
    refine va_iast (f := (ms_line S_4)) hx hb hK hP hD hS 10 9 rfl rfl hi_7 dX12_comeTo_48 (fun H locs hP hD hS => ?_)
    obtain ⟨S_5, eS_5⟩ : ∃ z : MS, z = (ms_set_line S_4 (upd (ms_line S_4) ((ms_lined S_4).toNatClampNeg) p1)) := ⟨_, rfl⟩
    have hw := hw S_5 eS_5
    have hP : va_P D vwCl (wM h cy S_5) H := by rw [eS_5, ← wMs_line]; exact hP
    have hD : va_D A (wM h cy S_5) := by rw [eS_5, ← wMs_line]; exact hD
    refine lv_aload_n hx hb dX12_comeTo_49 rfl (lv_at hl 0 rfl) ?_
    refine lv_dup hx hb dX12_comeTo_50 rfl ?_
    refine va_get (D := D) (ci := 11) (v := .int (ms_lined S_5)) (C := RX12) (T := TX12) (N := 31) hx hb hts hin hown hK hP 0 rfl rfl 28 (by decide) w417 (fun _ h9 => h9) rfl dX12_comeTo_51 ?_
    refine lv_iconst (v := 1) hx hb dX12_comeTo_54 (by decide) ?_
    refine lv_iadd hx hb dX12_comeTo_55 ?_
    refine va_put (D := D) (ci := 11) (v := .int ((ms_lined S_5) + 1)) (ty := .int) (C := RX12) (T := TX12) (N := 31) hx hb hts hin tyX12 tyX12_ok nmX12 hown hK hP hD hS 0 rfl rfl 28 (by decide) w417 (fun _ h9 => h9) rfl (tyX12_ok 28 (by decide)) rfl rfl (Nat.le_of_ble_eq_true rfl) dX12_comeTo_56 (fun H locs hP hD hS => ?_)
    obtain ⟨S_6, eS_6⟩ : ∃ z : MS, z = (ms_set_lined S_5 ((ms_lined S_5) + 1)) := ⟨_, rfl⟩
    have hw := hw S_6 eS_6
    have hP : va_P D vwCl (wM h cy S_6) H := by rw [eS_6, ← wMp_lined]; exact hP
    have hD : va_D A (wM h cy S_6) := by rw [eS_6, ← wMp_lined]; exact hD
    exact W.vret hx hb hr (fun t ht hW => ⟨⟨S_6, rfl, hw, by rw [ht]; exact hP, va_K.moved hW.alike hK, hD⟩, hS.F ht⟩) hS.2.2 dX12_comeTo_59
  · have hw := hc_1f c_1
    clear hc_1t hc_1f
    exact W.vret hx hb hr (fun t ht hW => ⟨⟨S, rfl, hw, by rw [ht]; exact hP, va_K.moved hW.alike hK, hD⟩, hS.F ht⟩) hS.2.2 dX12_comeTo_10
