def wM_text_36 (post : Int32 → MS → Prop) (t1 : Int32) (S : MS) : Prop := (∀ S_1 : MS, S_1 = (ms_set_faultPlace S t1) → (∀ S_2 : MS, S_2 = (ms_set_taped S_1 0) → (((ms_fault S_2) = 0 → (∀ S_4 : MS, S_4 = (ms_set_a S_2 (upd (ms_a S_2) 2 (((ms_a S_2) 2) + 1))) → post (((ms_a S_4) 2) - 1) S_4)) ∧ (¬ ((ms_fault S_2) = 0) → post (-1) S_2))))
def wM_text (S : MS) (post : Int32 → MS → Prop) : Prop := ((((ms_a S) 2) = 4 → post (-1) S) ∧ (¬ (((ms_a S) 2) = 4) → wM_readText S (fun r_2 S_3 => (∀ S_4 : MS, S_4 = (ms_set_fault S_3 r_2) → (((ms_fault S_4) = 0 → wM_text_36 post (-1) S_4) ∧ (¬ ((ms_fault S_4) = 0) → wM_text_36 post (ms_place S_4) S_4))))))
set_option maxHeartbeats 4000000 in
set_option maxRecDepth 100000 in
theorem cM_text (l : Launch) (D : va_G) (h : Nat → Nat) (cy : Nat → ClassId) (S : MS) (post : Int32 → MS → Prop) (hw : wM_text S post) : k_Mi l yX12_text wsX12_text { frames := 11, cells := 0, slots := 0, locals := 241 } D (tyM cy) (wM h cy) [.ref (h 31)] S post := by
  intro sz
  refine Met.ofW (cc := cX12_text) (maxL := 1) (ret := (some .int)) (by decide) rfl ?_
  intro p e s m args below meth c s₁ B hml hv
  obtain ⟨rfl, hsz, hP, hK, hD0⟩ := hv
  have hx := B.exec
  have hb := B.bytes
  have hr := B.returns
  have hts := atoms_spec (ws := wsX12_text) B.pre
  have hown : s.vm.findClass RX12 = some m.cls := findClass_of_methodNamed B.named
  have hlocks := B.notSynchronized
  subst hsz
  have hD := hD0.self (sz := s.heap.size)
  generalize hAe : va_A (wM h cy S) s.heap.size = A at hD ⊢
  have hA : ∀ q : Nat, s.heap.size ≤ q → A q := fun q h => by rw [← hAe]; exact Or.inr h
  have hS : va_S A s.heap s.heap [] := va_S.rf
  have hin : ∀ w ∈ wsX120, w ∈ wsX12_text := fun _ h => List.mem_cons_of_mem _ (List.mem_append_right _ h)
  have w7 := hts (.fieldLink RX12 7 "ClownsMournModel" "a" "[I") (List.mem_of_getElem? (i := 1) rfl)
  have w22 := hts (.fieldLink RX12 22 "ClownsMournModel" "fault" "I") (List.mem_of_getElem? (i := 2) rfl)
  have w26 := hts (.fieldLink RX12 26 "ClownsMournModel" "faultPlace" "I") (List.mem_of_getElem? (i := 4) rfl)
  have w97 := hts (.fieldLink RX12 97 "ClownsMournModel" "taped" "I") (List.mem_of_getElem? (i := 5) rfl)
  have w110 := hts (.fieldLink RX12 110 "ClownsMournModel" "place" "I") (List.mem_of_getElem? (i := 3) rfl)
  have hl := lv_entry ([.ref (h 31)]) (n := 1) (Nat.le_of_ble_eq_true rfl)
  rw [lg_entry_eq]
  generalize (lg_sl ([.ref (h 31)]) ++ List.replicate (1 - (lg_sl ([.ref (h 31)])).length) Slot.unset).toArray = ls at hl ⊢
  have hl : lv_has ls 1 [(0, .ref (h 31))] := hl
  unfold wM_text at hw
  clear hD0
  have J_36 : ∀ (t1 : Int32) (S : MS) (H : Heap) (locs : List Loc) (ls : Array Slot), wM_text_36 post t1 S → va_P D vwCl (wM h cy S) H → va_D A (wM h cy S) → va_S A s.heap H locs → lv_has ls 1 [(0, .ref (h 31))] → W p l e (headSpec wsX12_text { frames := 11, cells := 0, slots := 0, locals := 241 }).room s m (([.ref (h 31)] : List Value).toArray) below meth c H locs 0 0 (MQ below (va_Qi post (k_Post D (tyM cy) (wM h cy) A) A) (([.ref (h 31)] : List Value).toArray) s 0 0 A) (F0 m 36 ls [.int t1, .ref (h 31)]) := by
    intro t1 S H locs ls hw hP hD hS hl
    unfold wM_text_36 at hw
    refine va_put (D := D) (ci := 11) (v := .int t1) (ty := .int) (C := RX12) (T := TX12) (N := 31) hx hb hts hin tyX12 tyX12_ok nmX12 hown hK hP hD hS 0 rfl rfl 6 (by decide) w26 (fun _ h9 => h9) rfl (tyX12_ok 6 (by decide)) rfl rfl (Nat.le_of_ble_eq_true rfl) dX12_text_36 (fun H locs hP hD hS => ?_)
    obtain ⟨S_1, eS_1⟩ : ∃ z : MS, z = (ms_set_faultPlace S t1) := ⟨_, rfl⟩
    have hw := hw S_1 eS_1
    have hP : va_P D vwCl (wM h cy S_1) H := by rw [eS_1, ← wMp_faultPlace]; exact hP
    have hD : va_D A (wM h cy S_1) := by rw [eS_1, ← wMp_faultPlace]; exact hD
    refine lv_aload_n hx hb dX12_text_39 rfl (lv_at hl 0 rfl) ?_
    refine lv_iconst (v := 0) hx hb dX12_text_40 (by decide) ?_
    refine va_put (D := D) (ci := 11) (v := .int 0) (ty := .int) (C := RX12) (T := TX12) (N := 31) hx hb hts hin tyX12 tyX12_ok nmX12 hown hK hP hD hS 0 rfl rfl 4 (by decide) w97 (fun _ h9 => h9) rfl (tyX12_ok 4 (by decide)) rfl rfl (Nat.le_of_ble_eq_true rfl) dX12_text_41 (fun H locs hP hD hS => ?_)
    obtain ⟨S_2, eS_2⟩ : ∃ z : MS, z = (ms_set_taped S_1 0) := ⟨_, rfl⟩
    have hw := hw S_2 eS_2
    have hP : va_P D vwCl (wM h cy S_2) H := by rw [eS_2, ← wMp_taped]; exact hP
    have hD : va_D A (wM h cy S_2) := by rw [eS_2, ← wMp_taped]; exact hD
    refine lv_aload_n hx hb dX12_text_44 rfl (lv_at hl 0 rfl) ?_
    refine va_get (D := D) (ci := 11) (v := .int (ms_fault S_2)) (C := RX12) (T := TX12) (N := 31) hx hb hts hin hown hK hP 0 rfl rfl 5 (by decide) w22 (fun _ h9 => h9) rfl dX12_text_45 ?_
    obtain ⟨hc_3t, hc_3f⟩ := hw
    refine lv_if_eq (tgt := 53) hx hb dX12_text_48 (by decide) (fun c_3 => ?_) (fun c_3 => ?_)
    · have hw := hc_3t c_3
      clear hc_3t hc_3f
      refine lv_aload_n hx hb dX12_text_53 rfl (lv_at hl 0 rfl) ?_
      refine va_get (D := D) (ci := 11) (v := .ref (h 0)) (C := RX12) (T := TX12) (N := 31) hx hb hts hin hown hK hP 0 rfl rfl 0 (by decide) w7 (fun _ h9 => h9) rfl dX12_text_54 ?_
      refine lv_iconst (v := 2) hx hb dX12_text_57 (by decide) ?_
      refine lv_dup2_11 hx hb dX12_text_58 rfl rfl ?_
      refine k_iald (f := (ms_a S_2)) (j := 2) hx hb hK hP 1 0 rfl rfl (by decide +kernel) rfl dX12_text_59 ?_
      refine lv_iconst (v := 1) hx hb dX12_text_60 (by decide) ?_
      refine lv_iadd hx hb dX12_text_61 ?_
      refine k_iast (f := (ms_a S_2)) (j := 2) hx hb hK hP hD hS 1 0 rfl rfl (by decide +kernel) rfl dX12_text_62 (fun H locs hP hD hS => ?_)
      obtain ⟨S_4, eS_4⟩ : ∃ z : MS, z = (ms_set_a S_2 (upd (ms_a S_2) 2 (((ms_a S_2) 2) + 1))) := ⟨_, rfl⟩
      have hw := hw S_4 eS_4
      have hP : va_P D vwCl (wM h cy S_4) H := by rw [eS_4, ← wMs_a]; exact hP
      have hD : va_D A (wM h cy S_4) := by rw [eS_4, ← wMs_a]; exact hD
      refine lv_aload_n hx hb dX12_text_63 rfl (lv_at hl 0 rfl) ?_
      refine va_get (D := D) (ci := 11) (v := .ref (h 0)) (C := RX12) (T := TX12) (N := 31) hx hb hts hin hown hK hP 0 rfl rfl 0 (by decide) w7 (fun _ h9 => h9) rfl dX12_text_64 ?_
      refine lv_iconst (v := 2) hx hb dX12_text_67 (by decide) ?_
      refine k_iald (f := (ms_a S_4)) (j := 2) hx hb hK hP 1 0 rfl rfl (by decide +kernel) rfl dX12_text_68 ?_
      refine lv_iconst (v := 1) hx hb dX12_text_69 (by decide) ?_
      refine lv_isub hx hb dX12_text_70 ?_
      exact W.iret (v := ((ms_a S_4) 2) - 1) hx hb hr (fun t ht hW => ⟨⟨((ms_a S_4) 2) - 1, S_4, rfl, hw, by rw [ht]; exact hP, va_K.moved hW.alike hK, hD⟩, hS.F ht⟩) hS.2.2 dX12_text_71
    · have hw := hc_3f c_3
      clear hc_3t hc_3f
      refine lv_iconst (v := (-1)) hx hb dX12_text_51 (by decide) ?_
      exact W.iret (v := (-1)) hx hb hr (fun t ht hW => ⟨⟨(-1), S_2, rfl, hw, by rw [ht]; exact hP, va_K.moved hW.alike hK, hD⟩, hS.F ht⟩) hS.2.2 dX12_text_52
  refine lv_aload_n hx hb dX12_text_0 rfl (lv_at hl 0 rfl) ?_
  refine va_get (D := D) (ci := 11) (v := .ref (h 0)) (C := RX12) (T := TX12) (N := 31) hx hb hts hin hown hK hP 0 rfl rfl 0 (by decide) w7 (fun _ h9 => h9) rfl dX12_text_1 ?_
  refine lv_iconst (v := 2) hx hb dX12_text_4 (by decide) ?_
  refine k_iald (f := (ms_a S)) (j := 2) hx hb hK hP 1 0 rfl rfl (by decide +kernel) rfl dX12_text_5 ?_
  refine lv_iconst (v := 4) hx hb dX12_text_6 (by decide) ?_
  obtain ⟨hc_5t, hc_5f⟩ := hw
  refine lv_icmp_ne (tgt := 12) hx hb dX12_text_7 (by decide) (fun c_5 => ?_) (fun c_5 => ?_)
  · have hw := hc_5f c_5
    clear hc_5t hc_5f
    refine lv_aload_n hx hb dX12_text_12 rfl (lv_at hl 0 rfl) ?_
    refine lv_aload_n hx hb dX12_text_13 rfl (lv_at hl 0 rfl) ?_
    refine k_callVi (As := []) (rest := [.ref (h 31)]) ⟨hx, hb, hml, hown, hts⟩ (cM_readText l D h cy _ _ hw) (cwV 0 hts gX12_text_X12_readText rfl rfl rfl (by decide +kernel) ⟨Nat.le_of_ble_eq_true rfl, Nat.le_of_ble_eq_true rfl⟩) (va_recv hK hP (ci := 11) (q0 := 0) rfl rfl) hK hP hD hS hA rfl hl.1 rfl (Nat.le_of_ble_eq_true rfl) dX12_text_14 ⟨Nat.zero_le _, Nat.zero_le _⟩ (fun r_6 S_7 H locs hw hP hD hS => ?_)
    refine va_put (D := D) (ci := 11) (v := .int r_6) (ty := .int) (C := RX12) (T := TX12) (N := 31) hx hb hts hin tyX12 tyX12_ok nmX12 hown hK hP hD hS 0 rfl rfl 5 (by decide) w22 (fun _ h9 => h9) rfl (tyX12_ok 5 (by decide)) rfl rfl (Nat.le_of_ble_eq_true rfl) dX12_text_17 (fun H locs hP hD hS => ?_)
    obtain ⟨S_8, eS_8⟩ : ∃ z : MS, z = (ms_set_fault S_7 r_6) := ⟨_, rfl⟩
    have hw := hw S_8 eS_8
    have hP : va_P D vwCl (wM h cy S_8) H := by rw [eS_8, ← wMp_fault]; exact hP
    have hD : va_D A (wM h cy S_8) := by rw [eS_8, ← wMp_fault]; exact hD
    refine lv_aload_n hx hb dX12_text_20 rfl (lv_at hl 0 rfl) ?_
    refine lv_aload_n hx hb dX12_text_21 rfl (lv_at hl 0 rfl) ?_
    refine va_get (D := D) (ci := 11) (v := .int (ms_fault S_8)) (C := RX12) (T := TX12) (N := 31) hx hb hts hin hown hK hP 0 rfl rfl 5 (by decide) w22 (fun _ h9 => h9) rfl dX12_text_22 ?_
    obtain ⟨hc_9t, hc_9f⟩ := hw
    refine lv_if_ne (tgt := 32) hx hb dX12_text_25 (by decide) (fun c_9 => ?_) (fun c_9 => ?_)
    · have hw := hc_9f c_9
      clear hc_9t hc_9f
      refine lv_aload_n hx hb dX12_text_32 rfl (lv_at hl 0 rfl) ?_
      refine va_get (D := D) (ci := 11) (v := .int (ms_place S_8)) (C := RX12) (T := TX12) (N := 31) hx hb hts hin hown hK hP 0 rfl rfl 8 (by decide) w110 (fun _ h9 => h9) rfl dX12_text_33 ?_
      exact J_36 (ms_place S_8) S_8 _ _ _ hw hP hD hS (lv_sub hl [0] rfl)
    · have hw := hc_9t c_9
      clear hc_9t hc_9f
      refine lv_iconst (v := (-1)) hx hb dX12_text_28 (by decide) ?_
      refine lv_goto (tgt := 36) hx hb dX12_text_29 (by decide) ?_
      exact J_36 (-1) S_8 _ _ _ hw hP hD hS (lv_sub hl [0] rfl)
  · have hw := hc_5t c_5
    clear hc_5t hc_5f
    refine lv_iconst (v := (-1)) hx hb dX12_text_10 (by decide) ?_
    exact W.iret (v := (-1)) hx hb hr (fun t ht hW => ⟨⟨(-1), S, rfl, hw, by rw [ht]; exact hP, va_K.moved hW.alike hK, hD⟩, hS.F ht⟩) hS.2.2 dX12_text_11
def wM_fault (p1 : Int32) (S : MS) (post : Int32 → MS → Prop) : Prop := ((p1 = 0 → post (ms_fault S) S) ∧ (¬ (p1 = 0) → ((p1 = 1 → post (ms_faultPlace S) S) ∧ (¬ (p1 = 1) → post (-1) S))))
set_option maxHeartbeats 4000000 in
set_option maxRecDepth 100000 in
theorem cM_fault (l : Launch) (D : va_G) (h : Nat → Nat) (cy : Nat → ClassId) (p1 : Int32) (S : MS) (post : Int32 → MS → Prop) (hw : wM_fault p1 S post) : k_Mi l yX12_fault wsX12_fault { frames := 0, cells := 0, slots := 0, locals := 0 } D (tyM cy) (wM h cy) [.ref (h 31), .int p1] S post := by
  intro sz
  refine Met.ofW (cc := cX12_fault) (maxL := 2) (ret := (some .int)) (by decide) rfl ?_
  intro p e s m args below meth c s₁ B hml hv
  obtain ⟨rfl, hsz, hP, hK, hD0⟩ := hv
  have hx := B.exec
  have hb := B.bytes
  have hr := B.returns
  have hts := atoms_spec (ws := wsX12_fault) B.pre
  have hown : s.vm.findClass RX12 = some m.cls := findClass_of_methodNamed B.named
  have hlocks := B.notSynchronized
  subst hsz
  have hD := hD0.self (sz := s.heap.size)
  generalize hAe : va_A (wM h cy S) s.heap.size = A at hD ⊢
  have hA : ∀ q : Nat, s.heap.size ≤ q → A q := fun q h => by rw [← hAe]; exact Or.inr h
  have hS : va_S A s.heap s.heap [] := va_S.rf
  have hin : ∀ w ∈ wsX120, w ∈ wsX12_fault := fun _ h => List.mem_cons_of_mem _ (List.mem_append_right _ h)
  have w22 := hts (.fieldLink RX12 22 "ClownsMournModel" "fault" "I") (List.mem_of_getElem? (i := 1) rfl)
  have w26 := hts (.fieldLink RX12 26 "ClownsMournModel" "faultPlace" "I") (List.mem_of_getElem? (i := 2) rfl)
  have hl := lv_entry ([.ref (h 31), .int p1]) (n := 2) (Nat.le_of_ble_eq_true rfl)
  rw [lg_entry_eq]
  generalize (lg_sl ([.ref (h 31), .int p1]) ++ List.replicate (2 - (lg_sl ([.ref (h 31), .int p1])).length) Slot.unset).toArray = ls at hl ⊢
  have hl : lv_has ls 2 [(0, .ref (h 31)), (1, .int p1)] := hl
  unfold wM_fault at hw
  clear hD0
  refine lv_iload_n hx hb dX12_fault_0 rfl (lv_at hl 1 rfl) ?_
  obtain ⟨hc_1t, hc_1f⟩ := hw
  refine lv_if_ne (tgt := 11) hx hb dX12_fault_1 (by decide) (fun c_1 => ?_) (fun c_1 => ?_)
  · have hw := hc_1f c_1
    clear hc_1t hc_1f
    refine lv_iload_n hx hb dX12_fault_11 rfl (lv_at hl 1 rfl) ?_
    refine lv_iconst (v := 1) hx hb dX12_fault_12 (by decide) ?_
    obtain ⟨hc_2t, hc_2f⟩ := hw
    refine lv_icmp_ne (tgt := 23) hx hb dX12_fault_13 (by decide) (fun c_2 => ?_) (fun c_2 => ?_)
    · have hw := hc_2f c_2
      clear hc_2t hc_2f
      refine lv_iconst (v := (-1)) hx hb dX12_fault_23 (by decide) ?_
      exact W.iret (v := (-1)) hx hb hr (fun t ht hW => ⟨⟨(-1), S, rfl, hw, by rw [ht]; exact hP, va_K.moved hW.alike hK, hD⟩, hS.F ht⟩) hS.2.2 dX12_fault_24
    · have hw := hc_2t c_2
      clear hc_2t hc_2f
      refine lv_aload_n hx hb dX12_fault_16 rfl (lv_at hl 0 rfl) ?_
      refine va_get (D := D) (ci := 11) (v := .int (ms_faultPlace S)) (C := RX12) (T := TX12) (N := 31) hx hb hts hin hown hK hP 0 rfl rfl 6 (by decide) w26 (fun _ h9 => h9) rfl dX12_fault_17 ?_
      refine lv_goto (tgt := 24) hx hb dX12_fault_20 (by decide) ?_
      exact W.iret (v := (ms_faultPlace S)) hx hb hr (fun t ht hW => ⟨⟨(ms_faultPlace S), S, rfl, hw, by rw [ht]; exact hP, va_K.moved hW.alike hK, hD⟩, hS.F ht⟩) hS.2.2 dX12_fault_24
  · have hw := hc_1t c_1
    clear hc_1t hc_1f
    refine lv_aload_n hx hb dX12_fault_4 rfl (lv_at hl 0 rfl) ?_
    refine va_get (D := D) (ci := 11) (v := .int (ms_fault S)) (C := RX12) (T := TX12) (N := 31) hx hb hts hin hown hK hP 0 rfl rfl 5 (by decide) w22 (fun _ h9 => h9) rfl dX12_fault_5 ?_
    refine lv_goto (tgt := 24) hx hb dX12_fault_8 (by decide) ?_
    exact W.iret (v := (ms_fault S)) hx hb hr (fun t ht hW => ⟨⟨(ms_fault S), S, rfl, hw, by rw [ht]; exact hP, va_K.moved hW.alike hK, hD⟩, hS.F ht⟩) hS.2.2 dX12_fault_24
def wM_by (p1 : Int32) (S : MS) (post : Int32 → MS → Prop) : Prop := wM_isIn p1 (-1) (((ms_a S) 2) - 1) S (fun r_1 S_2 => ((r_1 = 0 → post 0 S_2) ∧ (¬ (r_1 = 0) → (∀ S_4 : MS, S_4 = (ms_set_a S_2 (upd (ms_a S_2) 3 p1)) → post 1 S_4))))
set_option maxHeartbeats 4000000 in
set_option maxRecDepth 100000 in
theorem cM_by (l : Launch) (D : va_G) (h : Nat → Nat) (cy : Nat → ClassId) (p1 : Int32) (S : MS) (post : Int32 → MS → Prop) (hw : wM_by p1 S post) : k_Mi l yX12_by wsX12_by { frames := 1, cells := 0, slots := 0, locals := 22 } D (tyM cy) (wM h cy) [.ref (h 31), .int p1] S post := by
  intro sz
  refine Met.ofW (cc := cX12_by) (maxL := 2) (ret := (some .boolean)) (by decide) rfl ?_
  intro p e s m args below meth c s₁ B hml hv
  obtain ⟨rfl, hsz, hP, hK, hD0⟩ := hv
  have hx := B.exec
  have hb := B.bytes
  have hr := B.returns
  have hts := atoms_spec (ws := wsX12_by) B.pre
  have hown : s.vm.findClass RX12 = some m.cls := findClass_of_methodNamed B.named
  have hlocks := B.notSynchronized
  subst hsz
  have hD := hD0.self (sz := s.heap.size)
  generalize hAe : va_A (wM h cy S) s.heap.size = A at hD ⊢
  have hA : ∀ q : Nat, s.heap.size ≤ q → A q := fun q h => by rw [← hAe]; exact Or.inr h
  have hS : va_S A s.heap s.heap [] := va_S.rf
  have hin : ∀ w ∈ wsX120, w ∈ wsX12_by := fun _ h => List.mem_cons_of_mem _ (List.mem_append_right _ h)
  have w7 := hts (.fieldLink RX12 7 "ClownsMournModel" "a" "[I") (List.mem_of_getElem? (i := 1) rfl)
  have hl := lv_entry ([.ref (h 31), .int p1]) (n := 2) (Nat.le_of_ble_eq_true rfl)
  rw [lg_entry_eq]
  generalize (lg_sl ([.ref (h 31), .int p1]) ++ List.replicate (2 - (lg_sl ([.ref (h 31), .int p1])).length) Slot.unset).toArray = ls at hl ⊢
  have hl : lv_has ls 2 [(0, .ref (h 31)), (1, .int p1)] := hl
  unfold wM_by at hw
  clear hD0
  refine lv_iload_n hx hb dX12_by_0 rfl (lv_at hl 1 rfl) ?_
  refine lv_iconst (v := (-1)) hx hb dX12_by_1 (by decide) ?_
  refine lv_aload_n hx hb dX12_by_2 rfl (lv_at hl 0 rfl) ?_
  refine va_get (D := D) (ci := 11) (v := .ref (h 0)) (C := RX12) (T := TX12) (N := 31) hx hb hts hin hown hK hP 0 rfl rfl 0 (by decide) w7 (fun _ h9 => h9) rfl dX12_by_3 ?_
  refine lv_iconst (v := 2) hx hb dX12_by_6 (by decide) ?_
  refine k_iald (f := (ms_a S)) (j := 2) hx hb hK hP 1 0 rfl rfl (by decide +kernel) rfl dX12_by_7 ?_
  refine lv_iconst (v := 1) hx hb dX12_by_8 (by decide) ?_
  refine lv_isub hx hb dX12_by_9 ?_
  refine k_callSi (As := [.int p1, .int (-1), .int (((ms_a S) 2) - 1)]) (rest := []) ⟨hx, hb, hml, hown, hts⟩ (cM_isIn l D h cy _ _ _ _ _ hw) (va_cwS 3 hts gX12_by_X12_isIn rfl rfl rfl (by decide +kernel) ⟨Nat.le_of_ble_eq_true rfl, Nat.le_of_ble_eq_true rfl⟩) hK hP hD hS hA rfl hl.1 rfl (Nat.le_of_ble_eq_true rfl) dX12_by_10 ⟨Nat.zero_le _, Nat.zero_le _⟩ (fun r_1 S_2 H locs hw hP hD hS => ?_)
  obtain ⟨hc_3t, hc_3f⟩ := hw
  refine lv_if_ne (tgt := 18) hx hb dX12_by_13 (by decide) (fun c_3 => ?_) (fun c_3 => ?_)
  · have hw := hc_3f c_3
    clear hc_3t hc_3f
    refine lv_aload_n hx hb dX12_by_18 rfl (lv_at hl 0 rfl) ?_
    refine va_get (D := D) (ci := 11) (v := .ref (h 0)) (C := RX12) (T := TX12) (N := 31) hx hb hts hin hown hK hP 0 rfl rfl 0 (by decide) w7 (fun _ h9 => h9) rfl dX12_by_19 ?_
    refine lv_iconst (v := 3) hx hb dX12_by_22 (by decide) ?_
    refine lv_iload_n hx hb dX12_by_23 rfl (lv_at hl 1 rfl) ?_
    refine k_iast (f := (ms_a S_2)) (j := 3) hx hb hK hP hD hS 1 0 rfl rfl (by decide +kernel) rfl dX12_by_24 (fun H locs hP hD hS => ?_)
    obtain ⟨S_4, eS_4⟩ : ∃ z : MS, z = (ms_set_a S_2 (upd (ms_a S_2) 3 p1)) := ⟨_, rfl⟩
    have hw := hw S_4 eS_4
    have hP : va_P D vwCl (wM h cy S_4) H := by rw [eS_4, ← wMs_a]; exact hP
    have hD : va_D A (wM h cy S_4) := by rw [eS_4, ← wMs_a]; exact hD
    refine lv_iconst (v := 1) hx hb dX12_by_25 (by decide) ?_
    exact W.zret (v := 1) hx hb hr (by decide +kernel) (fun t ht hW => ⟨⟨1, S_4, rfl, hw, by rw [ht]; exact hP, va_K.moved hW.alike hK, hD⟩, hS.F ht⟩) hS.2.2 dX12_by_26
  · have hw := hc_3t c_3
    clear hc_3t hc_3f
    refine lv_iconst (v := 0) hx hb dX12_by_16 (by decide) ?_
    exact W.zret (v := 0) hx hb hr (by decide +kernel) (fun t ht hW => ⟨⟨0, S_2, rfl, hw, by rw [ht]; exact hP, va_K.moved hW.alike hK, hD⟩, hS.F ht⟩) hS.2.2 dX12_by_17
def wM_clip (p1 : Int64) (S : MS) (post : Int64 → MS → Prop) : Prop := ((p1 ≤ 1000000 → (((-1000000) ≤ p1 → post p1 S) ∧ (¬ ((-1000000) ≤ p1) → post (-1000000) S))) ∧ (¬ (p1 ≤ 1000000) → post 1000000 S))
set_option maxHeartbeats 4000000 in
set_option maxRecDepth 100000 in
theorem cM_clip (l : Launch) (D : va_G) (h : Nat → Nat) (cy : Nat → ClassId) (p1 : Int64) (S : MS) (post : Int64 → MS → Prop) (hw : wM_clip p1 S post) : k_Ml l yX12_clip wsX12_clip { frames := 0, cells := 0, slots := 0, locals := 0 } D (tyM cy) (wM h cy) [.long p1] S post := by
  intro sz
  refine Met.ofW (cc := cX12_clip) (maxL := 2) (ret := (some .long)) (by decide) rfl ?_
  intro p e s m args below meth c s₁ B hml hv
  obtain ⟨rfl, hsz, hP, hK, hD0⟩ := hv
  have hx := B.exec
  have hb := B.bytes
  have hr := B.returns
  have hts := atoms_spec (ws := wsX12_clip) B.pre
  have hown : s.vm.findClass RX12 = some m.cls := findClass_of_methodNamed B.named
  have hlocks := B.notSynchronized
  subst hsz
  have hD := hD0.self (sz := s.heap.size)
  generalize hAe : va_A (wM h cy S) s.heap.size = A at hD ⊢
  have hA : ∀ q : Nat, s.heap.size ≤ q → A q := fun q h => by rw [← hAe]; exact Or.inr h
  have hS : va_S A s.heap s.heap [] := va_S.rf
  have wc275 := hts (.constantLong RX12 275 (1000000)) (List.mem_of_getElem? (i := 1) rfl)
  have wc277 := hts (.constantLong RX12 277 (-1000000)) (List.mem_of_getElem? (i := 2) rfl)
  have hl := lv_entry ([.long p1]) (n := 2) (Nat.le_of_ble_eq_true rfl)
  rw [lg_entry_eq]
  generalize (lg_sl ([.long p1]) ++ List.replicate (2 - (lg_sl ([.long p1])).length) Slot.unset).toArray = ls at hl ⊢
  have hl : lv_has ls 2 [(0, .long p1)] := hl
  unfold wM_clip at hw
  clear hD0
  refine lv_lload_n hx hb dX12_clip_0 rfl (lv_at hl 0 rfl) ?_
  refine lv_ldc2 (v := 1000000) hx hb hown wc275 dX12_clip_1 ?_
  refine W.lcmp hx hb dX12_clip_4 ?_
  obtain ⟨hc_1t, hc_1f⟩ := hw
  refine lv_if_le (tgt := 14) hx hb dX12_clip_5 (by decide) (fun c_1 => ?_) (fun c_1 => ?_)
  · have hw := hc_1t ((k_cle _ _).mp c_1)
    clear hc_1t hc_1f
    refine lv_lload_n hx hb dX12_clip_14 rfl (lv_at hl 0 rfl) ?_
    refine lv_ldc2 (v := (-1000000)) hx hb hown wc277 dX12_clip_15 ?_
    refine W.lcmp hx hb dX12_clip_18 ?_
    obtain ⟨hc_2t, hc_2f⟩ := hw
    refine lv_if_ge (tgt := 28) hx hb dX12_clip_19 (by decide) (fun c_2 => ?_) (fun c_2 => ?_)
    · have hw := hc_2t ((k_cge _ _).mp c_2)
      clear hc_2t hc_2f
      refine lv_lload_n hx hb dX12_clip_28 rfl (lv_at hl 0 rfl) ?_
      exact W.lret (v := p1) hx hb hr (fun t ht hW => ⟨⟨p1, S, rfl, hw, by rw [ht]; exact hP, va_K.moved hW.alike hK, hD⟩, hS.F ht⟩) hS.2.2 dX12_clip_29
    · have hw := hc_2f (fun q => c_2 ((k_cge _ _).mpr q))
      clear hc_2t hc_2f
      refine lv_ldc2 (v := (-1000000)) hx hb hown wc277 dX12_clip_22 ?_
      refine lv_goto (tgt := 29) hx hb dX12_clip_25 (by decide) ?_
      exact W.lret (v := (-1000000)) hx hb hr (fun t ht hW => ⟨⟨(-1000000), S, rfl, hw, by rw [ht]; exact hP, va_K.moved hW.alike hK, hD⟩, hS.F ht⟩) hS.2.2 dX12_clip_29
  · have hw := hc_1f (fun q => c_1 ((k_cle _ _).mpr q))
    clear hc_1t hc_1f
    refine lv_ldc2 (v := 1000000) hx hb hown wc275 dX12_clip_8 ?_
    refine lv_goto (tgt := 29) hx hb dX12_clip_11 (by decide) ?_
    exact W.lret (v := 1000000) hx hb hr (fun t ht hW => ⟨⟨1000000, S, rfl, hw, by rw [ht]; exact hP, va_K.moved hW.alike hK, hD⟩, hS.F ht⟩) hS.2.2 dX12_clip_29
def wM_two (p1 : Int32) (p2 : Int64) (p3 : Int64) (S : MS) (post : Int64 → MS → Prop) : Prop := ((p1 = 6 → wM_clip (p2 + p3) S (fun r_1 S_2 => post r_1 S_2)) ∧ (p1 = 7 → wM_clip (p2 - p3) S (fun r_4 S_5 => post r_4 S_5)) ∧ (p1 = 8 → wM_clip (p2 * p3) S (fun r_7 S_8 => post r_7 S_8)) ∧ (¬ p1 = 6 → ¬ p1 = 7 → ¬ p1 = 8 → ((p3 = 0 → post 0 S) ∧ (¬ (p3 = 0) → (¬ p3 = 0 ∧ wM_clip (p2 / p3) S (fun r_11 S_12 => post r_11 S_12))))))
set_option maxHeartbeats 4000000 in
set_option maxRecDepth 100000 in
theorem cM_two (l : Launch) (D : va_G) (h : Nat → Nat) (cy : Nat → ClassId) (p1 : Int32) (p2 : Int64) (p3 : Int64) (S : MS) (post : Int64 → MS → Prop) (hw : wM_two p1 p2 p3 S post) : k_Ml l yX12_two wsX12_two { frames := 1, cells := 0, slots := 0, locals := 21 } D (tyM cy) (wM h cy) [.int p1, .long p2, .long p3] S post := by
  intro sz
  refine Met.ofW (cc := cX12_two) (maxL := 5) (ret := (some .long)) (by decide) rfl ?_
  intro p e s m args below meth c s₁ B hml hv
  obtain ⟨rfl, hsz, hP, hK, hD0⟩ := hv
  have hx := B.exec
  have hb := B.bytes
  have hr := B.returns
  have hts := atoms_spec (ws := wsX12_two) B.pre
  have hown : s.vm.findClass RX12 = some m.cls := findClass_of_methodNamed B.named
  have hlocks := B.notSynchronized
  subst hsz
  have hD := hD0.self (sz := s.heap.size)
  generalize hAe : va_A (wM h cy S) s.heap.size = A at hD ⊢
  have hA : ∀ q : Nat, s.heap.size ≤ q → A q := fun q h => by rw [← hAe]; exact Or.inr h
  have hS : va_S A s.heap s.heap [] := va_S.rf
  have hl := lv_entry ([.int p1, .long p2, .long p3]) (n := 5) (Nat.le_of_ble_eq_true rfl)
  rw [lg_entry_eq]
  generalize (lg_sl ([.int p1, .long p2, .long p3]) ++ List.replicate (5 - (lg_sl ([.int p1, .long p2, .long p3])).length) Slot.unset).toArray = ls at hl ⊢
  have hl : lv_has ls 5 [(0, .int p1), (1, .long p2), (3, .long p3)] := hl
  unfold wM_two at hw
  clear hD0
  refine lv_iload_n hx hb dX12_two_0 rfl (lv_at hl 0 rfl) ?_
  obtain ⟨hc_3, hw⟩ := hw
  by_cases c_3 : p1 = 6
  · have hw := hc_3 c_3
    refine lv_tableIn (off := 27) (tgt := 28) hx hb dX12_two_1 (by rw [c_3]; decide) (by rw [c_3]; decide) (by rw [c_3]; rfl) (by decide) ?_
    refine lv_lload_n hx hb dX12_two_28 rfl (lv_at hl 1 rfl) ?_
    refine lv_lload_n hx hb dX12_two_29 rfl (lv_at hl 2 rfl) ?_
    refine lv_ladd hx hb dX12_two_30 ?_
    refine k_callSl (As := [.long (p2 + p3)]) (rest := []) ⟨hx, hb, hml, hown, hts⟩ (cM_clip l D h cy _ _ _ hw) (va_cwS 1 hts gX12_two_X12_clip rfl rfl rfl (by decide +kernel) ⟨Nat.le_of_ble_eq_true rfl, Nat.le_of_ble_eq_true rfl⟩) hK hP hD hS hA rfl hl.1 rfl (Nat.le_of_ble_eq_true rfl) dX12_two_31 ⟨Nat.zero_le _, Nat.zero_le _⟩ (fun r_1 S_2 H locs hw hP hD hS => ?_)
    exact W.lret (v := r_1) hx hb hr (fun t ht hW => ⟨⟨r_1, S_2, rfl, hw, by rw [ht]; exact hP, va_K.moved hW.alike hK, hD⟩, hS.F ht⟩) hS.2.2 dX12_two_34
  obtain ⟨hc_6, hw⟩ := hw
  by_cases c_6 : p1 = 7
  · have hw := hc_6 c_6
    refine lv_tableIn (off := 34) (tgt := 35) hx hb dX12_two_1 (by rw [c_6]; decide) (by rw [c_6]; decide) (by rw [c_6]; rfl) (by decide) ?_
    refine lv_lload_n hx hb dX12_two_35 rfl (lv_at hl 1 rfl) ?_
    refine lv_lload_n hx hb dX12_two_36 rfl (lv_at hl 2 rfl) ?_
    refine lv_lsub hx hb dX12_two_37 ?_
    refine k_callSl (As := [.long (p2 - p3)]) (rest := []) ⟨hx, hb, hml, hown, hts⟩ (cM_clip l D h cy _ _ _ hw) (va_cwS 1 hts gX12_two_X12_clip rfl rfl rfl (by decide +kernel) ⟨Nat.le_of_ble_eq_true rfl, Nat.le_of_ble_eq_true rfl⟩) hK hP hD hS hA rfl hl.1 rfl (Nat.le_of_ble_eq_true rfl) dX12_two_38 ⟨Nat.zero_le _, Nat.zero_le _⟩ (fun r_4 S_5 H locs hw hP hD hS => ?_)
    exact W.lret (v := r_4) hx hb hr (fun t ht hW => ⟨⟨r_4, S_5, rfl, hw, by rw [ht]; exact hP, va_K.moved hW.alike hK, hD⟩, hS.F ht⟩) hS.2.2 dX12_two_41
  obtain ⟨hc_9, hw⟩ := hw
  by_cases c_9 : p1 = 8
  · have hw := hc_9 c_9
    refine lv_tableIn (off := 41) (tgt := 42) hx hb dX12_two_1 (by rw [c_9]; decide) (by rw [c_9]; decide) (by rw [c_9]; rfl) (by decide) ?_
    refine lv_lload_n hx hb dX12_two_42 rfl (lv_at hl 1 rfl) ?_
    refine lv_lload_n hx hb dX12_two_43 rfl (lv_at hl 2 rfl) ?_
    refine lv_lmul hx hb dX12_two_44 ?_
    refine k_callSl (As := [.long (p2 * p3)]) (rest := []) ⟨hx, hb, hml, hown, hts⟩ (cM_clip l D h cy _ _ _ hw) (va_cwS 1 hts gX12_two_X12_clip rfl rfl rfl (by decide +kernel) ⟨Nat.le_of_ble_eq_true rfl, Nat.le_of_ble_eq_true rfl⟩) hK hP hD hS hA rfl hl.1 rfl (Nat.le_of_ble_eq_true rfl) dX12_two_45 ⟨Nat.zero_le _, Nat.zero_le _⟩ (fun r_7 S_8 H locs hw hP hD hS => ?_)
    exact W.lret (v := r_7) hx hb hr (fun t ht hW => ⟨⟨r_7, S_8, rfl, hw, by rw [ht]; exact hP, va_K.moved hW.alike hK, hD⟩, hS.F ht⟩) hS.2.2 dX12_two_48
  have hw := hw c_3 c_6 c_9
  have c_3n := lv_neT c_3 (a := 6) (by decide)
  have c_6n := lv_neT c_6 (a := 7) (by decide)
  have c_9n := lv_neT c_9 (a := 8) (by decide)
  refine lv_tableOut (tgt := 49) hx hb dX12_two_1 (by omega) (by decide) ?_
  refine lv_lload_n hx hb dX12_two_49 rfl (lv_at hl 2 rfl) ?_
  refine lv_lconst (v := 0) hx hb dX12_two_50 (by decide) ?_
  refine W.lcmp hx hb dX12_two_51 ?_
  obtain ⟨hc_10t, hc_10f⟩ := hw
  refine lv_if_ne (tgt := 59) hx hb dX12_two_52 (by decide) (fun c_10 => ?_) (fun c_10 => ?_)
  · have hw := hc_10f (fun q => c_10 ((k_c0 _ _).mpr q))
    clear hc_10t hc_10f
    refine lv_lload_n hx hb dX12_two_59 rfl (lv_at hl 1 rfl) ?_
    refine lv_lload_n hx hb dX12_two_60 rfl (lv_at hl 2 rfl) ?_
    obtain ⟨hz_13, hw⟩ := hw
    refine lv_ldiv hx hb dX12_two_61 hz_13 ?_
    refine k_callSl (As := [.long (p2 / p3)]) (rest := []) ⟨hx, hb, hml, hown, hts⟩ (cM_clip l D h cy _ _ _ hw) (va_cwS 1 hts gX12_two_X12_clip rfl rfl rfl (by decide +kernel) ⟨Nat.le_of_ble_eq_true rfl, Nat.le_of_ble_eq_true rfl⟩) hK hP hD hS hA rfl hl.1 rfl (Nat.le_of_ble_eq_true rfl) dX12_two_62 ⟨Nat.zero_le _, Nat.zero_le _⟩ (fun r_11 S_12 H locs hw hP hD hS => ?_)
    exact W.lret (v := r_11) hx hb hr (fun t ht hW => ⟨⟨r_11, S_12, rfl, hw, by rw [ht]; exact hP, va_K.moved hW.alike hK, hD⟩, hS.F ht⟩) hS.2.2 dX12_two_65
  · have hw := hc_10t ((k_c0 _ _).mp c_10)
    clear hc_10t hc_10f
    refine lv_lconst (v := 0) hx hb dX12_two_55 (by decide) ?_
    refine lv_goto (tgt := 65) hx hb dX12_two_56 (by decide) ?_
    exact W.lret (v := 0) hx hb hr (fun t ht hW => ⟨⟨0, S, rfl, hw, by rw [ht]; exact hP, va_K.moved hW.alike hK, hD⟩, hS.F ht⟩) hS.2.2 dX12_two_65
def wM_isAsked (p1 : Int32) (p2 : Int64) (p3 : Int64) (S : MS) (post : Int32 → MS → Prop) : Prop := ((p1 = 10 → ((p3 ≤ p2 → post 0 S) ∧ (¬ (p3 ≤ p2) → post 1 S))) ∧ (¬ (p1 = 10) → ((p1 = 11 → ((p3 < p2 → post 0 S) ∧ (¬ (p3 < p2) → post 1 S))) ∧ (¬ (p1 = 11) → ((p1 = 12 → ((p2 ≤ p3 → post 0 S) ∧ (¬ (p2 ≤ p3) → post 1 S))) ∧ (¬ (p1 = 12) → ((p1 = 13 → ((p2 < p3 → post 0 S) ∧ (¬ (p2 < p3) → post 1 S))) ∧ (¬ (p1 = 13) → ((p1 = 14 → ((p2 = p3 → post 1 S) ∧ (¬ (p2 = p3) → post 0 S))) ∧ (¬ (p1 = 14) → ((p2 = p3 → post 0 S) ∧ (¬ (p2 = p3) → post 1 S))))))))))))
set_option maxHeartbeats 4000000 in
set_option maxRecDepth 100000 in
theorem cM_isAsked (l : Launch) (D : va_G) (h : Nat → Nat) (cy : Nat → ClassId) (p1 : Int32) (p2 : Int64) (p3 : Int64) (S : MS) (post : Int32 → MS → Prop) (hw : wM_isAsked p1 p2 p3 S post) : k_Mi l yX12_isAsked wsX12_isAsked { frames := 0, cells := 0, slots := 0, locals := 0 } D (tyM cy) (wM h cy) [.int p1, .long p2, .long p3] S post := by
  intro sz
  refine Met.ofW (cc := cX12_isAsked) (maxL := 5) (ret := (some .boolean)) (by decide) rfl ?_
  intro p e s m args below meth c s₁ B hml hv
  obtain ⟨rfl, hsz, hP, hK, hD0⟩ := hv
  have hx := B.exec
  have hb := B.bytes
  have hr := B.returns
  have hts := atoms_spec (ws := wsX12_isAsked) B.pre
  have hown : s.vm.findClass RX12 = some m.cls := findClass_of_methodNamed B.named
  have hlocks := B.notSynchronized
  subst hsz
  have hD := hD0.self (sz := s.heap.size)
  generalize hAe : va_A (wM h cy S) s.heap.size = A at hD ⊢
  have hA : ∀ q : Nat, s.heap.size ≤ q → A q := fun q h => by rw [← hAe]; exact Or.inr h
  have hS : va_S A s.heap s.heap [] := va_S.rf
  have hl := lv_entry ([.int p1, .long p2, .long p3]) (n := 5) (Nat.le_of_ble_eq_true rfl)
  rw [lg_entry_eq]
  generalize (lg_sl ([.int p1, .long p2, .long p3]) ++ List.replicate (5 - (lg_sl ([.int p1, .long p2, .long p3])).length) Slot.unset).toArray = ls at hl ⊢
  have hl : lv_has ls 5 [(0, .int p1), (1, .long p2), (3, .long p3)] := hl
  unfold wM_isAsked at hw
  clear hD0
  refine lv_iload_n hx hb dX12_isAsked_0 rfl (lv_at hl 0 rfl) ?_
  refine lv_bipush (v := 10) hx hb dX12_isAsked_1 (by decide) ?_
  obtain ⟨hc_1t, hc_1f⟩ := hw
  refine lv_icmp_ne (tgt := 20) hx hb dX12_isAsked_3 (by decide) (fun c_1 => ?_) (fun c_1 => ?_)
  · have hw := hc_1f c_1
    clear hc_1t hc_1f
    refine lv_iload_n hx hb dX12_isAsked_20 rfl (lv_at hl 0 rfl) ?_
    refine lv_bipush (v := 11) hx hb dX12_isAsked_21 (by decide) ?_
    obtain ⟨hc_2t, hc_2f⟩ := hw
    refine lv_icmp_ne (tgt := 40) hx hb dX12_isAsked_23 (by decide) (fun c_2 => ?_) (fun c_2 => ?_)
    · have hw := hc_2f c_2
      clear hc_2t hc_2f
      refine lv_iload_n hx hb dX12_isAsked_40 rfl (lv_at hl 0 rfl) ?_
      refine lv_bipush (v := 12) hx hb dX12_isAsked_41 (by decide) ?_
      obtain ⟨hc_3t, hc_3f⟩ := hw
      refine lv_icmp_ne (tgt := 60) hx hb dX12_isAsked_43 (by decide) (fun c_3 => ?_) (fun c_3 => ?_)
      · have hw := hc_3f c_3
        clear hc_3t hc_3f
        refine lv_iload_n hx hb dX12_isAsked_60 rfl (lv_at hl 0 rfl) ?_
        refine lv_bipush (v := 13) hx hb dX12_isAsked_61 (by decide) ?_
        obtain ⟨hc_4t, hc_4f⟩ := hw
        refine lv_icmp_ne (tgt := 80) hx hb dX12_isAsked_63 (by decide) (fun c_4 => ?_) (fun c_4 => ?_)
        · have hw := hc_4f c_4
          clear hc_4t hc_4f
          refine lv_iload_n hx hb dX12_isAsked_80 rfl (lv_at hl 0 rfl) ?_
          refine lv_bipush (v := 14) hx hb dX12_isAsked_81 (by decide) ?_
          obtain ⟨hc_5t, hc_5f⟩ := hw
          refine lv_icmp_ne (tgt := 100) hx hb dX12_isAsked_83 (by decide) (fun c_5 => ?_) (fun c_5 => ?_)
          · have hw := hc_5f c_5
            clear hc_5t hc_5f
            refine lv_lload_n hx hb dX12_isAsked_100 rfl (lv_at hl 1 rfl) ?_
            refine lv_lload_n hx hb dX12_isAsked_101 rfl (lv_at hl 2 rfl) ?_
            refine W.lcmp hx hb dX12_isAsked_102 ?_
            obtain ⟨hc_6t, hc_6f⟩ := hw
            refine lv_if_eq (tgt := 110) hx hb dX12_isAsked_103 (by decide) (fun c_6 => ?_) (fun c_6 => ?_)
            · have hw := hc_6t ((k_c0 _ _).mp c_6)
              clear hc_6t hc_6f
              refine lv_iconst (v := 0) hx hb dX12_isAsked_110 (by decide) ?_
              exact W.zret (v := 0) hx hb hr (by decide +kernel) (fun t ht hW => ⟨⟨0, S, rfl, hw, by rw [ht]; exact hP, va_K.moved hW.alike hK, hD⟩, hS.F ht⟩) hS.2.2 dX12_isAsked_111
            · have hw := hc_6f (fun q => c_6 ((k_c0 _ _).mpr q))
              clear hc_6t hc_6f
              refine lv_iconst (v := 1) hx hb dX12_isAsked_106 (by decide) ?_
              refine lv_goto (tgt := 111) hx hb dX12_isAsked_107 (by decide) ?_
              exact W.zret (v := 1) hx hb hr (by decide +kernel) (fun t ht hW => ⟨⟨1, S, rfl, hw, by rw [ht]; exact hP, va_K.moved hW.alike hK, hD⟩, hS.F ht⟩) hS.2.2 dX12_isAsked_111
          · have hw := hc_5t c_5
            clear hc_5t hc_5f
            refine lv_lload_n hx hb dX12_isAsked_86 rfl (lv_at hl 1 rfl) ?_
            refine lv_lload_n hx hb dX12_isAsked_87 rfl (lv_at hl 2 rfl) ?_
            refine W.lcmp hx hb dX12_isAsked_88 ?_
            obtain ⟨hc_7t, hc_7f⟩ := hw
            refine lv_if_ne (tgt := 96) hx hb dX12_isAsked_89 (by decide) (fun c_7 => ?_) (fun c_7 => ?_)
            · have hw := hc_7f (fun q => c_7 ((k_c0 _ _).mpr q))
              clear hc_7t hc_7f
              refine lv_iconst (v := 0) hx hb dX12_isAsked_96 (by decide) ?_
              refine lv_goto (tgt := 111) hx hb dX12_isAsked_97 (by decide) ?_
              exact W.zret (v := 0) hx hb hr (by decide +kernel) (fun t ht hW => ⟨⟨0, S, rfl, hw, by rw [ht]; exact hP, va_K.moved hW.alike hK, hD⟩, hS.F ht⟩) hS.2.2 dX12_isAsked_111
            · have hw := hc_7t ((k_c0 _ _).mp c_7)
              clear hc_7t hc_7f
              refine lv_iconst (v := 1) hx hb dX12_isAsked_92 (by decide) ?_
              refine lv_goto (tgt := 111) hx hb dX12_isAsked_93 (by decide) ?_
              exact W.zret (v := 1) hx hb hr (by decide +kernel) (fun t ht hW => ⟨⟨1, S, rfl, hw, by rw [ht]; exact hP, va_K.moved hW.alike hK, hD⟩, hS.F ht⟩) hS.2.2 dX12_isAsked_111
        · have hw := hc_4t c_4
          clear hc_4t hc_4f
          refine lv_lload_n hx hb dX12_isAsked_66 rfl (lv_at hl 1 rfl) ?_
          refine lv_lload_n hx hb dX12_isAsked_67 rfl (lv_at hl 2 rfl) ?_
          refine W.lcmp hx hb dX12_isAsked_68 ?_
          obtain ⟨hc_8t, hc_8f⟩ := hw
          refine lv_if_lt (tgt := 76) hx hb dX12_isAsked_69 (by decide) (fun c_8 => ?_) (fun c_8 => ?_)
          · have hw := hc_8t ((k_clt _ _).mp c_8)
            clear hc_8t hc_8f
            refine lv_iconst (v := 0) hx hb dX12_isAsked_76 (by decide) ?_
            refine lv_goto (tgt := 111) hx hb dX12_isAsked_77 (by decide) ?_
            exact W.zret (v := 0) hx hb hr (by decide +kernel) (fun t ht hW => ⟨⟨0, S, rfl, hw, by rw [ht]; exact hP, va_K.moved hW.alike hK, hD⟩, hS.F ht⟩) hS.2.2 dX12_isAsked_111
          · have hw := hc_8f (fun q => c_8 ((k_clt _ _).mpr q))
            clear hc_8t hc_8f
            refine lv_iconst (v := 1) hx hb dX12_isAsked_72 (by decide) ?_
            refine lv_goto (tgt := 111) hx hb dX12_isAsked_73 (by decide) ?_
            exact W.zret (v := 1) hx hb hr (by decide +kernel) (fun t ht hW => ⟨⟨1, S, rfl, hw, by rw [ht]; exact hP, va_K.moved hW.alike hK, hD⟩, hS.F ht⟩) hS.2.2 dX12_isAsked_111
      · have hw := hc_3t c_3
        clear hc_3t hc_3f
        refine lv_lload_n hx hb dX12_isAsked_46 rfl (lv_at hl 1 rfl) ?_
        refine lv_lload_n hx hb dX12_isAsked_47 rfl (lv_at hl 2 rfl) ?_
        refine W.lcmp hx hb dX12_isAsked_48 ?_
        obtain ⟨hc_9t, hc_9f⟩ := hw
        refine lv_if_le (tgt := 56) hx hb dX12_isAsked_49 (by decide) (fun c_9 => ?_) (fun c_9 => ?_)
        · have hw := hc_9t ((k_cle _ _).mp c_9)
          clear hc_9t hc_9f
          refine lv_iconst (v := 0) hx hb dX12_isAsked_56 (by decide) ?_
          refine lv_goto (tgt := 111) hx hb dX12_isAsked_57 (by decide) ?_
          exact W.zret (v := 0) hx hb hr (by decide +kernel) (fun t ht hW => ⟨⟨0, S, rfl, hw, by rw [ht]; exact hP, va_K.moved hW.alike hK, hD⟩, hS.F ht⟩) hS.2.2 dX12_isAsked_111
        · have hw := hc_9f (fun q => c_9 ((k_cle _ _).mpr q))
          clear hc_9t hc_9f
          refine lv_iconst (v := 1) hx hb dX12_isAsked_52 (by decide) ?_
          refine lv_goto (tgt := 111) hx hb dX12_isAsked_53 (by decide) ?_
          exact W.zret (v := 1) hx hb hr (by decide +kernel) (fun t ht hW => ⟨⟨1, S, rfl, hw, by rw [ht]; exact hP, va_K.moved hW.alike hK, hD⟩, hS.F ht⟩) hS.2.2 dX12_isAsked_111
    · have hw := hc_2t c_2
      clear hc_2t hc_2f
      refine lv_lload_n hx hb dX12_isAsked_26 rfl (lv_at hl 1 rfl) ?_
      refine lv_lload_n hx hb dX12_isAsked_27 rfl (lv_at hl 2 rfl) ?_
      refine W.lcmp hx hb dX12_isAsked_28 ?_
      obtain ⟨hc_10t, hc_10f⟩ := hw
      refine lv_if_gt (tgt := 36) hx hb dX12_isAsked_29 (by decide) (fun c_10 => ?_) (fun c_10 => ?_)
      · have hw := hc_10t ((k_cgt _ _).mp c_10)
        clear hc_10t hc_10f
        refine lv_iconst (v := 0) hx hb dX12_isAsked_36 (by decide) ?_
        refine lv_goto (tgt := 111) hx hb dX12_isAsked_37 (by decide) ?_
        exact W.zret (v := 0) hx hb hr (by decide +kernel) (fun t ht hW => ⟨⟨0, S, rfl, hw, by rw [ht]; exact hP, va_K.moved hW.alike hK, hD⟩, hS.F ht⟩) hS.2.2 dX12_isAsked_111
      · have hw := hc_10f (fun q => c_10 ((k_cgt _ _).mpr q))
        clear hc_10t hc_10f
        refine lv_iconst (v := 1) hx hb dX12_isAsked_32 (by decide) ?_
        refine lv_goto (tgt := 111) hx hb dX12_isAsked_33 (by decide) ?_
        exact W.zret (v := 1) hx hb hr (by decide +kernel) (fun t ht hW => ⟨⟨1, S, rfl, hw, by rw [ht]; exact hP, va_K.moved hW.alike hK, hD⟩, hS.F ht⟩) hS.2.2 dX12_isAsked_111
  · have hw := hc_1t c_1
    clear hc_1t hc_1f
    refine lv_lload_n hx hb dX12_isAsked_6 rfl (lv_at hl 1 rfl) ?_
    refine lv_lload_n hx hb dX12_isAsked_7 rfl (lv_at hl 2 rfl) ?_
    refine W.lcmp hx hb dX12_isAsked_8 ?_
    obtain ⟨hc_11t, hc_11f⟩ := hw
    refine lv_if_ge (tgt := 16) hx hb dX12_isAsked_9 (by decide) (fun c_11 => ?_) (fun c_11 => ?_)
    · have hw := hc_11t ((k_cge _ _).mp c_11)
      clear hc_11t hc_11f
      refine lv_iconst (v := 0) hx hb dX12_isAsked_16 (by decide) ?_
      refine lv_goto (tgt := 111) hx hb dX12_isAsked_17 (by decide) ?_
      exact W.zret (v := 0) hx hb hr (by decide +kernel) (fun t ht hW => ⟨⟨0, S, rfl, hw, by rw [ht]; exact hP, va_K.moved hW.alike hK, hD⟩, hS.F ht⟩) hS.2.2 dX12_isAsked_111
    · have hw := hc_11f (fun q => c_11 ((k_cge _ _).mpr q))
      clear hc_11t hc_11f
      refine lv_iconst (v := 1) hx hb dX12_isAsked_12 (by decide) ?_
      refine lv_goto (tgt := 111) hx hb dX12_isAsked_13 (by decide) ?_
      exact W.zret (v := 1) hx hb hr (by decide +kernel) (fun t ht hW => ⟨⟨1, S, rfl, hw, by rw [ht]; exact hP, va_K.moved hW.alike hK, hD⟩, hS.F ht⟩) hS.2.2 dX12_isAsked_111
def wM_moodOf (p1 : Int64) (S : MS) (post : Int64 → MS → Prop) : Prop := ((p1 < 0 → post 0 S) ∧ (¬ (p1 < 0) → (((Int32.toInt64 ((ms_a S) 0)) ≤ p1 → post 0 S) ∧ (¬ ((Int32.toInt64 ((ms_a S) 0)) ≤ p1) → wM_get (Int64.toInt32 p1) 1 S (fun r_3 S_4 => post (Int32.toInt64 r_3) S_4)))))
set_option maxHeartbeats 4000000 in
set_option maxRecDepth 100000 in
theorem cM_moodOf (l : Launch) (D : va_G) (h : Nat → Nat) (cy : Nat → ClassId) (p1 : Int64) (S : MS) (post : Int64 → MS → Prop) (hw : wM_moodOf p1 S post) : k_Ml l yX12_moodOf wsX12_moodOf { frames := 1, cells := 0, slots := 0, locals := 22 } D (tyM cy) (wM h cy) [.ref (h 31), .long p1] S post := by
  intro sz
  refine Met.ofW (cc := cX12_moodOf) (maxL := 3) (ret := (some .long)) (by decide) rfl ?_
  intro p e s m args below meth c s₁ B hml hv
  obtain ⟨rfl, hsz, hP, hK, hD0⟩ := hv
  have hx := B.exec
  have hb := B.bytes
  have hr := B.returns
  have hts := atoms_spec (ws := wsX12_moodOf) B.pre
  have hown : s.vm.findClass RX12 = some m.cls := findClass_of_methodNamed B.named
  have hlocks := B.notSynchronized
  subst hsz
  have hD := hD0.self (sz := s.heap.size)
  generalize hAe : va_A (wM h cy S) s.heap.size = A at hD ⊢
  have hA : ∀ q : Nat, s.heap.size ≤ q → A q := fun q h => by rw [← hAe]; exact Or.inr h
  have hS : va_S A s.heap s.heap [] := va_S.rf
  have hin : ∀ w ∈ wsX120, w ∈ wsX12_moodOf := fun _ h => List.mem_cons_of_mem _ (List.mem_append_right _ h)
  have w7 := hts (.fieldLink RX12 7 "ClownsMournModel" "a" "[I") (List.mem_of_getElem? (i := 1) rfl)
  have hl := lv_entry ([.ref (h 31), .long p1]) (n := 3) (Nat.le_of_ble_eq_true rfl)
  rw [lg_entry_eq]
  generalize (lg_sl ([.ref (h 31), .long p1]) ++ List.replicate (3 - (lg_sl ([.ref (h 31), .long p1])).length) Slot.unset).toArray = ls at hl ⊢
  have hl : lv_has ls 3 [(0, .ref (h 31)), (1, .long p1)] := hl
  unfold wM_moodOf at hw
  clear hD0
  refine lv_lload_n hx hb dX12_moodOf_0 rfl (lv_at hl 1 rfl) ?_
  refine lv_lconst (v := 0) hx hb dX12_moodOf_1 (by decide) ?_
  refine W.lcmp hx hb dX12_moodOf_2 ?_
  obtain ⟨hc_1t, hc_1f⟩ := hw
  refine lv_if_lt (tgt := 29) hx hb dX12_moodOf_3 (by decide) (fun c_1 => ?_) (fun c_1 => ?_)
  · have hw := hc_1t ((k_clt _ _).mp c_1)
    clear hc_1t hc_1f
    refine lv_lconst (v := 0) hx hb dX12_moodOf_29 (by decide) ?_
    exact W.lret (v := 0) hx hb hr (fun t ht hW => ⟨⟨0, S, rfl, hw, by rw [ht]; exact hP, va_K.moved hW.alike hK, hD⟩, hS.F ht⟩) hS.2.2 dX12_moodOf_30
  · have hw := hc_1f (fun q => c_1 ((k_clt _ _).mpr q))
    clear hc_1t hc_1f
    refine lv_lload_n hx hb dX12_moodOf_6 rfl (lv_at hl 1 rfl) ?_
    refine lv_aload_n hx hb dX12_moodOf_7 rfl (lv_at hl 0 rfl) ?_
    refine va_get (D := D) (ci := 11) (v := .ref (h 0)) (C := RX12) (T := TX12) (N := 31) hx hb hts hin hown hK hP 0 rfl rfl 0 (by decide) w7 (fun _ h9 => h9) rfl dX12_moodOf_8 ?_
    refine lv_iconst (v := 0) hx hb dX12_moodOf_11 (by decide) ?_
    refine k_iald (f := (ms_a S)) (j := 0) hx hb hK hP 1 0 rfl rfl (by decide +kernel) rfl dX12_moodOf_12 ?_
    refine lv_i2l (v := Int32.toInt64 ((ms_a S) 0)) hx hb dX12_moodOf_13 rfl ?_
    refine W.lcmp hx hb dX12_moodOf_14 ?_
    obtain ⟨hc_2t, hc_2f⟩ := hw
    refine lv_if_ge (tgt := 29) hx hb dX12_moodOf_15 (by decide) (fun c_2 => ?_) (fun c_2 => ?_)
    · have hw := hc_2t ((k_cge _ _).mp c_2)
      clear hc_2t hc_2f
      refine lv_lconst (v := 0) hx hb dX12_moodOf_29 (by decide) ?_
      exact W.lret (v := 0) hx hb hr (fun t ht hW => ⟨⟨0, S, rfl, hw, by rw [ht]; exact hP, va_K.moved hW.alike hK, hD⟩, hS.F ht⟩) hS.2.2 dX12_moodOf_30
    · have hw := hc_2f (fun q => c_2 ((k_cge _ _).mpr q))
      clear hc_2t hc_2f
      refine lv_aload_n hx hb dX12_moodOf_18 rfl (lv_at hl 0 rfl) ?_
      refine lv_lload_n hx hb dX12_moodOf_19 rfl (lv_at hl 1 rfl) ?_
      refine lv_l2i (v := Int64.toInt32 p1) hx hb dX12_moodOf_20 rfl ?_
      refine lv_iconst (v := 1) hx hb dX12_moodOf_21 (by decide) ?_
      refine k_callVi (As := [.int (Int64.toInt32 p1), .int 1]) (rest := []) ⟨hx, hb, hml, hown, hts⟩ (cM_get l D h cy _ _ _ _ hw) (cwV 2 hts gX12_moodOf_X12_get rfl rfl rfl (by decide +kernel) ⟨Nat.le_of_ble_eq_true rfl, Nat.le_of_ble_eq_true rfl⟩) (va_recv hK hP (ci := 11) (q0 := 0) rfl rfl) hK hP hD hS hA rfl hl.1 rfl (Nat.le_of_ble_eq_true rfl) dX12_moodOf_22 ⟨Nat.zero_le _, Nat.zero_le _⟩ (fun r_3 S_4 H locs hw hP hD hS => ?_)
      refine lv_i2l (v := Int32.toInt64 r_3) hx hb dX12_moodOf_25 rfl ?_
      refine lv_goto (tgt := 30) hx hb dX12_moodOf_26 (by decide) ?_
      exact W.lret (v := Int32.toInt64 r_3) hx hb hr (fun t ht hW => ⟨⟨Int32.toInt64 r_3, S_4, rfl, hw, by rw [ht]; exact hP, va_K.moved hW.alike hK, hD⟩, hS.F ht⟩) hS.2.2 dX12_moodOf_30
def wM_joined (p1 : Int32) (p2 : Int32) (p3 : Int32) (S : MS) (post : Int32 → MS → Prop) : Prop := ((p1 = 21 → ((p2 = 0 → post 0 S) ∧ (¬ (p2 = 0) → ((p3 = 0 → post 0 S) ∧ (¬ (p3 = 0) → post 1 S))))) ∧ (¬ (p1 = 21) → ((p2 = 0 → ((p3 = 0 → post 0 S) ∧ (¬ (p3 = 0) → post 1 S))) ∧ (¬ (p2 = 0) → post 1 S))))
set_option maxHeartbeats 4000000 in
set_option maxRecDepth 100000 in
theorem cM_joined (l : Launch) (D : va_G) (h : Nat → Nat) (cy : Nat → ClassId) (p1 : Int32) (p2 : Int32) (p3 : Int32) (S : MS) (post : Int32 → MS → Prop) (hw : wM_joined p1 p2 p3 S post) : k_Mi l yX12_joined wsX12_joined { frames := 0, cells := 0, slots := 0, locals := 0 } D (tyM cy) (wM h cy) [.int p1, .int p2, .int p3] S post := by
  intro sz
  refine Met.ofW (cc := cX12_joined) (maxL := 3) (ret := (some .boolean)) (by decide) rfl ?_
  intro p e s m args below meth c s₁ B hml hv
  obtain ⟨rfl, hsz, hP, hK, hD0⟩ := hv
  have hx := B.exec
  have hb := B.bytes
  have hr := B.returns
  have hts := atoms_spec (ws := wsX12_joined) B.pre
  have hown : s.vm.findClass RX12 = some m.cls := findClass_of_methodNamed B.named
  have hlocks := B.notSynchronized
  subst hsz
  have hD := hD0.self (sz := s.heap.size)
  generalize hAe : va_A (wM h cy S) s.heap.size = A at hD ⊢
  have hA : ∀ q : Nat, s.heap.size ≤ q → A q := fun q h => by rw [← hAe]; exact Or.inr h
  have hS : va_S A s.heap s.heap [] := va_S.rf
  have hl := lv_entry ([.int p1, .int p2, .int p3]) (n := 3) (Nat.le_of_ble_eq_true rfl)
  rw [lg_entry_eq]
  generalize (lg_sl ([.int p1, .int p2, .int p3]) ++ List.replicate (3 - (lg_sl ([.int p1, .int p2, .int p3])).length) Slot.unset).toArray = ls at hl ⊢
  have hl : lv_has ls 3 [(0, .int p1), (1, .int p2), (2, .int p3)] := hl
  unfold wM_joined at hw
  clear hD0
  refine lv_iload_n hx hb dX12_joined_0 rfl (lv_at hl 0 rfl) ?_
  refine lv_bipush (v := 21) hx hb dX12_joined_1 (by decide) ?_
  obtain ⟨hc_1t, hc_1f⟩ := hw
  refine lv_icmp_ne (tgt := 22) hx hb dX12_joined_3 (by decide) (fun c_1 => ?_) (fun c_1 => ?_)
  · have hw := hc_1f c_1
    clear hc_1t hc_1f
    refine lv_iload_n hx hb dX12_joined_22 rfl (lv_at hl 1 rfl) ?_
    obtain ⟨hc_2t, hc_2f⟩ := hw
    refine lv_if_ne (tgt := 30) hx hb dX12_joined_23 (by decide) (fun c_2 => ?_) (fun c_2 => ?_)
    · have hw := hc_2f c_2
      clear hc_2t hc_2f
      refine lv_iconst (v := 1) hx hb dX12_joined_30 (by decide) ?_
      refine lv_goto (tgt := 35) hx hb dX12_joined_31 (by decide) ?_
      exact W.zret (v := 1) hx hb hr (by decide +kernel) (fun t ht hW => ⟨⟨1, S, rfl, hw, by rw [ht]; exact hP, va_K.moved hW.alike hK, hD⟩, hS.F ht⟩) hS.2.2 dX12_joined_35
    · have hw := hc_2t c_2
      clear hc_2t hc_2f
      refine lv_iload_n hx hb dX12_joined_26 rfl (lv_at hl 2 rfl) ?_
      obtain ⟨hc_3t, hc_3f⟩ := hw
      refine lv_if_eq (tgt := 34) hx hb dX12_joined_27 (by decide) (fun c_3 => ?_) (fun c_3 => ?_)
      · have hw := hc_3t c_3
        clear hc_3t hc_3f
        refine lv_iconst (v := 0) hx hb dX12_joined_34 (by decide) ?_
        exact W.zret (v := 0) hx hb hr (by decide +kernel) (fun t ht hW => ⟨⟨0, S, rfl, hw, by rw [ht]; exact hP, va_K.moved hW.alike hK, hD⟩, hS.F ht⟩) hS.2.2 dX12_joined_35
      · have hw := hc_3f c_3
        clear hc_3t hc_3f
        refine lv_iconst (v := 1) hx hb dX12_joined_30 (by decide) ?_
        refine lv_goto (tgt := 35) hx hb dX12_joined_31 (by decide) ?_
        exact W.zret (v := 1) hx hb hr (by decide +kernel) (fun t ht hW => ⟨⟨1, S, rfl, hw, by rw [ht]; exact hP, va_K.moved hW.alike hK, hD⟩, hS.F ht⟩) hS.2.2 dX12_joined_35
  · have hw := hc_1t c_1
    clear hc_1t hc_1f
    refine lv_iload_n hx hb dX12_joined_6 rfl (lv_at hl 1 rfl) ?_
    obtain ⟨hc_4t, hc_4f⟩ := hw
    refine lv_if_eq (tgt := 18) hx hb dX12_joined_7 (by decide) (fun c_4 => ?_) (fun c_4 => ?_)
    · have hw := hc_4t c_4
      clear hc_4t hc_4f
      refine lv_iconst (v := 0) hx hb dX12_joined_18 (by decide) ?_
      refine lv_goto (tgt := 35) hx hb dX12_joined_19 (by decide) ?_
      exact W.zret (v := 0) hx hb hr (by decide +kernel) (fun t ht hW => ⟨⟨0, S, rfl, hw, by rw [ht]; exact hP, va_K.moved hW.alike hK, hD⟩, hS.F ht⟩) hS.2.2 dX12_joined_35
    · have hw := hc_4f c_4
      clear hc_4t hc_4f
      refine lv_iload_n hx hb dX12_joined_10 rfl (lv_at hl 2 rfl) ?_
      obtain ⟨hc_5t, hc_5f⟩ := hw
      refine lv_if_eq (tgt := 18) hx hb dX12_joined_11 (by decide) (fun c_5 => ?_) (fun c_5 => ?_)
      · have hw := hc_5t c_5
        clear hc_5t hc_5f
        refine lv_iconst (v := 0) hx hb dX12_joined_18 (by decide) ?_
        refine lv_goto (tgt := 35) hx hb dX12_joined_19 (by decide) ?_
        exact W.zret (v := 0) hx hb hr (by decide +kernel) (fun t ht hW => ⟨⟨0, S, rfl, hw, by rw [ht]; exact hP, va_K.moved hW.alike hK, hD⟩, hS.F ht⟩) hS.2.2 dX12_joined_35
      · have hw := hc_5f c_5
        clear hc_5t hc_5f
        refine lv_iconst (v := 1) hx hb dX12_joined_14 (by decide) ?_
        refine lv_goto (tgt := 35) hx hb dX12_joined_15 (by decide) ?_
        exact W.zret (v := 1) hx hb hr (by decide +kernel) (fun t ht hW => ⟨⟨1, S, rfl, hw, by rw [ht]; exact hP, va_K.moved hW.alike hK, hD⟩, hS.F ht⟩) hS.2.2 dX12_joined_35
def wM_heldIn (p1 : Int64) (p2 : Int64) (p3 : Int64) (S : MS) (post : Int64 → MS → Prop) : Prop := ((p2 ≤ p1 → ((p1 ≤ p3 → post p1 S) ∧ (¬ (p1 ≤ p3) → post p3 S))) ∧ (¬ (p2 ≤ p1) → ((p2 ≤ p3 → post p2 S) ∧ (¬ (p2 ≤ p3) → post p3 S))))
set_option maxHeartbeats 4000000 in
set_option maxRecDepth 100000 in
theorem cM_heldIn (l : Launch) (D : va_G) (h : Nat → Nat) (cy : Nat → ClassId) (p1 : Int64) (p2 : Int64) (p3 : Int64) (S : MS) (post : Int64 → MS → Prop) (hw : wM_heldIn p1 p2 p3 S post) : k_Ml l yX12_heldIn wsX12_heldIn { frames := 0, cells := 0, slots := 0, locals := 0 } D (tyM cy) (wM h cy) [.long p1, .long p2, .long p3] S post := by
  intro sz
  refine Met.ofW (cc := cX12_heldIn) (maxL := 8) (ret := (some .long)) (by decide) rfl ?_
  intro p e s m args below meth c s₁ B hml hv
  obtain ⟨rfl, hsz, hP, hK, hD0⟩ := hv
  have hx := B.exec
  have hb := B.bytes
  have hr := B.returns
  have hts := atoms_spec (ws := wsX12_heldIn) B.pre
  have hown : s.vm.findClass RX12 = some m.cls := findClass_of_methodNamed B.named
  have hlocks := B.notSynchronized
  subst hsz
  have hD := hD0.self (sz := s.heap.size)
  generalize hAe : va_A (wM h cy S) s.heap.size = A at hD ⊢
  have hA : ∀ q : Nat, s.heap.size ≤ q → A q := fun q h => by rw [← hAe]; exact Or.inr h
  have hS : va_S A s.heap s.heap [] := va_S.rf
  have hl := lv_entry ([.long p1, .long p2, .long p3]) (n := 8) (Nat.le_of_ble_eq_true rfl)
  rw [lg_entry_eq]
  generalize (lg_sl ([.long p1, .long p2, .long p3]) ++ List.replicate (8 - (lg_sl ([.long p1, .long p2, .long p3])).length) Slot.unset).toArray = ls at hl ⊢
  have hl : lv_has ls 8 [(0, .long p1), (2, .long p2), (4, .long p3)] := hl
  unfold wM_heldIn at hw
  clear hD0
  refine lv_lload_n hx hb dX12_heldIn_0 rfl (lv_at hl 0 rfl) ?_
  refine lv_lload_n hx hb dX12_heldIn_1 rfl (lv_at hl 1 rfl) ?_
  refine W.lcmp hx hb dX12_heldIn_2 ?_
  obtain ⟨hc_1t, hc_1f⟩ := hw
  refine lv_if_ge (tgt := 10) hx hb dX12_heldIn_3 (by decide) (fun c_1 => ?_) (fun c_1 => ?_)
  · have hw := hc_1t ((k_cge _ _).mp c_1)
    clear hc_1t hc_1f
    refine lv_lload_n hx hb dX12_heldIn_10 rfl (lv_at hl 0 rfl) ?_
    refine lv_lstore (lv' := [(6, .long p1), (0, .long p1), (2, .long p2), (4, .long p3)]) hx hb dX12_heldIn_11 hl (by decide) rfl (fun ls hl => ?_)
    refine lv_lload hx hb dX12_heldIn_13 (lv_at hl 0 rfl) ?_
    refine lv_lload hx hb dX12_heldIn_15 (lv_at hl 3 rfl) ?_
    refine W.lcmp hx hb dX12_heldIn_17 ?_
    obtain ⟨hc_2t, hc_2f⟩ := hw
    refine lv_if_le (tgt := 26) hx hb dX12_heldIn_18 (by decide) (fun c_2 => ?_) (fun c_2 => ?_)
    · have hw := hc_2t ((k_cle _ _).mp c_2)
      clear hc_2t hc_2f
      refine lv_lload hx hb dX12_heldIn_26 (lv_at hl 0 rfl) ?_
      exact W.lret (v := p1) hx hb hr (fun t ht hW => ⟨⟨p1, S, rfl, hw, by rw [ht]; exact hP, va_K.moved hW.alike hK, hD⟩, hS.F ht⟩) hS.2.2 dX12_heldIn_28
    · have hw := hc_2f (fun q => c_2 ((k_cle _ _).mpr q))
      clear hc_2t hc_2f
      refine lv_lload hx hb dX12_heldIn_21 (lv_at hl 3 rfl) ?_
      refine lv_goto (tgt := 28) hx hb dX12_heldIn_23 (by decide) ?_
      exact W.lret (v := p3) hx hb hr (fun t ht hW => ⟨⟨p3, S, rfl, hw, by rw [ht]; exact hP, va_K.moved hW.alike hK, hD⟩, hS.F ht⟩) hS.2.2 dX12_heldIn_28
  · have hw := hc_1f (fun q => c_1 ((k_cge _ _).mpr q))
    clear hc_1t hc_1f
    refine lv_lload_n hx hb dX12_heldIn_6 rfl (lv_at hl 1 rfl) ?_
    refine lv_goto (tgt := 11) hx hb dX12_heldIn_7 (by decide) ?_
    refine lv_lstore (lv' := [(6, .long p2), (0, .long p1), (2, .long p2), (4, .long p3)]) hx hb dX12_heldIn_11 hl (by decide) rfl (fun ls hl => ?_)
    refine lv_lload hx hb dX12_heldIn_13 (lv_at hl 0 rfl) ?_
    refine lv_lload hx hb dX12_heldIn_15 (lv_at hl 3 rfl) ?_
    refine W.lcmp hx hb dX12_heldIn_17 ?_
    obtain ⟨hc_3t, hc_3f⟩ := hw
    refine lv_if_le (tgt := 26) hx hb dX12_heldIn_18 (by decide) (fun c_3 => ?_) (fun c_3 => ?_)
    · have hw := hc_3t ((k_cle _ _).mp c_3)
      clear hc_3t hc_3f
      refine lv_lload hx hb dX12_heldIn_26 (lv_at hl 0 rfl) ?_
      exact W.lret (v := p2) hx hb hr (fun t ht hW => ⟨⟨p2, S, rfl, hw, by rw [ht]; exact hP, va_K.moved hW.alike hK, hD⟩, hS.F ht⟩) hS.2.2 dX12_heldIn_28
    · have hw := hc_3f (fun q => c_3 ((k_cle _ _).mpr q))
      clear hc_3t hc_3f
      refine lv_lload hx hb dX12_heldIn_21 (lv_at hl 3 rfl) ?_
      refine lv_goto (tgt := 28) hx hb dX12_heldIn_23 (by decide) ?_
      exact W.lret (v := p3) hx hb hr (fun t ht hW => ⟨⟨p3, S, rfl, hw, by rw [ht]; exact hP, va_K.moved hW.alike hK, hD⟩, hS.F ht⟩) hS.2.2 dX12_heldIn_28
def wM_summedUp_38 (post : Int64 → MS → Prop) : Nat → Int32 → Int32 → Int32 → Int32 → Int32 → MS → Prop
  | 0, _, _, _, _, _, _ => False
  | n + 1, x3, x4, x5, x6, x7, S => (vp_in (x3 + 2) 2820 ∧ ((((ms_texts S) (x3 + 2).toNatClampNeg) ≤ x7 → post ((ms_values S) 0) S) ∧ (¬ (((ms_texts S) (x3 + 2).toNatClampNeg) ≤ x7) → (vp_in (x4 + (2 * x7)) 2820 ∧ (vp_in ((x4 + (2 * x7)) + 1) 2820 ∧ ((1 < ((ms_texts S) (x4 + (2 * x7)).toNatClampNeg) → ((((ms_texts S) (x4 + (2 * x7)).toNatClampNeg) = 3 → (vp_in (x6 + (-1)) 330 ∧ ((((ms_truth S) (x6 + (-1)).toNatClampNeg) = 0 → (vp_in (x5 + (-1)) 330 ∧ (vp_in ((x5 + (-1)) - 1) 330 ∧ ∀ S_50 : MS, S_50 = (ms_set_values S (vp_updL (ms_values S) (((x5 + (-1)) - 1).toNatClampNeg) ((ms_values S) (x5 + (-1)).toNatClampNeg))) → wM_summedUp_38 post n x3 x4 (x5 + (-1)) (x6 + (-1)) (x7 + 1) S_50))) ∧ (¬ (((ms_truth S) (x6 + (-1)).toNatClampNeg) = 0) → wM_summedUp_38 post n x3 x4 (x5 + (-1)) (x6 + (-1)) (x7 + 1) S)))) ∧ (¬ (((ms_texts S) (x4 + (2 * x7)).toNatClampNeg) = 3) → ((((ms_texts S) (x4 + (2 * x7)).toNatClampNeg) = 4 → (vp_in ((x5 + (-2)) - 1) 330 ∧ (vp_in (x5 + (-2)) 330 ∧ (vp_in ((x5 + (-2)) + 1) 330 ∧ wM_heldIn ((ms_values S) ((x5 + (-2)) - 1).toNatClampNeg) ((ms_values S) (x5 + (-2)).toNatClampNeg) ((ms_values S) ((x5 + (-2)) + 1).toNatClampNeg) S (fun r_42 S_43 => (vp_in ((x5 + (-2)) - 1) 330 ∧ ∀ S_44 : MS, S_44 = (ms_set_values S_43 (vp_updL (ms_values S_43) (((x5 + (-2)) - 1).toNatClampNeg) r_42)) → wM_summedUp_38 post n x3 x4 (x5 + (-2)) x6 (x7 + 1) S_44)))))) ∧ (¬ (((ms_texts S) (x4 + (2 * x7)).toNatClampNeg) = 4) → ((5 < ((ms_texts S) (x4 + (2 * x7)).toNatClampNeg) → ((10 ≤ ((ms_texts S) (x4 + (2 * x7)).toNatClampNeg) → ((20 ≤ ((ms_texts S) (x4 + (2 * x7)).toNatClampNeg) → ((((ms_texts S) (x4 + (2 * x7)).toNatClampNeg) = 20 → (vp_in (x6 - 1) 330 ∧ ((((ms_truth S) (x6 - 1).toNatClampNeg) = 0 → (vp_in (x6 - 1) 330 ∧ ∀ S_18 : MS, S_18 = (ms_set_truth S (upd (ms_truth S) ((x6 - 1).toNatClampNeg) (vp_nar .boolean 1))) → wM_summedUp_38 post n x3 x4 x5 x6 (x7 + 1) S_18)) ∧ (¬ (((ms_truth S) (x6 - 1).toNatClampNeg) = 0) → (vp_in (x6 - 1) 330 ∧ ∀ S_16 : MS, S_16 = (ms_set_truth S (upd (ms_truth S) ((x6 - 1).toNatClampNeg) (vp_nar .boolean 0))) → wM_summedUp_38 post n x3 x4 x5 x6 (x7 + 1) S_16))))) ∧ (¬ (((ms_texts S) (x4 + (2 * x7)).toNatClampNeg) = 20) → (vp_in ((x6 + (-1)) - 1) 330 ∧ (vp_in (x6 + (-1)) 330 ∧ wM_joined ((ms_texts S) (x4 + (2 * x7)).toNatClampNeg) ((ms_truth S) ((x6 + (-1)) - 1).toNatClampNeg) ((ms_truth S) (x6 + (-1)).toNatClampNeg) S (fun r_9 S_10 => (vp_in ((x6 + (-1)) - 1) 330 ∧ ∀ S_11 : MS, S_11 = (ms_set_truth S_10 (upd (ms_truth S_10) (((x6 + (-1)) - 1).toNatClampNeg) (vp_nar .boolean r_9))) → wM_summedUp_38 post n x3 x4 x5 (x6 + (-1)) (x7 + 1) S_11))))))) ∧ (¬ (20 ≤ ((ms_texts S) (x4 + (2 * x7)).toNatClampNeg)) → (vp_in (x5 + (-2)) 330 ∧ (vp_in ((x5 + (-2)) + 1) 330 ∧ wM_isAsked ((ms_texts S) (x4 + (2 * x7)).toNatClampNeg) ((ms_values S) (x5 + (-2)).toNatClampNeg) ((ms_values S) ((x5 + (-2)) + 1).toNatClampNeg) S (fun r_21 S_22 => (vp_in x6 330 ∧ ∀ S_23 : MS, S_23 = (ms_set_truth S_22 (upd (ms_truth S_22) (x6.toNatClampNeg) (vp_nar .boolean r_21))) → wM_summedUp_38 post n x3 x4 (x5 + (-2)) (x6 + 1) (x7 + 1) S_23))))))) ∧ (¬ (10 ≤ ((ms_texts S) (x4 + (2 * x7)).toNatClampNeg)) → (vp_in ((x5 + (-1)) - 1) 330 ∧ (vp_in (x5 + (-1)) 330 ∧ wM_two ((ms_texts S) (x4 + (2 * x7)).toNatClampNeg) ((ms_values S) ((x5 + (-1)) - 1).toNatClampNeg) ((ms_values S) (x5 + (-1)).toNatClampNeg) S (fun r_27 S_28 => (vp_in ((x5 + (-1)) - 1) 330 ∧ ∀ S_29 : MS, S_29 = (ms_set_values S_28 (vp_updL (ms_values S_28) (((x5 + (-1)) - 1).toNatClampNeg) r_27)) → wM_summedUp_38 post n x3 x4 (x5 + (-1)) x6 (x7 + 1) S_29))))))) ∧ (¬ (5 < ((ms_texts S) (x4 + (2 * x7)).toNatClampNeg)) → ((((ms_texts S) (x4 + (2 * x7)).toNatClampNeg) = 5 → (vp_in (x5 - 1) 330 ∧ (vp_in (x5 - 1) 330 ∧ ∀ S_39 : MS, S_39 = (ms_set_values S (vp_updL (ms_values S) ((x5 - 1).toNatClampNeg) (-((ms_values S) (x5 - 1).toNatClampNeg)))) → wM_summedUp_38 post n x3 x4 x5 x6 (x7 + 1) S_39))) ∧ (¬ (((ms_texts S) (x4 + (2 * x7)).toNatClampNeg) = 5) → (vp_in (x5 - 1) 330 ∧ wM_moodOf ((ms_values S) (x5 - 1).toNatClampNeg) S (fun r_34 S_35 => (vp_in (x5 - 1) 330 ∧ ∀ S_36 : MS, S_36 = (ms_set_values S_35 (vp_updL (ms_values S_35) ((x5 - 1).toNatClampNeg) r_34)) → wM_summedUp_38 post n x3 x4 x5 x6 (x7 + 1) S_36)))))))))))) ∧ (¬ (1 < ((ms_texts S) (x4 + (2 * x7)).toNatClampNeg)) → ((((ms_texts S) (x4 + (2 * x7)).toNatClampNeg) = 0 → (vp_in x5 330 ∧ ∀ S_58 : MS, S_58 = (ms_set_values S (vp_updL (ms_values S) (x5.toNatClampNeg) (Int32.toInt64 ((ms_texts S) ((x4 + (2 * x7)) + 1).toNatClampNeg)))) → wM_summedUp_38 post n x3 x4 (x5 + 1) x6 (x7 + 1) S_58)) ∧ (¬ (((ms_texts S) (x4 + (2 * x7)).toNatClampNeg) = 0) → (vp_in ((ms_texts S) ((x4 + (2 * x7)) + 1).toNatClampNeg) 12 ∧ (vp_in x5 330 ∧ ∀ S_55 : MS, S_55 = (ms_set_values S (vp_updL (ms_values S) (x5.toNatClampNeg) (Int32.toInt64 ((ms_named S) ((ms_texts S) ((x4 + (2 * x7)) + 1).toNatClampNeg).toNatClampNeg)))) → wM_summedUp_38 post n x3 x4 (x5 + 1) x6 (x7 + 1) S_55)))))))))))
def wM_summedUp (p1 : Int32) (p2 : Int32) (S : MS) (post : Int64 → MS → Prop) : Prop := (vp_in ((((705 * p1) + 1) + (4 * p2)) + 1) 2820 ∧ ∃ k_ : Nat, wM_summedUp_38 post k_ (((705 * p1) + 1) + (4 * p2)) ((705 * p1) + 97) 0 0 ((ms_texts S) ((((705 * p1) + 1) + (4 * p2)) + 1).toNatClampNeg) S)
set_option maxHeartbeats 4000000 in
set_option maxRecDepth 100000 in
theorem cM_summedUp (l : Launch) (D : va_G) (h : Nat → Nat) (cy : Nat → ClassId) (p1 : Int32) (p2 : Int32) (S : MS) (post : Int64 → MS → Prop) (hw : wM_summedUp p1 p2 S post) : k_Ml l yX12_summedUp wsX12_summedUp { frames := 2, cells := 0, slots := 0, locals := 45 } D (tyM cy) (wM h cy) [.ref (h 31), .int p1, .int p2] S post := by
  intro sz
  refine Met.ofW (cc := cX12_summedUp) (maxL := 10) (ret := (some .long)) (by decide) rfl ?_
  intro p e s m args below meth c s₁ B hml hv
  obtain ⟨rfl, hsz, hP, hK, hD0⟩ := hv
  have hx := B.exec
  have hb := B.bytes
  have hr := B.returns
  have hts := atoms_spec (ws := wsX12_summedUp) B.pre
  have hown : s.vm.findClass RX12 = some m.cls := findClass_of_methodNamed B.named
  have hlocks := B.notSynchronized
  subst hsz
  have hD := hD0.self (sz := s.heap.size)
  generalize hAe : va_A (wM h cy S) s.heap.size = A at hD ⊢
  have hA : ∀ q : Nat, s.heap.size ≤ q → A q := fun q h => by rw [← hAe]; exact Or.inr h
  have hS : va_S A s.heap s.heap [] := va_S.rf
  have hin : ∀ w ∈ wsX120, w ∈ wsX12_summedUp := fun _ h => List.mem_cons_of_mem _ (List.mem_append_right _ h)
  have w16 := hts (.fieldLink RX12 16 "ClownsMournModel" "texts" "[I") (List.mem_of_getElem? (i := 1) rfl)
  have w32 := hts (.fieldLink RX12 32 "ClownsMournModel" "named" "[I") (List.mem_of_getElem? (i := 3) rfl)
  have w35 := hts (.fieldLink RX12 35 "ClownsMournModel" "values" "[J") (List.mem_of_getElem? (i := 2) rfl)
  have w39 := hts (.fieldLink RX12 39 "ClownsMournModel" "truth" "[Z") (List.mem_of_getElem? (i := 4) rfl)
  have hl := lv_entry ([.ref (h 31), .int p1, .int p2]) (n := 10) (Nat.le_of_ble_eq_true rfl)
  rw [lg_entry_eq]
  generalize (lg_sl ([.ref (h 31), .int p1, .int p2]) ++ List.replicate (10 - (lg_sl ([.ref (h 31), .int p1, .int p2])).length) Slot.unset).toArray = ls at hl ⊢
  have hl : lv_has ls 10 [(0, .ref (h 31)), (1, .int p1), (2, .int p2)] := hl
  unfold wM_summedUp at hw
  clear hD0
  have L_38 : ∀ (n38 : Nat) (x3 : Int32) (x4 : Int32) (x5 : Int32) (x6 : Int32) (x7 : Int32) (S : MS) (H : Heap) (locs : List Loc) (ls : Array Slot), wM_summedUp_38 post n38 x3 x4 x5 x6 x7 S → va_P D vwCl (wM h cy S) H → va_D A (wM h cy S) → va_S A s.heap H locs → lv_has ls 10 [(0, .ref (h 31)), (3, .int x3), (4, .int x4), (5, .int x5), (6, .int x6), (7, .int x7)] → W p l e (headSpec wsX12_summedUp { frames := 2, cells := 0, slots := 0, locals := 45 }).room s m (([.ref (h 31), .int p1, .int p2] : List Value).toArray) below meth c H locs 0 0 (MQ below (va_Ql post (k_Post D (tyM cy) (wM h cy) A) A) (([.ref (h 31), .int p1, .int p2] : List Value).toArray) s 0 0 A) (F0 m 38 ls []) := by
    intro n38
    induction n38 with
    | zero => intro x3 x4 x5 x6 x7 S H locs ls hw; exact False.elim hw
    | succ n38 ih_38 =>
      intro x3 x4 x5 x6 x7 S H locs ls hw hP hD hS hl
      unfold wM_summedUp_38 at hw
      refine lv_iload hx hb dX12_summedUp_38 (lv_at hl 5 rfl) ?_
      refine lv_aload_n hx hb dX12_summedUp_40 rfl (lv_at hl 0 rfl) ?_
      refine va_get (D := D) (ci := 11) (v := .ref (h 2)) (C := RX12) (T := TX12) (N := 31) hx hb hts hin hown hK hP 0 rfl rfl 2 (by decide) w16 (fun _ h9 => h9) rfl dX12_summedUp_41 ?_
      refine lv_iload_n hx hb dX12_summedUp_44 rfl (lv_at hl 1 rfl) ?_
      refine lv_iconst (v := 2) hx hb dX12_summedUp_45 (by decide) ?_
      refine lv_iadd hx hb dX12_summedUp_46 ?_
      obtain ⟨hi_62, hw⟩ := hw
      refine va_iald (f := (ms_texts S)) hx hb hK hP 3 2 rfl rfl hi_62 dX12_summedUp_47 ?_
      obtain ⟨hc_1t, hc_1f⟩ := hw
      refine lv_icmp_ge (tgt := 421) hx hb dX12_summedUp_48 (by decide) (fun c_1 => ?_) (fun c_1 => ?_)
      · have hw := hc_1t c_1
        clear hc_1t hc_1f
        refine lv_aload_n hx hb dX12_summedUp_421 rfl (lv_at hl 0 rfl) ?_
        refine va_get (D := D) (ci := 11) (v := .ref (h 21)) (C := RX12) (T := TX12) (N := 31) hx hb hts hin hown hK hP 0 rfl rfl 21 (by decide) w35 (fun _ h9 => h9) rfl dX12_summedUp_422 ?_
        refine lv_iconst (v := 0) hx hb dX12_summedUp_425 (by decide) ?_
        refine k_lald (f := (ms_values S)) (j := 0) hx hb hK hP 7 6 rfl rfl (by decide +kernel) rfl dX12_summedUp_426 ?_
        exact W.lret (v := (ms_values S) 0) hx hb hr (fun t ht hW => ⟨⟨(ms_values S) 0, S, rfl, hw, by rw [ht]; exact hP, va_K.moved hW.alike hK, hD⟩, hS.F ht⟩) hS.2.2 dX12_summedUp_427
      · have hw := hc_1f c_1
        clear hc_1t hc_1f
        refine lv_aload_n hx hb dX12_summedUp_51 rfl (lv_at hl 0 rfl) ?_
        refine va_get (D := D) (ci := 11) (v := .ref (h 2)) (C := RX12) (T := TX12) (N := 31) hx hb hts hin hown hK hP 0 rfl rfl 2 (by decide) w16 (fun _ h9 => h9) rfl dX12_summedUp_52 ?_
        refine lv_iload hx hb dX12_summedUp_55 (lv_at hl 2 rfl) ?_
        refine lv_iconst (v := 2) hx hb dX12_summedUp_57 (by decide) ?_
        refine lv_iload hx hb dX12_summedUp_58 (lv_at hl 5 rfl) ?_
        refine lv_imul hx hb dX12_summedUp_60 ?_
        refine lv_iadd hx hb dX12_summedUp_61 ?_
        obtain ⟨hi_61, hw⟩ := hw
        refine va_iald (f := (ms_texts S)) hx hb hK hP 3 2 rfl rfl hi_61 dX12_summedUp_62 ?_
        refine lv_istore (lv' := [(8, .int ((ms_texts S) (x4 + (2 * x7)).toNatClampNeg)), (0, .ref (h 31)), (3, .int x3), (4, .int x4), (5, .int x5), (6, .int x6), (7, .int x7)]) hx hb dX12_summedUp_63 hl (by decide) rfl (fun ls hl => ?_)
        refine lv_aload_n hx hb dX12_summedUp_65 rfl (lv_at hl 1 rfl) ?_
        refine va_get (D := D) (ci := 11) (v := .ref (h 2)) (C := RX12) (T := TX12) (N := 31) hx hb hts hin hown hK hP 0 rfl rfl 2 (by decide) w16 (fun _ h9 => h9) rfl dX12_summedUp_66 ?_
        refine lv_iload hx hb dX12_summedUp_69 (lv_at hl 3 rfl) ?_
        refine lv_iconst (v := 2) hx hb dX12_summedUp_71 (by decide) ?_
        refine lv_iload hx hb dX12_summedUp_72 (lv_at hl 6 rfl) ?_
        refine lv_imul hx hb dX12_summedUp_74 ?_
        refine lv_iadd hx hb dX12_summedUp_75 ?_
        refine lv_iconst (v := 1) hx hb dX12_summedUp_76 (by decide) ?_
        refine lv_iadd hx hb dX12_summedUp_77 ?_
        obtain ⟨hi_60, hw⟩ := hw
        refine va_iald (f := (ms_texts S)) hx hb hK hP 3 2 rfl rfl hi_60 dX12_summedUp_78 ?_
        refine lv_istore (lv' := [(9, .int ((ms_texts S) ((x4 + (2 * x7)) + 1).toNatClampNeg)), (8, .int ((ms_texts S) (x4 + (2 * x7)).toNatClampNeg)), (0, .ref (h 31)), (3, .int x3), (4, .int x4), (5, .int x5), (6, .int x6), (7, .int x7)]) hx hb dX12_summedUp_79 hl (by decide) rfl (fun ls hl => ?_)
        refine lv_iload hx hb dX12_summedUp_81 (lv_at hl 1 rfl) ?_
        refine lv_iconst (v := 1) hx hb dX12_summedUp_83 (by decide) ?_
        obtain ⟨hc_2t, hc_2f⟩ := hw
        refine lv_icmp_gt (tgt := 119) hx hb dX12_summedUp_84 (by decide) (fun c_2 => ?_) (fun c_2 => ?_)
        · have hw := hc_2t c_2
          clear hc_2t hc_2f
          refine lv_iload hx hb dX12_summedUp_119 (lv_at hl 1 rfl) ?_
          refine lv_iconst (v := 3) hx hb dX12_summedUp_121 (by decide) ?_
          obtain ⟨hc_3t, hc_3f⟩ := hw
          refine lv_icmp_ne (tgt := 160) hx hb dX12_summedUp_122 (by decide) (fun c_3 => ?_) (fun c_3 => ?_)
          · have hw := hc_3f c_3
            clear hc_3t hc_3f
            refine lv_iload hx hb dX12_summedUp_160 (lv_at hl 1 rfl) ?_
            refine lv_iconst (v := 4) hx hb dX12_summedUp_162 (by decide) ?_
            obtain ⟨hc_4t, hc_4f⟩ := hw
            refine lv_icmp_ne (tgt := 209) hx hb dX12_summedUp_163 (by decide) (fun c_4 => ?_) (fun c_4 => ?_)
            · have hw := hc_4f c_4
              clear hc_4t hc_4f
              refine lv_iload hx hb dX12_summedUp_209 (lv_at hl 1 rfl) ?_
              refine lv_iconst (v := 5) hx hb dX12_summedUp_211 (by decide) ?_
              obtain ⟨hc_5t, hc_5f⟩ := hw
              refine lv_icmp_gt (tgt := 259) hx hb dX12_summedUp_212 (by decide) (fun c_5 => ?_) (fun c_5 => ?_)
              · have hw := hc_5t c_5
                clear hc_5t hc_5f
                refine lv_iload hx hb dX12_summedUp_259 (lv_at hl 1 rfl) ?_
                refine lv_bipush (v := 10) hx hb dX12_summedUp_261 (by decide) ?_
                obtain ⟨hc_6t, hc_6f⟩ := hw
                refine lv_icmp_ge (tgt := 302) hx hb dX12_summedUp_263 (by decide) (fun c_6 => ?_) (fun c_6 => ?_)
                · have hw := hc_6t c_6
                  clear hc_6t hc_6f
                  refine lv_iload hx hb dX12_summedUp_302 (lv_at hl 1 rfl) ?_
                  refine lv_bipush (v := 20) hx hb dX12_summedUp_304 (by decide) ?_
                  obtain ⟨hc_7t, hc_7f⟩ := hw
                  refine lv_icmp_ge (tgt := 346) hx hb dX12_summedUp_306 (by decide) (fun c_7 => ?_) (fun c_7 => ?_)
                  · have hw := hc_7t c_7
                    clear hc_7t hc_7f
                    refine lv_iload hx hb dX12_summedUp_346 (lv_at hl 1 rfl) ?_
                    refine lv_bipush (v := 20) hx hb dX12_summedUp_348 (by decide) ?_
                    obtain ⟨hc_8t, hc_8f⟩ := hw
                    refine lv_icmp_ne (tgt := 382) hx hb dX12_summedUp_350 (by decide) (fun c_8 => ?_) (fun c_8 => ?_)
                    · have hw := hc_8f c_8
                      clear hc_8t hc_8f
                      refine lv_iinc (v := x6 + (-1)) (lv' := [(6, .int (x6 + (-1))), (9, .int ((ms_texts S) ((x4 + (2 * x7)) + 1).toNatClampNeg)), (8, .int ((ms_texts S) (x4 + (2 * x7)).toNatClampNeg)), (0, .ref (h 31)), (3, .int x3), (4, .int x4), (5, .int x5), (7, .int x7)]) hx hb dX12_summedUp_382 hl (k := 6) rfl (k_inc (by decide)) (by decide) rfl (fun ls hl => ?_)
                      refine lv_aload_n hx hb dX12_summedUp_385 rfl (lv_at hl 3 rfl) ?_
                      refine va_get (D := D) (ci := 11) (v := .ref (h 22)) (C := RX12) (T := TX12) (N := 31) hx hb hts hin hown hK hP 0 rfl rfl 22 (by decide) w39 (fun _ h9 => h9) rfl dX12_summedUp_386 ?_
                      refine lv_iload hx hb dX12_summedUp_389 (lv_at hl 0 rfl) ?_
                      refine lv_iconst (v := 1) hx hb dX12_summedUp_391 (by decide) ?_
                      refine lv_isub hx hb dX12_summedUp_392 ?_
                      refine lv_iload hx hb dX12_summedUp_393 (lv_at hl 2 rfl) ?_
                      refine lv_aload_n hx hb dX12_summedUp_395 rfl (lv_at hl 3 rfl) ?_
                      refine va_get (D := D) (ci := 11) (v := .ref (h 22)) (C := RX12) (T := TX12) (N := 31) hx hb hts hin hown hK hP 0 rfl rfl 22 (by decide) w39 (fun _ h9 => h9) rfl dX12_summedUp_396 ?_
                      refine lv_iload hx hb dX12_summedUp_399 (lv_at hl 0 rfl) ?_
                      refine lv_iconst (v := 1) hx hb dX12_summedUp_401 (by decide) ?_
                      refine lv_isub hx hb dX12_summedUp_402 ?_
                      obtain ⟨hi_14, hw⟩ := hw
                      refine va_zald (f := (ms_truth S)) hx hb hK hP 8 7 rfl rfl hi_14 dX12_summedUp_403 ?_
                      refine lv_aload_n hx hb dX12_summedUp_404 rfl (lv_at hl 3 rfl) ?_
                      refine va_get (D := D) (ci := 11) (v := .ref (h 22)) (C := RX12) (T := TX12) (N := 31) hx hb hts hin hown hK hP 0 rfl rfl 22 (by decide) w39 (fun _ h9 => h9) rfl dX12_summedUp_405 ?_
                      refine lv_iload hx hb dX12_summedUp_408 (lv_at hl 0 rfl) ?_
                      obtain ⟨hi_13, hw⟩ := hw
                      refine va_zald (f := (ms_truth S)) hx hb hK hP 8 7 rfl rfl hi_13 dX12_summedUp_410 ?_
                      refine k_callSi (As := [.int ((ms_texts S) (x4 + (2 * x7)).toNatClampNeg), .int ((ms_truth S) ((x6 + (-1)) - 1).toNatClampNeg), .int ((ms_truth S) (x6 + (-1)).toNatClampNeg)]) (rest := [.int ((x6 + (-1)) - 1), .ref (h 22)]) ⟨hx, hb, hml, hown, hts⟩ (cM_joined l D h cy _ _ _ _ _ hw) (va_cwS 3 hts gX12_summedUp_X12_joined rfl rfl rfl (by decide +kernel) ⟨Nat.le_of_ble_eq_true rfl, Nat.le_of_ble_eq_true rfl⟩) hK hP hD hS hA rfl hl.1 rfl (Nat.le_of_ble_eq_true rfl) dX12_summedUp_411 ⟨Nat.zero_le _, Nat.zero_le _⟩ (fun r_9 S_10 H locs hw hP hD hS => ?_)
                      obtain ⟨hi_12, hw⟩ := hw
                      refine va_zast (f := (ms_truth S_10)) hx hb hK hP hD hS 8 7 rfl rfl hi_12 dX12_summedUp_414 (fun H locs hP hD hS => ?_)
                      obtain ⟨S_11, eS_11⟩ : ∃ z : MS, z = (ms_set_truth S_10 (upd (ms_truth S_10) (((x6 + (-1)) - 1).toNatClampNeg) (vp_nar .boolean r_9))) := ⟨_, rfl⟩
                      have hw := hw S_11 eS_11
                      have hP : va_P D vwCl (wM h cy S_11) H := by rw [eS_11, ← wMs_truth]; exact hP
                      have hD : va_D A (wM h cy S_11) := by rw [eS_11, ← wMs_truth]; exact hD
                      refine lv_iinc (v := x7 + 1) (lv' := [(7, .int (x7 + 1)), (6, .int (x6 + (-1))), (9, .int ((ms_texts S) ((x4 + (2 * x7)) + 1).toNatClampNeg)), (8, .int ((ms_texts S) (x4 + (2 * x7)).toNatClampNeg)), (0, .ref (h 31)), (3, .int x3), (4, .int x4), (5, .int x5)]) hx hb dX12_summedUp_415 hl (k := 7) rfl (k_inc (by decide)) (by decide) rfl (fun ls hl => ?_)
                      refine lv_goto (tgt := 38) hx hb dX12_summedUp_418 (by decide) ?_
                      exact ih_38 x3 x4 x5 (x6 + (-1)) (x7 + 1) S_11 _ _ _ hw hP hD hS (lv_sub hl [4, 5, 6, 7, 1, 0] rfl)
                    · have hw := hc_8t c_8
                      clear hc_8t hc_8f
                      refine lv_aload_n hx hb dX12_summedUp_353 rfl (lv_at hl 2 rfl) ?_
                      refine va_get (D := D) (ci := 11) (v := .ref (h 22)) (C := RX12) (T := TX12) (N := 31) hx hb hts hin hown hK hP 0 rfl rfl 22 (by decide) w39 (fun _ h9 => h9) rfl dX12_summedUp_354 ?_
                      refine lv_iload hx hb dX12_summedUp_357 (lv_at hl 6 rfl) ?_
                      refine lv_iconst (v := 1) hx hb dX12_summedUp_359 (by decide) ?_
                      refine lv_isub hx hb dX12_summedUp_360 ?_
                      refine lv_aload_n hx hb dX12_summedUp_361 rfl (lv_at hl 2 rfl) ?_
                      refine va_get (D := D) (ci := 11) (v := .ref (h 22)) (C := RX12) (T := TX12) (N := 31) hx hb hts hin hown hK hP 0 rfl rfl 22 (by decide) w39 (fun _ h9 => h9) rfl dX12_summedUp_362 ?_
                      refine lv_iload hx hb dX12_summedUp_365 (lv_at hl 6 rfl) ?_
                      refine lv_iconst (v := 1) hx hb dX12_summedUp_367 (by decide) ?_
                      refine lv_isub hx hb dX12_summedUp_368 ?_
                      obtain ⟨hi_20, hw⟩ := hw
                      refine va_zald (f := (ms_truth S)) hx hb hK hP 8 7 rfl rfl hi_20 dX12_summedUp_369 ?_
                      obtain ⟨hc_15t, hc_15f⟩ := hw
                      refine lv_if_ne (tgt := 377) hx hb dX12_summedUp_370 (by decide) (fun c_15 => ?_) (fun c_15 => ?_)
                      · have hw := hc_15f c_15
                        clear hc_15t hc_15f
                        refine lv_iconst (v := 0) hx hb dX12_summedUp_377 (by decide) ?_
                        obtain ⟨hi_17, hw⟩ := hw
                        refine va_zast (f := (ms_truth S)) hx hb hK hP hD hS 8 7 rfl rfl hi_17 dX12_summedUp_378 (fun H locs hP hD hS => ?_)
                        obtain ⟨S_16, eS_16⟩ : ∃ z : MS, z = (ms_set_truth S (upd (ms_truth S) ((x6 - 1).toNatClampNeg) (vp_nar .boolean 0))) := ⟨_, rfl⟩
                        have hw := hw S_16 eS_16
                        have hP : va_P D vwCl (wM h cy S_16) H := by rw [eS_16, ← wMs_truth]; exact hP
                        have hD : va_D A (wM h cy S_16) := by rw [eS_16, ← wMs_truth]; exact hD
                        refine lv_goto (tgt := 415) hx hb dX12_summedUp_379 (by decide) ?_
                        refine lv_iinc (v := x7 + 1) (lv' := [(7, .int (x7 + 1)), (9, .int ((ms_texts S) ((x4 + (2 * x7)) + 1).toNatClampNeg)), (8, .int ((ms_texts S) (x4 + (2 * x7)).toNatClampNeg)), (0, .ref (h 31)), (3, .int x3), (4, .int x4), (5, .int x5), (6, .int x6)]) hx hb dX12_summedUp_415 hl (k := 7) rfl (k_inc (by decide)) (by decide) rfl (fun ls hl => ?_)
                        refine lv_goto (tgt := 38) hx hb dX12_summedUp_418 (by decide) ?_
                        exact ih_38 x3 x4 x5 x6 (x7 + 1) S_16 _ _ _ hw hP hD hS (lv_sub hl [3, 4, 5, 6, 7, 0] rfl)
                      · have hw := hc_15t c_15
                        clear hc_15t hc_15f
                        refine lv_iconst (v := 1) hx hb dX12_summedUp_373 (by decide) ?_
                        refine lv_goto (tgt := 378) hx hb dX12_summedUp_374 (by decide) ?_
                        obtain ⟨hi_19, hw⟩ := hw
                        refine va_zast (f := (ms_truth S)) hx hb hK hP hD hS 8 7 rfl rfl hi_19 dX12_summedUp_378 (fun H locs hP hD hS => ?_)
                        obtain ⟨S_18, eS_18⟩ : ∃ z : MS, z = (ms_set_truth S (upd (ms_truth S) ((x6 - 1).toNatClampNeg) (vp_nar .boolean 1))) := ⟨_, rfl⟩
                        have hw := hw S_18 eS_18
                        have hP : va_P D vwCl (wM h cy S_18) H := by rw [eS_18, ← wMs_truth]; exact hP
                        have hD : va_D A (wM h cy S_18) := by rw [eS_18, ← wMs_truth]; exact hD
                        refine lv_goto (tgt := 415) hx hb dX12_summedUp_379 (by decide) ?_
                        refine lv_iinc (v := x7 + 1) (lv' := [(7, .int (x7 + 1)), (9, .int ((ms_texts S) ((x4 + (2 * x7)) + 1).toNatClampNeg)), (8, .int ((ms_texts S) (x4 + (2 * x7)).toNatClampNeg)), (0, .ref (h 31)), (3, .int x3), (4, .int x4), (5, .int x5), (6, .int x6)]) hx hb dX12_summedUp_415 hl (k := 7) rfl (k_inc (by decide)) (by decide) rfl (fun ls hl => ?_)
                        refine lv_goto (tgt := 38) hx hb dX12_summedUp_418 (by decide) ?_
                        exact ih_38 x3 x4 x5 x6 (x7 + 1) S_18 _ _ _ hw hP hD hS (lv_sub hl [3, 4, 5, 6, 7, 0] rfl)
                  · have hw := hc_7f c_7
                    clear hc_7t hc_7f
                    refine lv_iinc (v := x5 + (-2)) (lv' := [(5, .int (x5 + (-2))), (9, .int ((ms_texts S) ((x4 + (2 * x7)) + 1).toNatClampNeg)), (8, .int ((ms_texts S) (x4 + (2 * x7)).toNatClampNeg)), (0, .ref (h 31)), (3, .int x3), (4, .int x4), (6, .int x6), (7, .int x7)]) hx hb dX12_summedUp_309 hl (k := 5) rfl (k_inc (by decide)) (by decide) rfl (fun ls hl => ?_)
                    refine lv_aload_n hx hb dX12_summedUp_312 rfl (lv_at hl 3 rfl) ?_
                    refine va_get (D := D) (ci := 11) (v := .ref (h 22)) (C := RX12) (T := TX12) (N := 31) hx hb hts hin hown hK hP 0 rfl rfl 22 (by decide) w39 (fun _ h9 => h9) rfl dX12_summedUp_313 ?_
                    refine lv_iload hx hb dX12_summedUp_316 (lv_at hl 6 rfl) ?_
                    refine lv_iload hx hb dX12_summedUp_318 (lv_at hl 2 rfl) ?_
                    refine lv_aload_n hx hb dX12_summedUp_320 rfl (lv_at hl 3 rfl) ?_
                    refine va_get (D := D) (ci := 11) (v := .ref (h 21)) (C := RX12) (T := TX12) (N := 31) hx hb hts hin hown hK hP 0 rfl rfl 21 (by decide) w35 (fun _ h9 => h9) rfl dX12_summedUp_321 ?_
                    refine lv_iload hx hb dX12_summedUp_324 (lv_at hl 0 rfl) ?_
                    obtain ⟨hi_26, hw⟩ := hw
                    refine va_lald (f := (ms_values S)) hx hb hK hP 7 6 rfl rfl hi_26 dX12_summedUp_326 ?_
                    refine lv_aload_n hx hb dX12_summedUp_327 rfl (lv_at hl 3 rfl) ?_
                    refine va_get (D := D) (ci := 11) (v := .ref (h 21)) (C := RX12) (T := TX12) (N := 31) hx hb hts hin hown hK hP 0 rfl rfl 21 (by decide) w35 (fun _ h9 => h9) rfl dX12_summedUp_328 ?_
                    refine lv_iload hx hb dX12_summedUp_331 (lv_at hl 0 rfl) ?_
                    refine lv_iconst (v := 1) hx hb dX12_summedUp_333 (by decide) ?_
                    refine lv_iadd hx hb dX12_summedUp_334 ?_
                    obtain ⟨hi_25, hw⟩ := hw
                    refine va_lald (f := (ms_values S)) hx hb hK hP 7 6 rfl rfl hi_25 dX12_summedUp_335 ?_
                    refine k_callSi (As := [.int ((ms_texts S) (x4 + (2 * x7)).toNatClampNeg), .long ((ms_values S) (x5 + (-2)).toNatClampNeg), .long ((ms_values S) ((x5 + (-2)) + 1).toNatClampNeg)]) (rest := [.int x6, .ref (h 22)]) ⟨hx, hb, hml, hown, hts⟩ (cM_isAsked l D h cy _ _ _ _ _ hw) (va_cwS 3 hts gX12_summedUp_X12_isAsked rfl rfl rfl (by decide +kernel) ⟨Nat.le_of_ble_eq_true rfl, Nat.le_of_ble_eq_true rfl⟩) hK hP hD hS hA rfl hl.1 rfl (Nat.le_of_ble_eq_true rfl) dX12_summedUp_336 ⟨Nat.zero_le _, Nat.zero_le _⟩ (fun r_21 S_22 H locs hw hP hD hS => ?_)
                    obtain ⟨hi_24, hw⟩ := hw
                    refine va_zast (f := (ms_truth S_22)) hx hb hK hP hD hS 8 7 rfl rfl hi_24 dX12_summedUp_339 (fun H locs hP hD hS => ?_)
                    obtain ⟨S_23, eS_23⟩ : ∃ z : MS, z = (ms_set_truth S_22 (upd (ms_truth S_22) (x6.toNatClampNeg) (vp_nar .boolean r_21))) := ⟨_, rfl⟩
                    have hw := hw S_23 eS_23
                    have hP : va_P D vwCl (wM h cy S_23) H := by rw [eS_23, ← wMs_truth]; exact hP
                    have hD : va_D A (wM h cy S_23) := by rw [eS_23, ← wMs_truth]; exact hD
                    refine lv_iinc (v := x6 + 1) (lv' := [(6, .int (x6 + 1)), (5, .int (x5 + (-2))), (9, .int ((ms_texts S) ((x4 + (2 * x7)) + 1).toNatClampNeg)), (8, .int ((ms_texts S) (x4 + (2 * x7)).toNatClampNeg)), (0, .ref (h 31)), (3, .int x3), (4, .int x4), (7, .int x7)]) hx hb dX12_summedUp_340 hl (k := 6) rfl (k_inc (by decide)) (by decide) rfl (fun ls hl => ?_)
                    refine lv_goto (tgt := 415) hx hb dX12_summedUp_343 (by decide) ?_
                    refine lv_iinc (v := x7 + 1) (lv' := [(7, .int (x7 + 1)), (6, .int (x6 + 1)), (5, .int (x5 + (-2))), (9, .int ((ms_texts S) ((x4 + (2 * x7)) + 1).toNatClampNeg)), (8, .int ((ms_texts S) (x4 + (2 * x7)).toNatClampNeg)), (0, .ref (h 31)), (3, .int x3), (4, .int x4)]) hx hb dX12_summedUp_415 hl (k := 7) rfl (k_inc (by decide)) (by decide) rfl (fun ls hl => ?_)
                    refine lv_goto (tgt := 38) hx hb dX12_summedUp_418 (by decide) ?_
                    exact ih_38 x3 x4 (x5 + (-2)) (x6 + 1) (x7 + 1) S_23 _ _ _ hw hP hD hS (lv_sub hl [5, 6, 7, 2, 1, 0] rfl)
                · have hw := hc_6f c_6
                  clear hc_6t hc_6f
                  refine lv_iinc (v := x5 + (-1)) (lv' := [(5, .int (x5 + (-1))), (9, .int ((ms_texts S) ((x4 + (2 * x7)) + 1).toNatClampNeg)), (8, .int ((ms_texts S) (x4 + (2 * x7)).toNatClampNeg)), (0, .ref (h 31)), (3, .int x3), (4, .int x4), (6, .int x6), (7, .int x7)]) hx hb dX12_summedUp_266 hl (k := 5) rfl (k_inc (by decide)) (by decide) rfl (fun ls hl => ?_)
                  refine lv_aload_n hx hb dX12_summedUp_269 rfl (lv_at hl 3 rfl) ?_
                  refine va_get (D := D) (ci := 11) (v := .ref (h 21)) (C := RX12) (T := TX12) (N := 31) hx hb hts hin hown hK hP 0 rfl rfl 21 (by decide) w35 (fun _ h9 => h9) rfl dX12_summedUp_270 ?_
                  refine lv_iload hx hb dX12_summedUp_273 (lv_at hl 0 rfl) ?_
                  refine lv_iconst (v := 1) hx hb dX12_summedUp_275 (by decide) ?_
                  refine lv_isub hx hb dX12_summedUp_276 ?_
                  refine lv_iload hx hb dX12_summedUp_277 (lv_at hl 2 rfl) ?_
                  refine lv_aload_n hx hb dX12_summedUp_279 rfl (lv_at hl 3 rfl) ?_
                  refine va_get (D := D) (ci := 11) (v := .ref (h 21)) (C := RX12) (T := TX12) (N := 31) hx hb hts hin hown hK hP 0 rfl rfl 21 (by decide) w35 (fun _ h9 => h9) rfl dX12_summedUp_280 ?_
                  refine lv_iload hx hb dX12_summedUp_283 (lv_at hl 0 rfl) ?_
                  refine lv_iconst (v := 1) hx hb dX12_summedUp_285 (by decide) ?_
                  refine lv_isub hx hb dX12_summedUp_286 ?_
                  obtain ⟨hi_32, hw⟩ := hw
                  refine va_lald (f := (ms_values S)) hx hb hK hP 7 6 rfl rfl hi_32 dX12_summedUp_287 ?_
                  refine lv_aload_n hx hb dX12_summedUp_288 rfl (lv_at hl 3 rfl) ?_
                  refine va_get (D := D) (ci := 11) (v := .ref (h 21)) (C := RX12) (T := TX12) (N := 31) hx hb hts hin hown hK hP 0 rfl rfl 21 (by decide) w35 (fun _ h9 => h9) rfl dX12_summedUp_289 ?_
                  refine lv_iload hx hb dX12_summedUp_292 (lv_at hl 0 rfl) ?_
                  obtain ⟨hi_31, hw⟩ := hw
                  refine va_lald (f := (ms_values S)) hx hb hK hP 7 6 rfl rfl hi_31 dX12_summedUp_294 ?_
                  refine k_callSl (As := [.int ((ms_texts S) (x4 + (2 * x7)).toNatClampNeg), .long ((ms_values S) ((x5 + (-1)) - 1).toNatClampNeg), .long ((ms_values S) (x5 + (-1)).toNatClampNeg)]) (rest := [.int ((x5 + (-1)) - 1), .ref (h 21)]) ⟨hx, hb, hml, hown, hts⟩ (cM_two l D h cy _ _ _ _ _ hw) (va_cwS 3 hts gX12_summedUp_X12_two rfl rfl rfl (by decide +kernel) ⟨Nat.le_of_ble_eq_true rfl, Nat.le_of_ble_eq_true rfl⟩) hK hP hD hS hA rfl hl.1 rfl (Nat.le_of_ble_eq_true rfl) dX12_summedUp_295 ⟨Nat.zero_le _, Nat.zero_le _⟩ (fun r_27 S_28 H locs hw hP hD hS => ?_)
                  obtain ⟨hi_30, hw⟩ := hw
                  refine va_last (f := (ms_values S_28)) hx hb hK hP hD hS 7 6 rfl rfl hi_30 dX12_summedUp_298 (fun H locs hP hD hS => ?_)
                  obtain ⟨S_29, eS_29⟩ : ∃ z : MS, z = (ms_set_values S_28 (vp_updL (ms_values S_28) (((x5 + (-1)) - 1).toNatClampNeg) r_27)) := ⟨_, rfl⟩
                  have hw := hw S_29 eS_29
                  have hP : va_P D vwCl (wM h cy S_29) H := by rw [eS_29, ← wMs_values]; exact hP
                  have hD : va_D A (wM h cy S_29) := by rw [eS_29, ← wMs_values]; exact hD
                  refine lv_goto (tgt := 415) hx hb dX12_summedUp_299 (by decide) ?_
                  refine lv_iinc (v := x7 + 1) (lv' := [(7, .int (x7 + 1)), (5, .int (x5 + (-1))), (9, .int ((ms_texts S) ((x4 + (2 * x7)) + 1).toNatClampNeg)), (8, .int ((ms_texts S) (x4 + (2 * x7)).toNatClampNeg)), (0, .ref (h 31)), (3, .int x3), (4, .int x4), (6, .int x6)]) hx hb dX12_summedUp_415 hl (k := 7) rfl (k_inc (by decide)) (by decide) rfl (fun ls hl => ?_)
                  refine lv_goto (tgt := 38) hx hb dX12_summedUp_418 (by decide) ?_
                  exact ih_38 x3 x4 (x5 + (-1)) x6 (x7 + 1) S_29 _ _ _ hw hP hD hS (lv_sub hl [4, 5, 6, 1, 7, 0] rfl)
              · have hw := hc_5f c_5
                clear hc_5t hc_5f
                refine lv_aload_n hx hb dX12_summedUp_215 rfl (lv_at hl 2 rfl) ?_
                refine va_get (D := D) (ci := 11) (v := .ref (h 21)) (C := RX12) (T := TX12) (N := 31) hx hb hts hin hown hK hP 0 rfl rfl 21 (by decide) w35 (fun _ h9 => h9) rfl dX12_summedUp_216 ?_
                refine lv_iload hx hb dX12_summedUp_219 (lv_at hl 5 rfl) ?_
                refine lv_iconst (v := 1) hx hb dX12_summedUp_221 (by decide) ?_
                refine lv_isub hx hb dX12_summedUp_222 ?_
                refine lv_iload hx hb dX12_summedUp_223 (lv_at hl 1 rfl) ?_
                refine lv_iconst (v := 5) hx hb dX12_summedUp_225 (by decide) ?_
                obtain ⟨hc_33t, hc_33f⟩ := hw
                refine lv_icmp_ne (tgt := 242) hx hb dX12_summedUp_226 (by decide) (fun c_33 => ?_) (fun c_33 => ?_)
                · have hw := hc_33f c_33
                  clear hc_33t hc_33f
                  refine lv_aload_n hx hb dX12_summedUp_242 rfl (lv_at hl 2 rfl) ?_
                  refine lv_aload_n hx hb dX12_summedUp_243 rfl (lv_at hl 2 rfl) ?_
                  refine va_get (D := D) (ci := 11) (v := .ref (h 21)) (C := RX12) (T := TX12) (N := 31) hx hb hts hin hown hK hP 0 rfl rfl 21 (by decide) w35 (fun _ h9 => h9) rfl dX12_summedUp_244 ?_
                  refine lv_iload hx hb dX12_summedUp_247 (lv_at hl 5 rfl) ?_
                  refine lv_iconst (v := 1) hx hb dX12_summedUp_249 (by decide) ?_
                  refine lv_isub hx hb dX12_summedUp_250 ?_
                  obtain ⟨hi_38, hw⟩ := hw
                  refine va_lald (f := (ms_values S)) hx hb hK hP 7 6 rfl rfl hi_38 dX12_summedUp_251 ?_
                  refine k_callVl (As := [.long ((ms_values S) (x5 - 1).toNatClampNeg)]) (rest := [.int (x5 - 1), .ref (h 21)]) ⟨hx, hb, hml, hown, hts⟩ (cM_moodOf l D h cy _ _ _ hw) (cwV 1 hts gX12_summedUp_X12_moodOf rfl rfl rfl (by decide +kernel) ⟨Nat.le_of_ble_eq_true rfl, Nat.le_of_ble_eq_true rfl⟩) (va_recv hK hP (ci := 11) (q0 := 0) rfl rfl) hK hP hD hS hA rfl hl.1 rfl (Nat.le_of_ble_eq_true rfl) dX12_summedUp_252 ⟨Nat.zero_le _, Nat.zero_le _⟩ (fun r_34 S_35 H locs hw hP hD hS => ?_)
                  obtain ⟨hi_37, hw⟩ := hw
                  refine va_last (f := (ms_values S_35)) hx hb hK hP hD hS 7 6 rfl rfl hi_37 dX12_summedUp_255 (fun H locs hP hD hS => ?_)
                  obtain ⟨S_36, eS_36⟩ : ∃ z : MS, z = (ms_set_values S_35 (vp_updL (ms_values S_35) ((x5 - 1).toNatClampNeg) r_34)) := ⟨_, rfl⟩
                  have hw := hw S_36 eS_36
                  have hP : va_P D vwCl (wM h cy S_36) H := by rw [eS_36, ← wMs_values]; exact hP
                  have hD : va_D A (wM h cy S_36) := by rw [eS_36, ← wMs_values]; exact hD
                  refine lv_goto (tgt := 415) hx hb dX12_summedUp_256 (by decide) ?_
                  refine lv_iinc (v := x7 + 1) (lv' := [(7, .int (x7 + 1)), (9, .int ((ms_texts S) ((x4 + (2 * x7)) + 1).toNatClampNeg)), (8, .int ((ms_texts S) (x4 + (2 * x7)).toNatClampNeg)), (0, .ref (h 31)), (3, .int x3), (4, .int x4), (5, .int x5), (6, .int x6)]) hx hb dX12_summedUp_415 hl (k := 7) rfl (k_inc (by decide)) (by decide) rfl (fun ls hl => ?_)
                  refine lv_goto (tgt := 38) hx hb dX12_summedUp_418 (by decide) ?_
                  exact ih_38 x3 x4 x5 x6 (x7 + 1) S_36 _ _ _ hw hP hD hS (lv_sub hl [3, 4, 5, 6, 7, 0] rfl)
                · have hw := hc_33t c_33
                  clear hc_33t hc_33f
                  refine lv_aload_n hx hb dX12_summedUp_229 rfl (lv_at hl 2 rfl) ?_
                  refine va_get (D := D) (ci := 11) (v := .ref (h 21)) (C := RX12) (T := TX12) (N := 31) hx hb hts hin hown hK hP 0 rfl rfl 21 (by decide) w35 (fun _ h9 => h9) rfl dX12_summedUp_230 ?_
                  refine lv_iload hx hb dX12_summedUp_233 (lv_at hl 5 rfl) ?_
                  refine lv_iconst (v := 1) hx hb dX12_summedUp_235 (by decide) ?_
                  refine lv_isub hx hb dX12_summedUp_236 ?_
                  obtain ⟨hi_41, hw⟩ := hw
                  refine va_lald (f := (ms_values S)) hx hb hK hP 7 6 rfl rfl hi_41 dX12_summedUp_237 ?_
                  refine lv_lneg hx hb dX12_summedUp_238 ?_
                  refine lv_goto (tgt := 255) hx hb dX12_summedUp_239 (by decide) ?_
                  obtain ⟨hi_40, hw⟩ := hw
                  refine va_last (f := (ms_values S)) hx hb hK hP hD hS 7 6 rfl rfl hi_40 dX12_summedUp_255 (fun H locs hP hD hS => ?_)
                  obtain ⟨S_39, eS_39⟩ : ∃ z : MS, z = (ms_set_values S (vp_updL (ms_values S) ((x5 - 1).toNatClampNeg) (-((ms_values S) (x5 - 1).toNatClampNeg)))) := ⟨_, rfl⟩
                  have hw := hw S_39 eS_39
                  have hP : va_P D vwCl (wM h cy S_39) H := by rw [eS_39, ← wMs_values]; exact hP
                  have hD : va_D A (wM h cy S_39) := by rw [eS_39, ← wMs_values]; exact hD
                  refine lv_goto (tgt := 415) hx hb dX12_summedUp_256 (by decide) ?_
                  refine lv_iinc (v := x7 + 1) (lv' := [(7, .int (x7 + 1)), (9, .int ((ms_texts S) ((x4 + (2 * x7)) + 1).toNatClampNeg)), (8, .int ((ms_texts S) (x4 + (2 * x7)).toNatClampNeg)), (0, .ref (h 31)), (3, .int x3), (4, .int x4), (5, .int x5), (6, .int x6)]) hx hb dX12_summedUp_415 hl (k := 7) rfl (k_inc (by decide)) (by decide) rfl (fun ls hl => ?_)
                  refine lv_goto (tgt := 38) hx hb dX12_summedUp_418 (by decide) ?_
                  exact ih_38 x3 x4 x5 x6 (x7 + 1) S_39 _ _ _ hw hP hD hS (lv_sub hl [3, 4, 5, 6, 7, 0] rfl)
            · have hw := hc_4t c_4
              clear hc_4t hc_4f
              refine lv_iinc (v := x5 + (-2)) (lv' := [(5, .int (x5 + (-2))), (9, .int ((ms_texts S) ((x4 + (2 * x7)) + 1).toNatClampNeg)), (8, .int ((ms_texts S) (x4 + (2 * x7)).toNatClampNeg)), (0, .ref (h 31)), (3, .int x3), (4, .int x4), (6, .int x6), (7, .int x7)]) hx hb dX12_summedUp_166 hl (k := 5) rfl (k_inc (by decide)) (by decide) rfl (fun ls hl => ?_)
              refine lv_aload_n hx hb dX12_summedUp_169 rfl (lv_at hl 3 rfl) ?_
              refine va_get (D := D) (ci := 11) (v := .ref (h 21)) (C := RX12) (T := TX12) (N := 31) hx hb hts hin hown hK hP 0 rfl rfl 21 (by decide) w35 (fun _ h9 => h9) rfl dX12_summedUp_170 ?_
              refine lv_iload hx hb dX12_summedUp_173 (lv_at hl 0 rfl) ?_
              refine lv_iconst (v := 1) hx hb dX12_summedUp_175 (by decide) ?_
              refine lv_isub hx hb dX12_summedUp_176 ?_
              refine lv_aload_n hx hb dX12_summedUp_177 rfl (lv_at hl 3 rfl) ?_
              refine va_get (D := D) (ci := 11) (v := .ref (h 21)) (C := RX12) (T := TX12) (N := 31) hx hb hts hin hown hK hP 0 rfl rfl 21 (by decide) w35 (fun _ h9 => h9) rfl dX12_summedUp_178 ?_
              refine lv_iload hx hb dX12_summedUp_181 (lv_at hl 0 rfl) ?_
              refine lv_iconst (v := 1) hx hb dX12_summedUp_183 (by decide) ?_
              refine lv_isub hx hb dX12_summedUp_184 ?_
              obtain ⟨hi_48, hw⟩ := hw
              refine va_lald (f := (ms_values S)) hx hb hK hP 7 6 rfl rfl hi_48 dX12_summedUp_185 ?_
              refine lv_aload_n hx hb dX12_summedUp_186 rfl (lv_at hl 3 rfl) ?_
              refine va_get (D := D) (ci := 11) (v := .ref (h 21)) (C := RX12) (T := TX12) (N := 31) hx hb hts hin hown hK hP 0 rfl rfl 21 (by decide) w35 (fun _ h9 => h9) rfl dX12_summedUp_187 ?_
              refine lv_iload hx hb dX12_summedUp_190 (lv_at hl 0 rfl) ?_
              obtain ⟨hi_47, hw⟩ := hw
              refine va_lald (f := (ms_values S)) hx hb hK hP 7 6 rfl rfl hi_47 dX12_summedUp_192 ?_
              refine lv_aload_n hx hb dX12_summedUp_193 rfl (lv_at hl 3 rfl) ?_
              refine va_get (D := D) (ci := 11) (v := .ref (h 21)) (C := RX12) (T := TX12) (N := 31) hx hb hts hin hown hK hP 0 rfl rfl 21 (by decide) w35 (fun _ h9 => h9) rfl dX12_summedUp_194 ?_
              refine lv_iload hx hb dX12_summedUp_197 (lv_at hl 0 rfl) ?_
              refine lv_iconst (v := 1) hx hb dX12_summedUp_199 (by decide) ?_
              refine lv_iadd hx hb dX12_summedUp_200 ?_
              obtain ⟨hi_46, hw⟩ := hw
              refine va_lald (f := (ms_values S)) hx hb hK hP 7 6 rfl rfl hi_46 dX12_summedUp_201 ?_
              refine k_callSl (As := [.long ((ms_values S) ((x5 + (-2)) - 1).toNatClampNeg), .long ((ms_values S) (x5 + (-2)).toNatClampNeg), .long ((ms_values S) ((x5 + (-2)) + 1).toNatClampNeg)]) (rest := [.int ((x5 + (-2)) - 1), .ref (h 21)]) ⟨hx, hb, hml, hown, hts⟩ (cM_heldIn l D h cy _ _ _ _ _ hw) (va_cwS 3 hts gX12_summedUp_X12_heldIn rfl rfl rfl (by decide +kernel) ⟨Nat.le_of_ble_eq_true rfl, Nat.le_of_ble_eq_true rfl⟩) hK hP hD hS hA rfl hl.1 rfl (Nat.le_of_ble_eq_true rfl) dX12_summedUp_202 ⟨Nat.zero_le _, Nat.zero_le _⟩ (fun r_42 S_43 H locs hw hP hD hS => ?_)
              obtain ⟨hi_45, hw⟩ := hw
              refine va_last (f := (ms_values S_43)) hx hb hK hP hD hS 7 6 rfl rfl hi_45 dX12_summedUp_205 (fun H locs hP hD hS => ?_)
              obtain ⟨S_44, eS_44⟩ : ∃ z : MS, z = (ms_set_values S_43 (vp_updL (ms_values S_43) (((x5 + (-2)) - 1).toNatClampNeg) r_42)) := ⟨_, rfl⟩
              have hw := hw S_44 eS_44
              have hP : va_P D vwCl (wM h cy S_44) H := by rw [eS_44, ← wMs_values]; exact hP
              have hD : va_D A (wM h cy S_44) := by rw [eS_44, ← wMs_values]; exact hD
              refine lv_goto (tgt := 415) hx hb dX12_summedUp_206 (by decide) ?_
              refine lv_iinc (v := x7 + 1) (lv' := [(7, .int (x7 + 1)), (5, .int (x5 + (-2))), (9, .int ((ms_texts S) ((x4 + (2 * x7)) + 1).toNatClampNeg)), (8, .int ((ms_texts S) (x4 + (2 * x7)).toNatClampNeg)), (0, .ref (h 31)), (3, .int x3), (4, .int x4), (6, .int x6)]) hx hb dX12_summedUp_415 hl (k := 7) rfl (k_inc (by decide)) (by decide) rfl (fun ls hl => ?_)
              refine lv_goto (tgt := 38) hx hb dX12_summedUp_418 (by decide) ?_
              exact ih_38 x3 x4 (x5 + (-2)) x6 (x7 + 1) S_44 _ _ _ hw hP hD hS (lv_sub hl [4, 5, 6, 1, 7, 0] rfl)
          · have hw := hc_3t c_3
            clear hc_3t hc_3f
            refine lv_iinc (v := x5 + (-1)) (lv' := [(5, .int (x5 + (-1))), (9, .int ((ms_texts S) ((x4 + (2 * x7)) + 1).toNatClampNeg)), (8, .int ((ms_texts S) (x4 + (2 * x7)).toNatClampNeg)), (0, .ref (h 31)), (3, .int x3), (4, .int x4), (6, .int x6), (7, .int x7)]) hx hb dX12_summedUp_125 hl (k := 5) rfl (k_inc (by decide)) (by decide) rfl (fun ls hl => ?_)
            refine lv_iinc (v := x6 + (-1)) (lv' := [(6, .int (x6 + (-1))), (5, .int (x5 + (-1))), (9, .int ((ms_texts S) ((x4 + (2 * x7)) + 1).toNatClampNeg)), (8, .int ((ms_texts S) (x4 + (2 * x7)).toNatClampNeg)), (0, .ref (h 31)), (3, .int x3), (4, .int x4), (7, .int x7)]) hx hb dX12_summedUp_128 hl (k := 6) rfl (k_inc (by decide)) (by decide) rfl (fun ls hl => ?_)
            refine lv_aload_n hx hb dX12_summedUp_131 rfl (lv_at hl 4 rfl) ?_
            refine va_get (D := D) (ci := 11) (v := .ref (h 22)) (C := RX12) (T := TX12) (N := 31) hx hb hts hin hown hK hP 0 rfl rfl 22 (by decide) w39 (fun _ h9 => h9) rfl dX12_summedUp_132 ?_
            refine lv_iload hx hb dX12_summedUp_135 (lv_at hl 0 rfl) ?_
            obtain ⟨hi_53, hw⟩ := hw
            refine va_zald (f := (ms_truth S)) hx hb hK hP 8 7 rfl rfl hi_53 dX12_summedUp_137 ?_
            obtain ⟨hc_49t, hc_49f⟩ := hw
            refine lv_if_ne (tgt := 415) hx hb dX12_summedUp_138 (by decide) (fun c_49 => ?_) (fun c_49 => ?_)
            · have hw := hc_49f c_49
              clear hc_49t hc_49f
              refine lv_iinc (v := x7 + 1) (lv' := [(7, .int (x7 + 1)), (6, .int (x6 + (-1))), (5, .int (x5 + (-1))), (9, .int ((ms_texts S) ((x4 + (2 * x7)) + 1).toNatClampNeg)), (8, .int ((ms_texts S) (x4 + (2 * x7)).toNatClampNeg)), (0, .ref (h 31)), (3, .int x3), (4, .int x4)]) hx hb dX12_summedUp_415 hl (k := 7) rfl (k_inc (by decide)) (by decide) rfl (fun ls hl => ?_)
              refine lv_goto (tgt := 38) hx hb dX12_summedUp_418 (by decide) ?_
              exact ih_38 x3 x4 (x5 + (-1)) (x6 + (-1)) (x7 + 1) S _ _ _ hw hP hD hS (lv_sub hl [5, 6, 7, 2, 1, 0] rfl)
            · have hw := hc_49t c_49
              clear hc_49t hc_49f
              refine lv_aload_n hx hb dX12_summedUp_141 rfl (lv_at hl 4 rfl) ?_
              refine va_get (D := D) (ci := 11) (v := .ref (h 21)) (C := RX12) (T := TX12) (N := 31) hx hb hts hin hown hK hP 0 rfl rfl 21 (by decide) w35 (fun _ h9 => h9) rfl dX12_summedUp_142 ?_
              refine lv_iload hx hb dX12_summedUp_145 (lv_at hl 1 rfl) ?_
              refine lv_iconst (v := 1) hx hb dX12_summedUp_147 (by decide) ?_
              refine lv_isub hx hb dX12_summedUp_148 ?_
              refine lv_aload_n hx hb dX12_summedUp_149 rfl (lv_at hl 4 rfl) ?_
              refine va_get (D := D) (ci := 11) (v := .ref (h 21)) (C := RX12) (T := TX12) (N := 31) hx hb hts hin hown hK hP 0 rfl rfl 21 (by decide) w35 (fun _ h9 => h9) rfl dX12_summedUp_150 ?_
              refine lv_iload hx hb dX12_summedUp_153 (lv_at hl 1 rfl) ?_
              obtain ⟨hi_52, hw⟩ := hw
              refine va_lald (f := (ms_values S)) hx hb hK hP 7 6 rfl rfl hi_52 dX12_summedUp_155 ?_
              obtain ⟨hi_51, hw⟩ := hw
              refine va_last (f := (ms_values S)) hx hb hK hP hD hS 7 6 rfl rfl hi_51 dX12_summedUp_156 (fun H locs hP hD hS => ?_)
              obtain ⟨S_50, eS_50⟩ : ∃ z : MS, z = (ms_set_values S (vp_updL (ms_values S) (((x5 + (-1)) - 1).toNatClampNeg) ((ms_values S) (x5 + (-1)).toNatClampNeg))) := ⟨_, rfl⟩
              have hw := hw S_50 eS_50
              have hP : va_P D vwCl (wM h cy S_50) H := by rw [eS_50, ← wMs_values]; exact hP
              have hD : va_D A (wM h cy S_50) := by rw [eS_50, ← wMs_values]; exact hD
              refine lv_goto (tgt := 415) hx hb dX12_summedUp_157 (by decide) ?_
              refine lv_iinc (v := x7 + 1) (lv' := [(7, .int (x7 + 1)), (6, .int (x6 + (-1))), (5, .int (x5 + (-1))), (9, .int ((ms_texts S) ((x4 + (2 * x7)) + 1).toNatClampNeg)), (8, .int ((ms_texts S) (x4 + (2 * x7)).toNatClampNeg)), (0, .ref (h 31)), (3, .int x3), (4, .int x4)]) hx hb dX12_summedUp_415 hl (k := 7) rfl (k_inc (by decide)) (by decide) rfl (fun ls hl => ?_)
              refine lv_goto (tgt := 38) hx hb dX12_summedUp_418 (by decide) ?_
              exact ih_38 x3 x4 (x5 + (-1)) (x6 + (-1)) (x7 + 1) S_50 _ _ _ hw hP hD hS (lv_sub hl [5, 6, 7, 2, 1, 0] rfl)
        · have hw := hc_2f c_2
          clear hc_2t hc_2f
          refine lv_aload_n hx hb dX12_summedUp_87 rfl (lv_at hl 2 rfl) ?_
          refine va_get (D := D) (ci := 11) (v := .ref (h 21)) (C := RX12) (T := TX12) (N := 31) hx hb hts hin hown hK hP 0 rfl rfl 21 (by decide) w35 (fun _ h9 => h9) rfl dX12_summedUp_88 ?_
          refine lv_iload hx hb dX12_summedUp_91 (lv_at hl 5 rfl) ?_
          refine lv_iload hx hb dX12_summedUp_93 (lv_at hl 1 rfl) ?_
          obtain ⟨hc_54t, hc_54f⟩ := hw
          refine lv_if_ne (tgt := 104) hx hb dX12_summedUp_95 (by decide) (fun c_54 => ?_) (fun c_54 => ?_)
          · have hw := hc_54f c_54
            clear hc_54t hc_54f
            refine lv_aload_n hx hb dX12_summedUp_104 rfl (lv_at hl 2 rfl) ?_
            refine va_get (D := D) (ci := 11) (v := .ref (h 20)) (C := RX12) (T := TX12) (N := 31) hx hb hts hin hown hK hP 0 rfl rfl 20 (by decide) w32 (fun _ h9 => h9) rfl dX12_summedUp_105 ?_
            refine lv_iload hx hb dX12_summedUp_108 (lv_at hl 0 rfl) ?_
            obtain ⟨hi_57, hw⟩ := hw
            refine va_iald (f := (ms_named S)) hx hb hK hP 6 5 rfl rfl hi_57 dX12_summedUp_110 ?_
            refine lv_i2l (v := Int32.toInt64 ((ms_named S) ((ms_texts S) ((x4 + (2 * x7)) + 1).toNatClampNeg).toNatClampNeg)) hx hb dX12_summedUp_111 rfl ?_
            obtain ⟨hi_56, hw⟩ := hw
            refine va_last (f := (ms_values S)) hx hb hK hP hD hS 7 6 rfl rfl hi_56 dX12_summedUp_112 (fun H locs hP hD hS => ?_)
            obtain ⟨S_55, eS_55⟩ : ∃ z : MS, z = (ms_set_values S (vp_updL (ms_values S) (x5.toNatClampNeg) (Int32.toInt64 ((ms_named S) ((ms_texts S) ((x4 + (2 * x7)) + 1).toNatClampNeg).toNatClampNeg)))) := ⟨_, rfl⟩
            have hw := hw S_55 eS_55
            have hP : va_P D vwCl (wM h cy S_55) H := by rw [eS_55, ← wMs_values]; exact hP
            have hD : va_D A (wM h cy S_55) := by rw [eS_55, ← wMs_values]; exact hD
            refine lv_iinc (v := x5 + 1) (lv' := [(5, .int (x5 + 1)), (9, .int ((ms_texts S) ((x4 + (2 * x7)) + 1).toNatClampNeg)), (8, .int ((ms_texts S) (x4 + (2 * x7)).toNatClampNeg)), (0, .ref (h 31)), (3, .int x3), (4, .int x4), (6, .int x6), (7, .int x7)]) hx hb dX12_summedUp_113 hl (k := 5) rfl (k_inc (by decide)) (by decide) rfl (fun ls hl => ?_)
            refine lv_goto (tgt := 415) hx hb dX12_summedUp_116 (by decide) ?_
            refine lv_iinc (v := x7 + 1) (lv' := [(7, .int (x7 + 1)), (5, .int (x5 + 1)), (9, .int ((ms_texts S) ((x4 + (2 * x7)) + 1).toNatClampNeg)), (8, .int ((ms_texts S) (x4 + (2 * x7)).toNatClampNeg)), (0, .ref (h 31)), (3, .int x3), (4, .int x4), (6, .int x6)]) hx hb dX12_summedUp_415 hl (k := 7) rfl (k_inc (by decide)) (by decide) rfl (fun ls hl => ?_)
            refine lv_goto (tgt := 38) hx hb dX12_summedUp_418 (by decide) ?_
            exact ih_38 x3 x4 (x5 + 1) x6 (x7 + 1) S_55 _ _ _ hw hP hD hS (lv_sub hl [4, 5, 6, 1, 7, 0] rfl)
          · have hw := hc_54t c_54
            clear hc_54t hc_54f
            refine lv_iload hx hb dX12_summedUp_98 (lv_at hl 0 rfl) ?_
            refine lv_i2l (v := Int32.toInt64 ((ms_texts S) ((x4 + (2 * x7)) + 1).toNatClampNeg)) hx hb dX12_summedUp_100 rfl ?_
            refine lv_goto (tgt := 112) hx hb dX12_summedUp_101 (by decide) ?_
            obtain ⟨hi_59, hw⟩ := hw
            refine va_last (f := (ms_values S)) hx hb hK hP hD hS 7 6 rfl rfl hi_59 dX12_summedUp_112 (fun H locs hP hD hS => ?_)
            obtain ⟨S_58, eS_58⟩ : ∃ z : MS, z = (ms_set_values S (vp_updL (ms_values S) (x5.toNatClampNeg) (Int32.toInt64 ((ms_texts S) ((x4 + (2 * x7)) + 1).toNatClampNeg)))) := ⟨_, rfl⟩
            have hw := hw S_58 eS_58
            have hP : va_P D vwCl (wM h cy S_58) H := by rw [eS_58, ← wMs_values]; exact hP
            have hD : va_D A (wM h cy S_58) := by rw [eS_58, ← wMs_values]; exact hD
            refine lv_iinc (v := x5 + 1) (lv' := [(5, .int (x5 + 1)), (9, .int ((ms_texts S) ((x4 + (2 * x7)) + 1).toNatClampNeg)), (8, .int ((ms_texts S) (x4 + (2 * x7)).toNatClampNeg)), (0, .ref (h 31)), (3, .int x3), (4, .int x4), (6, .int x6), (7, .int x7)]) hx hb dX12_summedUp_113 hl (k := 5) rfl (k_inc (by decide)) (by decide) rfl (fun ls hl => ?_)
            refine lv_goto (tgt := 415) hx hb dX12_summedUp_116 (by decide) ?_
            refine lv_iinc (v := x7 + 1) (lv' := [(7, .int (x7 + 1)), (5, .int (x5 + 1)), (9, .int ((ms_texts S) ((x4 + (2 * x7)) + 1).toNatClampNeg)), (8, .int ((ms_texts S) (x4 + (2 * x7)).toNatClampNeg)), (0, .ref (h 31)), (3, .int x3), (4, .int x4), (6, .int x6)]) hx hb dX12_summedUp_415 hl (k := 7) rfl (k_inc (by decide)) (by decide) rfl (fun ls hl => ?_)
            refine lv_goto (tgt := 38) hx hb dX12_summedUp_418 (by decide) ?_
            exact ih_38 x3 x4 (x5 + 1) x6 (x7 + 1) S_58 _ _ _ hw hP hD hS (lv_sub hl [4, 5, 6, 1, 7, 0] rfl)
  refine lv_sipush (v := 705) hx hb dX12_summedUp_0 (by decide) ?_
  refine lv_iload_n hx hb dX12_summedUp_3 rfl (lv_at hl 1 rfl) ?_
  refine lv_imul hx hb dX12_summedUp_4 ?_
  refine lv_iconst (v := 1) hx hb dX12_summedUp_5 (by decide) ?_
  refine lv_iadd hx hb dX12_summedUp_6 ?_
  refine lv_iconst (v := 4) hx hb dX12_summedUp_7 (by decide) ?_
  refine lv_iload_n hx hb dX12_summedUp_8 rfl (lv_at hl 2 rfl) ?_
  refine lv_imul hx hb dX12_summedUp_9 ?_
  refine lv_iadd hx hb dX12_summedUp_10 ?_
  refine lv_istore_n (lv' := [(3, .int (((705 * p1) + 1) + (4 * p2))), (0, .ref (h 31)), (1, .int p1), (2, .int p2)]) hx hb dX12_summedUp_11 rfl hl (by decide) rfl (fun ls hl => ?_)
  refine lv_sipush (v := 705) hx hb dX12_summedUp_12 (by decide) ?_
  refine lv_iload_n hx hb dX12_summedUp_15 rfl (lv_at hl 2 rfl) ?_
  refine lv_imul hx hb dX12_summedUp_16 ?_
  refine lv_bipush (v := 97) hx hb dX12_summedUp_17 (by decide) ?_
  refine lv_iadd hx hb dX12_summedUp_19 ?_
  refine lv_istore (lv' := [(4, .int ((705 * p1) + 97)), (3, .int (((705 * p1) + 1) + (4 * p2))), (0, .ref (h 31)), (1, .int p1), (2, .int p2)]) hx hb dX12_summedUp_20 hl (by decide) rfl (fun ls hl => ?_)
  refine lv_iconst (v := 0) hx hb dX12_summedUp_22 (by decide) ?_
  refine lv_istore (lv' := [(5, .int 0), (4, .int ((705 * p1) + 97)), (3, .int (((705 * p1) + 1) + (4 * p2))), (0, .ref (h 31)), (1, .int p1), (2, .int p2)]) hx hb dX12_summedUp_23 hl (by decide) rfl (fun ls hl => ?_)
  refine lv_iconst (v := 0) hx hb dX12_summedUp_25 (by decide) ?_
  refine lv_istore (lv' := [(6, .int 0), (5, .int 0), (4, .int ((705 * p1) + 97)), (3, .int (((705 * p1) + 1) + (4 * p2))), (0, .ref (h 31)), (1, .int p1), (2, .int p2)]) hx hb dX12_summedUp_26 hl (by decide) rfl (fun ls hl => ?_)
  refine lv_aload_n hx hb dX12_summedUp_28 rfl (lv_at hl 4 rfl) ?_
  refine va_get (D := D) (ci := 11) (v := .ref (h 2)) (C := RX12) (T := TX12) (N := 31) hx hb hts hin hown hK hP 0 rfl rfl 2 (by decide) w16 (fun _ h9 => h9) rfl dX12_summedUp_29 ?_
  refine lv_iload_n hx hb dX12_summedUp_32 rfl (lv_at hl 3 rfl) ?_
  refine lv_iconst (v := 1) hx hb dX12_summedUp_33 (by decide) ?_
  refine lv_iadd hx hb dX12_summedUp_34 ?_
  obtain ⟨hi_63, hw⟩ := hw
  refine va_iald (f := (ms_texts S)) hx hb hK hP 3 2 rfl rfl hi_63 dX12_summedUp_35 ?_
  refine lv_istore (lv' := [(7, .int ((ms_texts S) ((((705 * p1) + 1) + (4 * p2)) + 1).toNatClampNeg)), (6, .int 0), (5, .int 0), (4, .int ((705 * p1) + 97)), (3, .int (((705 * p1) + 1) + (4 * p2))), (0, .ref (h 31)), (1, .int p1), (2, .int p2)]) hx hb dX12_summedUp_36 hl (by decide) rfl (fun ls hl => ?_)
  obtain ⟨n_38, hw⟩ := hw
  exact L_38 n_38 (((705 * p1) + 1) + (4 * p2)) ((705 * p1) + 97) 0 0 ((ms_texts S) ((((705 * p1) + 1) + (4 * p2)) + 1).toNatClampNeg) S _ _ _ hw hP hD hS (lv_sub hl [5, 4, 3, 2, 1, 0] rfl)
def wM_says_3 (post : Int32 → MS → Prop) : Nat → Int32 → Int32 → Int32 → Int32 → Int32 → MS → Prop
  | 0, _, _, _, _, _, _ => False
  | n + 1, x1, x2, x3, x4, x5, S => ((x1 < 0 → wM_cut (Int32.toInt64 x3) 0 x4 S (fun r_2 S_3 => post r_2 S_3)) ∧ (¬ (x1 < 0) → (vp_in (705 * x1) 2820 ∧ ((((ms_texts S) (705 * x1).toNatClampNeg) ≤ x5 → wM_cut (Int32.toInt64 x3) 0 x4 S (fun r_5 S_6 => post r_5 S_6)) ∧ (¬ (((ms_texts S) (705 * x1).toNatClampNeg) ≤ x5) → (vp_in (((705 * x1) + 1) + (4 * x5)) 2820 ∧ ((((ms_texts S) (((705 * x1) + 1) + (4 * x5)).toNatClampNeg) = x2 → wM_summedUp x1 x5 S (fun r_8 S_9 => wM_cut r_8 0 x4 S_9 (fun r_10 S_11 => post r_10 S_11))) ∧ (¬ (((ms_texts S) (((705 * x1) + 1) + (4 * x5)).toNatClampNeg) = x2) → wM_says_3 post n x1 x2 x3 x4 (x5 + 1) S))))))))
def wM_says (p1 : Int32) (p2 : Int32) (p3 : Int32) (p4 : Int32) (S : MS) (post : Int32 → MS → Prop) : Prop := ∃ k_ : Nat, wM_says_3 post k_ p1 p2 p3 p4 0 S
set_option maxHeartbeats 4000000 in
set_option maxRecDepth 100000 in
theorem cM_says (l : Launch) (D : va_G) (h : Nat → Nat) (cy : Nat → ClassId) (p1 : Int32) (p2 : Int32) (p3 : Int32) (p4 : Int32) (S : MS) (post : Int32 → MS → Prop) (hw : wM_says p1 p2 p3 p4 S post) : k_Mi l yX12_says wsX12_says { frames := 3, cells := 0, slots := 0, locals := 74 } D (tyM cy) (wM h cy) [.ref (h 31), .int p1, .int p2, .int p3, .int p4] S post := by
  intro sz
  refine Met.ofW (cc := cX12_says) (maxL := 6) (ret := (some .int)) (by decide) rfl ?_
  intro p e s m args below meth c s₁ B hml hv
  obtain ⟨rfl, hsz, hP, hK, hD0⟩ := hv
  have hx := B.exec
  have hb := B.bytes
  have hr := B.returns
  have hts := atoms_spec (ws := wsX12_says) B.pre
  have hown : s.vm.findClass RX12 = some m.cls := findClass_of_methodNamed B.named
  have hlocks := B.notSynchronized
  subst hsz
  have hD := hD0.self (sz := s.heap.size)
  generalize hAe : va_A (wM h cy S) s.heap.size = A at hD ⊢
  have hA : ∀ q : Nat, s.heap.size ≤ q → A q := fun q h => by rw [← hAe]; exact Or.inr h
  have hS : va_S A s.heap s.heap [] := va_S.rf
  have hin : ∀ w ∈ wsX120, w ∈ wsX12_says := fun _ h => List.mem_cons_of_mem _ (List.mem_append_right _ h)
  have w16 := hts (.fieldLink RX12 16 "ClownsMournModel" "texts" "[I") (List.mem_of_getElem? (i := 1) rfl)
  have hl := lv_entry ([.ref (h 31), .int p1, .int p2, .int p3, .int p4]) (n := 6) (Nat.le_of_ble_eq_true rfl)
  rw [lg_entry_eq]
  generalize (lg_sl ([.ref (h 31), .int p1, .int p2, .int p3, .int p4]) ++ List.replicate (6 - (lg_sl ([.ref (h 31), .int p1, .int p2, .int p3, .int p4])).length) Slot.unset).toArray = ls at hl ⊢
  have hl : lv_has ls 6 [(0, .ref (h 31)), (1, .int p1), (2, .int p2), (3, .int p3), (4, .int p4)] := hl
  unfold wM_says at hw
  clear hD0
  have L_3 : ∀ (n3 : Nat) (x1 : Int32) (x2 : Int32) (x3 : Int32) (x4 : Int32) (x5 : Int32) (S : MS) (H : Heap) (locs : List Loc) (ls : Array Slot), wM_says_3 post n3 x1 x2 x3 x4 x5 S → va_P D vwCl (wM h cy S) H → va_D A (wM h cy S) → va_S A s.heap H locs → lv_has ls 6 [(0, .ref (h 31)), (1, .int x1), (2, .int x2), (3, .int x3), (4, .int x4), (5, .int x5)] → W p l e (headSpec wsX12_says { frames := 3, cells := 0, slots := 0, locals := 74 }).room s m (([.ref (h 31), .int p1, .int p2, .int p3, .int p4] : List Value).toArray) below meth c H locs 0 0 (MQ below (va_Qi post (k_Post D (tyM cy) (wM h cy) A) A) (([.ref (h 31), .int p1, .int p2, .int p3, .int p4] : List Value).toArray) s 0 0 A) (F0 m 3 ls []) := by
    intro n3
    induction n3 with
    | zero => intro x1 x2 x3 x4 x5 S H locs ls hw; exact False.elim hw
    | succ n3 ih_3 =>
      intro x1 x2 x3 x4 x5 S H locs ls hw hP hD hS hl
      unfold wM_says_3 at hw
      refine lv_iload_n hx hb dX12_says_3 rfl (lv_at hl 1 rfl) ?_
      obtain ⟨hc_1t, hc_1f⟩ := hw
      refine lv_if_lt (tgt := 63) hx hb dX12_says_4 (by decide) (fun c_1 => ?_) (fun c_1 => ?_)
      · have hw := hc_1t c_1
        clear hc_1t hc_1f
        refine lv_iload_n hx hb dX12_says_63 rfl (lv_at hl 3 rfl) ?_
        refine lv_i2l (v := Int32.toInt64 x3) hx hb dX12_says_64 rfl ?_
        refine lv_iconst (v := 0) hx hb dX12_says_65 (by decide) ?_
        refine lv_iload hx hb dX12_says_66 (lv_at hl 4 rfl) ?_
        refine k_callSi (As := [.long (Int32.toInt64 x3), .int 0, .int x4]) (rest := []) ⟨hx, hb, hml, hown, hts⟩ (cM_cut l D h cy _ _ _ _ _ hw) (va_cwS 3 hts gX12_says_X12_cut rfl rfl rfl (by decide +kernel) ⟨Nat.le_of_ble_eq_true rfl, Nat.le_of_ble_eq_true rfl⟩) hK hP hD hS hA rfl hl.1 rfl (Nat.le_of_ble_eq_true rfl) dX12_says_68 ⟨Nat.zero_le _, Nat.zero_le _⟩ (fun r_2 S_3 H locs hw hP hD hS => ?_)
        exact W.iret (v := r_2) hx hb hr (fun t ht hW => ⟨⟨r_2, S_3, rfl, hw, by rw [ht]; exact hP, va_K.moved hW.alike hK, hD⟩, hS.F ht⟩) hS.2.2 dX12_says_71
      · have hw := hc_1f c_1
        clear hc_1t hc_1f
        refine lv_iload hx hb dX12_says_7 (lv_at hl 5 rfl) ?_
        refine lv_aload_n hx hb dX12_says_9 rfl (lv_at hl 0 rfl) ?_
        refine va_get (D := D) (ci := 11) (v := .ref (h 2)) (C := RX12) (T := TX12) (N := 31) hx hb hts hin hown hK hP 0 rfl rfl 2 (by decide) w16 (fun _ h9 => h9) rfl dX12_says_10 ?_
        refine lv_sipush (v := 705) hx hb dX12_says_13 (by decide) ?_
        refine lv_iload_n hx hb dX12_says_16 rfl (lv_at hl 1 rfl) ?_
        refine lv_imul hx hb dX12_says_17 ?_
        obtain ⟨hi_13, hw⟩ := hw
        refine va_iald (f := (ms_texts S)) hx hb hK hP 3 2 rfl rfl hi_13 dX12_says_18 ?_
        obtain ⟨hc_4t, hc_4f⟩ := hw
        refine lv_icmp_ge (tgt := 63) hx hb dX12_says_19 (by decide) (fun c_4 => ?_) (fun c_4 => ?_)
        · have hw := hc_4t c_4
          clear hc_4t hc_4f
          refine lv_iload_n hx hb dX12_says_63 rfl (lv_at hl 3 rfl) ?_
          refine lv_i2l (v := Int32.toInt64 x3) hx hb dX12_says_64 rfl ?_
          refine lv_iconst (v := 0) hx hb dX12_says_65 (by decide) ?_
          refine lv_iload hx hb dX12_says_66 (lv_at hl 4 rfl) ?_
          refine k_callSi (As := [.long (Int32.toInt64 x3), .int 0, .int x4]) (rest := []) ⟨hx, hb, hml, hown, hts⟩ (cM_cut l D h cy _ _ _ _ _ hw) (va_cwS 3 hts gX12_says_X12_cut rfl rfl rfl (by decide +kernel) ⟨Nat.le_of_ble_eq_true rfl, Nat.le_of_ble_eq_true rfl⟩) hK hP hD hS hA rfl hl.1 rfl (Nat.le_of_ble_eq_true rfl) dX12_says_68 ⟨Nat.zero_le _, Nat.zero_le _⟩ (fun r_5 S_6 H locs hw hP hD hS => ?_)
          exact W.iret (v := r_5) hx hb hr (fun t ht hW => ⟨⟨r_5, S_6, rfl, hw, by rw [ht]; exact hP, va_K.moved hW.alike hK, hD⟩, hS.F ht⟩) hS.2.2 dX12_says_71
        · have hw := hc_4f c_4
          clear hc_4t hc_4f
          refine lv_aload_n hx hb dX12_says_22 rfl (lv_at hl 0 rfl) ?_
          refine va_get (D := D) (ci := 11) (v := .ref (h 2)) (C := RX12) (T := TX12) (N := 31) hx hb hts hin hown hK hP 0 rfl rfl 2 (by decide) w16 (fun _ h9 => h9) rfl dX12_says_23 ?_
          refine lv_sipush (v := 705) hx hb dX12_says_26 (by decide) ?_
          refine lv_iload_n hx hb dX12_says_29 rfl (lv_at hl 1 rfl) ?_
          refine lv_imul hx hb dX12_says_30 ?_
          refine lv_iconst (v := 1) hx hb dX12_says_31 (by decide) ?_
          refine lv_iadd hx hb dX12_says_32 ?_
          refine lv_iconst (v := 4) hx hb dX12_says_33 (by decide) ?_
          refine lv_iload hx hb dX12_says_34 (lv_at hl 5 rfl) ?_
          refine lv_imul hx hb dX12_says_36 ?_
          refine lv_iadd hx hb dX12_says_37 ?_
          obtain ⟨hi_12, hw⟩ := hw
          refine va_iald (f := (ms_texts S)) hx hb hK hP 3 2 rfl rfl hi_12 dX12_says_38 ?_
          refine lv_iload_n hx hb dX12_says_39 rfl (lv_at hl 2 rfl) ?_
          obtain ⟨hc_7t, hc_7f⟩ := hw
          refine lv_icmp_ne (tgt := 57) hx hb dX12_says_40 (by decide) (fun c_7 => ?_) (fun c_7 => ?_)
          · have hw := hc_7f c_7
            clear hc_7t hc_7f
            refine lv_iinc (v := x5 + 1) (lv' := [(5, .int (x5 + 1)), (0, .ref (h 31)), (1, .int x1), (2, .int x2), (3, .int x3), (4, .int x4)]) hx hb dX12_says_57 hl (k := 5) rfl (k_inc (by decide)) (by decide) rfl (fun ls hl => ?_)
            refine lv_goto (tgt := 3) hx hb dX12_says_60 (by decide) ?_
            exact ih_3 x1 x2 x3 x4 (x5 + 1) S _ _ _ hw hP hD hS (lv_sub hl [1, 2, 3, 4, 5, 0] rfl)
          · have hw := hc_7t c_7
            clear hc_7t hc_7f
            refine lv_aload_n hx hb dX12_says_43 rfl (lv_at hl 0 rfl) ?_
            refine lv_iload_n hx hb dX12_says_44 rfl (lv_at hl 1 rfl) ?_
            refine lv_iload hx hb dX12_says_45 (lv_at hl 5 rfl) ?_
            refine k_callVl (As := [.int x1, .int x5]) (rest := []) ⟨hx, hb, hml, hown, hts⟩ (cM_summedUp l D h cy _ _ _ _ hw) (cwV 2 hts gX12_says_X12_summedUp rfl rfl rfl (by decide +kernel) ⟨Nat.le_of_ble_eq_true rfl, Nat.le_of_ble_eq_true rfl⟩) (va_recv hK hP (ci := 11) (q0 := 0) rfl rfl) hK hP hD hS hA rfl hl.1 rfl (Nat.le_of_ble_eq_true rfl) dX12_says_47 ⟨Nat.zero_le _, Nat.zero_le _⟩ (fun r_8 S_9 H locs hw hP hD hS => ?_)
            refine lv_iconst (v := 0) hx hb dX12_says_50 (by decide) ?_
            refine lv_iload hx hb dX12_says_51 (lv_at hl 4 rfl) ?_
            refine k_callSi (As := [.long r_8, .int 0, .int x4]) (rest := []) ⟨hx, hb, hml, hown, hts⟩ (cM_cut l D h cy _ _ _ _ _ hw) (va_cwS 3 hts gX12_says_X12_cut rfl rfl rfl (by decide +kernel) ⟨Nat.le_of_ble_eq_true rfl, Nat.le_of_ble_eq_true rfl⟩) hK hP hD hS hA rfl hl.1 rfl (Nat.le_of_ble_eq_true rfl) dX12_says_53 ⟨Nat.zero_le _, Nat.zero_le _⟩ (fun r_10 S_11 H locs hw hP hD hS => ?_)
            exact W.iret (v := r_10) hx hb hr (fun t ht hW => ⟨⟨r_10, S_11, rfl, hw, by rw [ht]; exact hP, va_K.moved hW.alike hK, hD⟩, hS.F ht⟩) hS.2.2 dX12_says_56
  refine lv_iconst (v := 0) hx hb dX12_says_0 (by decide) ?_
  refine lv_istore (lv' := [(5, .int 0), (0, .ref (h 31)), (1, .int p1), (2, .int p2), (3, .int p3), (4, .int p4)]) hx hb dX12_says_1 hl (by decide) rfl (fun ls hl => ?_)
  obtain ⟨n_3, hw⟩ := hw
  exact L_3 n_3 p1 p2 p3 p4 0 S _ _ _ hw hP hD hS (lv_sub hl [1, 2, 3, 4, 5, 0] rfl)
def wM_nameHouse (p1 : Int32) (S : MS) (post : MS → Prop) : Prop := (∀ S_1 : MS, S_1 = (ms_set_named S (upd (ms_named S) 0 ((ms_a S) 7))) → wM_get p1 4 S_1 (fun r_2 S_3 => (∀ S_4 : MS, S_4 = (ms_set_named S_3 (upd (ms_named S_3) 1 r_2)) → wM_get p1 0 S_4 (fun r_5 S_6 => (∀ S_7 : MS, S_7 = (ms_set_named S_6 (upd (ms_named S_6) 2 r_5)) → wM_get p1 1 S_7 (fun r_8 S_9 => (∀ S_10 : MS, S_10 = (ms_set_named S_9 (upd (ms_named S_9) 3 r_8)) → wM_get p1 3 S_10 (fun r_11 S_12 => (∀ S_13 : MS, S_13 = (ms_set_named S_12 (upd (ms_named S_12) 4 r_11)) → (∀ S_14 : MS, S_14 = (ms_set_named S_13 (upd (ms_named S_13) 5 p1)) → post S_14))))))))))
set_option maxHeartbeats 4000000 in
set_option maxRecDepth 100000 in
theorem cM_nameHouse (l : Launch) (D : va_G) (h : Nat → Nat) (cy : Nat → ClassId) (p1 : Int32) (S : MS) (post : MS → Prop) (hw : wM_nameHouse p1 S post) : k_Mv l yX12_nameHouse wsX12_nameHouse { frames := 1, cells := 0, slots := 0, locals := 22 } D (tyM cy) (wM h cy) [.ref (h 31), .int p1] S post := by
  intro sz
  refine Met.ofW (cc := cX12_nameHouse) (maxL := 2) (ret := none) (by decide) rfl ?_
  intro p e s m args below meth c s₁ B hml hv
  obtain ⟨rfl, hsz, hP, hK, hD0⟩ := hv
  have hx := B.exec
  have hb := B.bytes
  have hr := B.returns
  have hts := atoms_spec (ws := wsX12_nameHouse) B.pre
  have hown : s.vm.findClass RX12 = some m.cls := findClass_of_methodNamed B.named
  have hlocks := B.notSynchronized
  subst hsz
  have hD := hD0.self (sz := s.heap.size)
  generalize hAe : va_A (wM h cy S) s.heap.size = A at hD ⊢
  have hA : ∀ q : Nat, s.heap.size ≤ q → A q := fun q h => by rw [← hAe]; exact Or.inr h
  have hS : va_S A s.heap s.heap [] := va_S.rf
  have hin : ∀ w ∈ wsX120, w ∈ wsX12_nameHouse := fun _ h => List.mem_cons_of_mem _ (List.mem_append_right _ h)
  have w7 := hts (.fieldLink RX12 7 "ClownsMournModel" "a" "[I") (List.mem_of_getElem? (i := 2) rfl)
  have w32 := hts (.fieldLink RX12 32 "ClownsMournModel" "named" "[I") (List.mem_of_getElem? (i := 1) rfl)
  have hl := lv_entry ([.ref (h 31), .int p1]) (n := 2) (Nat.le_of_ble_eq_true rfl)
  rw [lg_entry_eq]
  generalize (lg_sl ([.ref (h 31), .int p1]) ++ List.replicate (2 - (lg_sl ([.ref (h 31), .int p1])).length) Slot.unset).toArray = ls at hl ⊢
  have hl : lv_has ls 2 [(0, .ref (h 31)), (1, .int p1)] := hl
  unfold wM_nameHouse at hw
  clear hD0
  refine lv_aload_n hx hb dX12_nameHouse_0 rfl (lv_at hl 0 rfl) ?_
  refine va_get (D := D) (ci := 11) (v := .ref (h 20)) (C := RX12) (T := TX12) (N := 31) hx hb hts hin hown hK hP 0 rfl rfl 20 (by decide) w32 (fun _ h9 => h9) rfl dX12_nameHouse_1 ?_
  refine lv_iconst (v := 0) hx hb dX12_nameHouse_4 (by decide) ?_
  refine lv_aload_n hx hb dX12_nameHouse_5 rfl (lv_at hl 0 rfl) ?_
  refine va_get (D := D) (ci := 11) (v := .ref (h 0)) (C := RX12) (T := TX12) (N := 31) hx hb hts hin hown hK hP 0 rfl rfl 0 (by decide) w7 (fun _ h9 => h9) rfl dX12_nameHouse_6 ?_
  refine lv_bipush (v := 7) hx hb dX12_nameHouse_9 (by decide) ?_
  refine k_iald (f := (ms_a S)) (j := 7) hx hb hK hP 1 0 rfl rfl (by decide +kernel) rfl dX12_nameHouse_11 ?_
  refine k_iast (f := (ms_named S)) (j := 0) hx hb hK hP hD hS 6 5 rfl rfl (by decide +kernel) rfl dX12_nameHouse_12 (fun H locs hP hD hS => ?_)
  obtain ⟨S_1, eS_1⟩ : ∃ z : MS, z = (ms_set_named S (upd (ms_named S) 0 ((ms_a S) 7))) := ⟨_, rfl⟩
  have hw := hw S_1 eS_1
  have hP : va_P D vwCl (wM h cy S_1) H := by rw [eS_1, ← wMs_named]; exact hP
  have hD : va_D A (wM h cy S_1) := by rw [eS_1, ← wMs_named]; exact hD
  refine lv_aload_n hx hb dX12_nameHouse_13 rfl (lv_at hl 0 rfl) ?_
  refine va_get (D := D) (ci := 11) (v := .ref (h 20)) (C := RX12) (T := TX12) (N := 31) hx hb hts hin hown hK hP 0 rfl rfl 20 (by decide) w32 (fun _ h9 => h9) rfl dX12_nameHouse_14 ?_
  refine lv_iconst (v := 1) hx hb dX12_nameHouse_17 (by decide) ?_
  refine lv_aload_n hx hb dX12_nameHouse_18 rfl (lv_at hl 0 rfl) ?_
  refine lv_iload_n hx hb dX12_nameHouse_19 rfl (lv_at hl 1 rfl) ?_
  refine lv_iconst (v := 4) hx hb dX12_nameHouse_20 (by decide) ?_
  refine k_callVi (As := [.int p1, .int 4]) (rest := [.int 1, .ref (h 20)]) ⟨hx, hb, hml, hown, hts⟩ (cM_get l D h cy _ _ _ _ hw) (cwV 2 hts gX12_nameHouse_X12_get rfl rfl rfl (by decide +kernel) ⟨Nat.le_of_ble_eq_true rfl, Nat.le_of_ble_eq_true rfl⟩) (va_recv hK hP (ci := 11) (q0 := 0) rfl rfl) hK hP hD hS hA rfl hl.1 rfl (Nat.le_of_ble_eq_true rfl) dX12_nameHouse_21 ⟨Nat.zero_le _, Nat.zero_le _⟩ (fun r_2 S_3 H locs hw hP hD hS => ?_)
  refine k_iast (f := (ms_named S_3)) (j := 1) hx hb hK hP hD hS 6 5 rfl rfl (by decide +kernel) rfl dX12_nameHouse_24 (fun H locs hP hD hS => ?_)
  obtain ⟨S_4, eS_4⟩ : ∃ z : MS, z = (ms_set_named S_3 (upd (ms_named S_3) 1 r_2)) := ⟨_, rfl⟩
  have hw := hw S_4 eS_4
  have hP : va_P D vwCl (wM h cy S_4) H := by rw [eS_4, ← wMs_named]; exact hP
  have hD : va_D A (wM h cy S_4) := by rw [eS_4, ← wMs_named]; exact hD
  refine lv_aload_n hx hb dX12_nameHouse_25 rfl (lv_at hl 0 rfl) ?_
  refine va_get (D := D) (ci := 11) (v := .ref (h 20)) (C := RX12) (T := TX12) (N := 31) hx hb hts hin hown hK hP 0 rfl rfl 20 (by decide) w32 (fun _ h9 => h9) rfl dX12_nameHouse_26 ?_
  refine lv_iconst (v := 2) hx hb dX12_nameHouse_29 (by decide) ?_
  refine lv_aload_n hx hb dX12_nameHouse_30 rfl (lv_at hl 0 rfl) ?_
  refine lv_iload_n hx hb dX12_nameHouse_31 rfl (lv_at hl 1 rfl) ?_
  refine lv_iconst (v := 0) hx hb dX12_nameHouse_32 (by decide) ?_
  refine k_callVi (As := [.int p1, .int 0]) (rest := [.int 2, .ref (h 20)]) ⟨hx, hb, hml, hown, hts⟩ (cM_get l D h cy _ _ _ _ hw) (cwV 2 hts gX12_nameHouse_X12_get rfl rfl rfl (by decide +kernel) ⟨Nat.le_of_ble_eq_true rfl, Nat.le_of_ble_eq_true rfl⟩) (va_recv hK hP (ci := 11) (q0 := 0) rfl rfl) hK hP hD hS hA rfl hl.1 rfl (Nat.le_of_ble_eq_true rfl) dX12_nameHouse_33 ⟨Nat.zero_le _, Nat.zero_le _⟩ (fun r_5 S_6 H locs hw hP hD hS => ?_)
  refine k_iast (f := (ms_named S_6)) (j := 2) hx hb hK hP hD hS 6 5 rfl rfl (by decide +kernel) rfl dX12_nameHouse_36 (fun H locs hP hD hS => ?_)
  obtain ⟨S_7, eS_7⟩ : ∃ z : MS, z = (ms_set_named S_6 (upd (ms_named S_6) 2 r_5)) := ⟨_, rfl⟩
  have hw := hw S_7 eS_7
  have hP : va_P D vwCl (wM h cy S_7) H := by rw [eS_7, ← wMs_named]; exact hP
  have hD : va_D A (wM h cy S_7) := by rw [eS_7, ← wMs_named]; exact hD
  refine lv_aload_n hx hb dX12_nameHouse_37 rfl (lv_at hl 0 rfl) ?_
  refine va_get (D := D) (ci := 11) (v := .ref (h 20)) (C := RX12) (T := TX12) (N := 31) hx hb hts hin hown hK hP 0 rfl rfl 20 (by decide) w32 (fun _ h9 => h9) rfl dX12_nameHouse_38 ?_
  refine lv_iconst (v := 3) hx hb dX12_nameHouse_41 (by decide) ?_
  refine lv_aload_n hx hb dX12_nameHouse_42 rfl (lv_at hl 0 rfl) ?_
  refine lv_iload_n hx hb dX12_nameHouse_43 rfl (lv_at hl 1 rfl) ?_
  refine lv_iconst (v := 1) hx hb dX12_nameHouse_44 (by decide) ?_
  refine k_callVi (As := [.int p1, .int 1]) (rest := [.int 3, .ref (h 20)]) ⟨hx, hb, hml, hown, hts⟩ (cM_get l D h cy _ _ _ _ hw) (cwV 2 hts gX12_nameHouse_X12_get rfl rfl rfl (by decide +kernel) ⟨Nat.le_of_ble_eq_true rfl, Nat.le_of_ble_eq_true rfl⟩) (va_recv hK hP (ci := 11) (q0 := 0) rfl rfl) hK hP hD hS hA rfl hl.1 rfl (Nat.le_of_ble_eq_true rfl) dX12_nameHouse_45 ⟨Nat.zero_le _, Nat.zero_le _⟩ (fun r_8 S_9 H locs hw hP hD hS => ?_)
  refine k_iast (f := (ms_named S_9)) (j := 3) hx hb hK hP hD hS 6 5 rfl rfl (by decide +kernel) rfl dX12_nameHouse_48 (fun H locs hP hD hS => ?_)
  obtain ⟨S_10, eS_10⟩ : ∃ z : MS, z = (ms_set_named S_9 (upd (ms_named S_9) 3 r_8)) := ⟨_, rfl⟩
  have hw := hw S_10 eS_10
  have hP : va_P D vwCl (wM h cy S_10) H := by rw [eS_10, ← wMs_named]; exact hP
  have hD : va_D A (wM h cy S_10) := by rw [eS_10, ← wMs_named]; exact hD
  refine lv_aload_n hx hb dX12_nameHouse_49 rfl (lv_at hl 0 rfl) ?_
  refine va_get (D := D) (ci := 11) (v := .ref (h 20)) (C := RX12) (T := TX12) (N := 31) hx hb hts hin hown hK hP 0 rfl rfl 20 (by decide) w32 (fun _ h9 => h9) rfl dX12_nameHouse_50 ?_
  refine lv_iconst (v := 4) hx hb dX12_nameHouse_53 (by decide) ?_
  refine lv_aload_n hx hb dX12_nameHouse_54 rfl (lv_at hl 0 rfl) ?_
  refine lv_iload_n hx hb dX12_nameHouse_55 rfl (lv_at hl 1 rfl) ?_
  refine lv_iconst (v := 3) hx hb dX12_nameHouse_56 (by decide) ?_
  refine k_callVi (As := [.int p1, .int 3]) (rest := [.int 4, .ref (h 20)]) ⟨hx, hb, hml, hown, hts⟩ (cM_get l D h cy _ _ _ _ hw) (cwV 2 hts gX12_nameHouse_X12_get rfl rfl rfl (by decide +kernel) ⟨Nat.le_of_ble_eq_true rfl, Nat.le_of_ble_eq_true rfl⟩) (va_recv hK hP (ci := 11) (q0 := 0) rfl rfl) hK hP hD hS hA rfl hl.1 rfl (Nat.le_of_ble_eq_true rfl) dX12_nameHouse_57 ⟨Nat.zero_le _, Nat.zero_le _⟩ (fun r_11 S_12 H locs hw hP hD hS => ?_)
  refine k_iast (f := (ms_named S_12)) (j := 4) hx hb hK hP hD hS 6 5 rfl rfl (by decide +kernel) rfl dX12_nameHouse_60 (fun H locs hP hD hS => ?_)
  obtain ⟨S_13, eS_13⟩ : ∃ z : MS, z = (ms_set_named S_12 (upd (ms_named S_12) 4 r_11)) := ⟨_, rfl⟩
  have hw := hw S_13 eS_13
  have hP : va_P D vwCl (wM h cy S_13) H := by rw [eS_13, ← wMs_named]; exact hP
  have hD : va_D A (wM h cy S_13) := by rw [eS_13, ← wMs_named]; exact hD
  refine lv_aload_n hx hb dX12_nameHouse_61 rfl (lv_at hl 0 rfl) ?_
  refine va_get (D := D) (ci := 11) (v := .ref (h 20)) (C := RX12) (T := TX12) (N := 31) hx hb hts hin hown hK hP 0 rfl rfl 20 (by decide) w32 (fun _ h9 => h9) rfl dX12_nameHouse_62 ?_
  refine lv_iconst (v := 5) hx hb dX12_nameHouse_65 (by decide) ?_
  refine lv_iload_n hx hb dX12_nameHouse_66 rfl (lv_at hl 1 rfl) ?_
  refine k_iast (f := (ms_named S_13)) (j := 5) hx hb hK hP hD hS 6 5 rfl rfl (by decide +kernel) rfl dX12_nameHouse_67 (fun H locs hP hD hS => ?_)
  obtain ⟨S_14, eS_14⟩ : ∃ z : MS, z = (ms_set_named S_13 (upd (ms_named S_13) 5 p1)) := ⟨_, rfl⟩
  have hw := hw S_14 eS_14
  have hP : va_P D vwCl (wM h cy S_14) H := by rw [eS_14, ← wMs_named]; exact hP
  have hD : va_D A (wM h cy S_14) := by rw [eS_14, ← wMs_named]; exact hD
  exact W.vret hx hb hr (fun t ht hW => ⟨⟨S_14, rfl, hw, by rw [ht]; exact hP, va_K.moved hW.alike hK, hD⟩, hS.F ht⟩) hS.2.2 dX12_nameHouse_68
def wM_nameFall (p1 : Int32) (p2 : Int32) (S : MS) (post : MS → Prop) : Prop := wM_own p1 1 S (fun r_1 S_2 => wM_nameHouse r_1 S_2 (fun S_4 => wM_own p1 3 S_4 (fun r_5 S_6 => (∀ S_7 : MS, S_7 = (ms_set_named S_6 (upd (ms_named S_6) 6 r_5)) → wM_own p1 4 S_7 (fun r_8 S_9 => (∀ S_10 : MS, S_10 = (ms_set_named S_9 (upd (ms_named S_9) 7 r_8)) → wM_own p1 0 S_10 (fun r_11 S_12 => (∀ S_13 : MS, S_13 = (ms_set_named S_12 (upd (ms_named S_12) 8 r_11)) → (∀ S_14 : MS, S_14 = (ms_set_named S_13 (upd (ms_named S_13) 9 p2)) → (∀ S_15 : MS, S_15 = (ms_set_named S_14 (upd (ms_named S_14) 10 p1)) → post S_15))))))))))
set_option maxHeartbeats 4000000 in
set_option maxRecDepth 100000 in
theorem cM_nameFall (l : Launch) (D : va_G) (h : Nat → Nat) (cy : Nat → ClassId) (p1 : Int32) (p2 : Int32) (S : MS) (post : MS → Prop) (hw : wM_nameFall p1 p2 S post) : k_Mv l yX12_nameFall wsX12_nameFall { frames := 2, cells := 0, slots := 0, locals := 43 } D (tyM cy) (wM h cy) [.ref (h 31), .int p1, .int p2] S post := by
  intro sz
  refine Met.ofW (cc := cX12_nameFall) (maxL := 3) (ret := none) (by decide) rfl ?_
  intro p e s m args below meth c s₁ B hml hv
  obtain ⟨rfl, hsz, hP, hK, hD0⟩ := hv
  have hx := B.exec
  have hb := B.bytes
  have hr := B.returns
  have hts := atoms_spec (ws := wsX12_nameFall) B.pre
  have hown : s.vm.findClass RX12 = some m.cls := findClass_of_methodNamed B.named
  have hlocks := B.notSynchronized
  subst hsz
  have hD := hD0.self (sz := s.heap.size)
  generalize hAe : va_A (wM h cy S) s.heap.size = A at hD ⊢
  have hA : ∀ q : Nat, s.heap.size ≤ q → A q := fun q h => by rw [← hAe]; exact Or.inr h
  have hS : va_S A s.heap s.heap [] := va_S.rf
  have hin : ∀ w ∈ wsX120, w ∈ wsX12_nameFall := fun _ h => List.mem_cons_of_mem _ (List.mem_append_right _ h)
  have w32 := hts (.fieldLink RX12 32 "ClownsMournModel" "named" "[I") (List.mem_of_getElem? (i := 1) rfl)
  have hl := lv_entry ([.ref (h 31), .int p1, .int p2]) (n := 3) (Nat.le_of_ble_eq_true rfl)
  rw [lg_entry_eq]
  generalize (lg_sl ([.ref (h 31), .int p1, .int p2]) ++ List.replicate (3 - (lg_sl ([.ref (h 31), .int p1, .int p2])).length) Slot.unset).toArray = ls at hl ⊢
  have hl : lv_has ls 3 [(0, .ref (h 31)), (1, .int p1), (2, .int p2)] := hl
  unfold wM_nameFall at hw
  clear hD0
  refine lv_aload_n hx hb dX12_nameFall_0 rfl (lv_at hl 0 rfl) ?_
  refine lv_aload_n hx hb dX12_nameFall_1 rfl (lv_at hl 0 rfl) ?_
  refine lv_iload_n hx hb dX12_nameFall_2 rfl (lv_at hl 1 rfl) ?_
  refine lv_iconst (v := 1) hx hb dX12_nameFall_3 (by decide) ?_
  refine k_callVi (As := [.int p1, .int 1]) (rest := [.ref (h 31)]) ⟨hx, hb, hml, hown, hts⟩ (cM_own l D h cy _ _ _ _ hw) (cwV 2 hts gX12_nameFall_X12_own rfl rfl rfl (by decide +kernel) ⟨Nat.le_of_ble_eq_true rfl, Nat.le_of_ble_eq_true rfl⟩) (va_recv hK hP (ci := 11) (q0 := 0) rfl rfl) hK hP hD hS hA rfl hl.1 rfl (Nat.le_of_ble_eq_true rfl) dX12_nameFall_4 ⟨Nat.zero_le _, Nat.zero_le _⟩ (fun r_1 S_2 H locs hw hP hD hS => ?_)
  refine k_callVv (As := [.int r_1]) (rest := []) ⟨hx, hb, hml, hown, hts⟩ (cM_nameHouse l D h cy _ _ _ hw) (cwV 1 hts gX12_nameFall_X12_nameHouse rfl rfl rfl (by decide +kernel) ⟨Nat.le_of_ble_eq_true rfl, Nat.le_of_ble_eq_true rfl⟩) (va_recv hK hP (ci := 11) (q0 := 0) rfl rfl) hK hP hD hS hA rfl hl.1 rfl (Nat.le_of_ble_eq_true rfl) dX12_nameFall_7 ⟨Nat.zero_le _, Nat.zero_le _⟩ (fun S_4 H locs hw hP hD hS => ?_)
  refine lv_aload_n hx hb dX12_nameFall_10 rfl (lv_at hl 0 rfl) ?_
  refine va_get (D := D) (ci := 11) (v := .ref (h 20)) (C := RX12) (T := TX12) (N := 31) hx hb hts hin hown hK hP 0 rfl rfl 20 (by decide) w32 (fun _ h9 => h9) rfl dX12_nameFall_11 ?_
  refine lv_bipush (v := 6) hx hb dX12_nameFall_14 (by decide) ?_
  refine lv_aload_n hx hb dX12_nameFall_16 rfl (lv_at hl 0 rfl) ?_
  refine lv_iload_n hx hb dX12_nameFall_17 rfl (lv_at hl 1 rfl) ?_
  refine lv_iconst (v := 3) hx hb dX12_nameFall_18 (by decide) ?_
  refine k_callVi (As := [.int p1, .int 3]) (rest := [.int 6, .ref (h 20)]) ⟨hx, hb, hml, hown, hts⟩ (cM_own l D h cy _ _ _ _ hw) (cwV 2 hts gX12_nameFall_X12_own rfl rfl rfl (by decide +kernel) ⟨Nat.le_of_ble_eq_true rfl, Nat.le_of_ble_eq_true rfl⟩) (va_recv hK hP (ci := 11) (q0 := 0) rfl rfl) hK hP hD hS hA rfl hl.1 rfl (Nat.le_of_ble_eq_true rfl) dX12_nameFall_19 ⟨Nat.zero_le _, Nat.zero_le _⟩ (fun r_5 S_6 H locs hw hP hD hS => ?_)
  refine k_iast (f := (ms_named S_6)) (j := 6) hx hb hK hP hD hS 6 5 rfl rfl (by decide +kernel) rfl dX12_nameFall_22 (fun H locs hP hD hS => ?_)
  obtain ⟨S_7, eS_7⟩ : ∃ z : MS, z = (ms_set_named S_6 (upd (ms_named S_6) 6 r_5)) := ⟨_, rfl⟩
  have hw := hw S_7 eS_7
  have hP : va_P D vwCl (wM h cy S_7) H := by rw [eS_7, ← wMs_named]; exact hP
  have hD : va_D A (wM h cy S_7) := by rw [eS_7, ← wMs_named]; exact hD
  refine lv_aload_n hx hb dX12_nameFall_23 rfl (lv_at hl 0 rfl) ?_
  refine va_get (D := D) (ci := 11) (v := .ref (h 20)) (C := RX12) (T := TX12) (N := 31) hx hb hts hin hown hK hP 0 rfl rfl 20 (by decide) w32 (fun _ h9 => h9) rfl dX12_nameFall_24 ?_
  refine lv_bipush (v := 7) hx hb dX12_nameFall_27 (by decide) ?_
  refine lv_aload_n hx hb dX12_nameFall_29 rfl (lv_at hl 0 rfl) ?_
  refine lv_iload_n hx hb dX12_nameFall_30 rfl (lv_at hl 1 rfl) ?_
  refine lv_iconst (v := 4) hx hb dX12_nameFall_31 (by decide) ?_
  refine k_callVi (As := [.int p1, .int 4]) (rest := [.int 7, .ref (h 20)]) ⟨hx, hb, hml, hown, hts⟩ (cM_own l D h cy _ _ _ _ hw) (cwV 2 hts gX12_nameFall_X12_own rfl rfl rfl (by decide +kernel) ⟨Nat.le_of_ble_eq_true rfl, Nat.le_of_ble_eq_true rfl⟩) (va_recv hK hP (ci := 11) (q0 := 0) rfl rfl) hK hP hD hS hA rfl hl.1 rfl (Nat.le_of_ble_eq_true rfl) dX12_nameFall_32 ⟨Nat.zero_le _, Nat.zero_le _⟩ (fun r_8 S_9 H locs hw hP hD hS => ?_)
  refine k_iast (f := (ms_named S_9)) (j := 7) hx hb hK hP hD hS 6 5 rfl rfl (by decide +kernel) rfl dX12_nameFall_35 (fun H locs hP hD hS => ?_)
  obtain ⟨S_10, eS_10⟩ : ∃ z : MS, z = (ms_set_named S_9 (upd (ms_named S_9) 7 r_8)) := ⟨_, rfl⟩
  have hw := hw S_10 eS_10
  have hP : va_P D vwCl (wM h cy S_10) H := by rw [eS_10, ← wMs_named]; exact hP
  have hD : va_D A (wM h cy S_10) := by rw [eS_10, ← wMs_named]; exact hD
  refine lv_aload_n hx hb dX12_nameFall_36 rfl (lv_at hl 0 rfl) ?_
  refine va_get (D := D) (ci := 11) (v := .ref (h 20)) (C := RX12) (T := TX12) (N := 31) hx hb hts hin hown hK hP 0 rfl rfl 20 (by decide) w32 (fun _ h9 => h9) rfl dX12_nameFall_37 ?_
  refine lv_bipush (v := 8) hx hb dX12_nameFall_40 (by decide) ?_
  refine lv_aload_n hx hb dX12_nameFall_42 rfl (lv_at hl 0 rfl) ?_
  refine lv_iload_n hx hb dX12_nameFall_43 rfl (lv_at hl 1 rfl) ?_
  refine lv_iconst (v := 0) hx hb dX12_nameFall_44 (by decide) ?_
  refine k_callVi (As := [.int p1, .int 0]) (rest := [.int 8, .ref (h 20)]) ⟨hx, hb, hml, hown, hts⟩ (cM_own l D h cy _ _ _ _ hw) (cwV 2 hts gX12_nameFall_X12_own rfl rfl rfl (by decide +kernel) ⟨Nat.le_of_ble_eq_true rfl, Nat.le_of_ble_eq_true rfl⟩) (va_recv hK hP (ci := 11) (q0 := 0) rfl rfl) hK hP hD hS hA rfl hl.1 rfl (Nat.le_of_ble_eq_true rfl) dX12_nameFall_45 ⟨Nat.zero_le _, Nat.zero_le _⟩ (fun r_11 S_12 H locs hw hP hD hS => ?_)
  refine k_iast (f := (ms_named S_12)) (j := 8) hx hb hK hP hD hS 6 5 rfl rfl (by decide +kernel) rfl dX12_nameFall_48 (fun H locs hP hD hS => ?_)
  obtain ⟨S_13, eS_13⟩ : ∃ z : MS, z = (ms_set_named S_12 (upd (ms_named S_12) 8 r_11)) := ⟨_, rfl⟩
  have hw := hw S_13 eS_13
  have hP : va_P D vwCl (wM h cy S_13) H := by rw [eS_13, ← wMs_named]; exact hP
  have hD : va_D A (wM h cy S_13) := by rw [eS_13, ← wMs_named]; exact hD
  refine lv_aload_n hx hb dX12_nameFall_49 rfl (lv_at hl 0 rfl) ?_
  refine va_get (D := D) (ci := 11) (v := .ref (h 20)) (C := RX12) (T := TX12) (N := 31) hx hb hts hin hown hK hP 0 rfl rfl 20 (by decide) w32 (fun _ h9 => h9) rfl dX12_nameFall_50 ?_
  refine lv_bipush (v := 9) hx hb dX12_nameFall_53 (by decide) ?_
  refine lv_iload_n hx hb dX12_nameFall_55 rfl (lv_at hl 2 rfl) ?_
  refine k_iast (f := (ms_named S_13)) (j := 9) hx hb hK hP hD hS 6 5 rfl rfl (by decide +kernel) rfl dX12_nameFall_56 (fun H locs hP hD hS => ?_)
  obtain ⟨S_14, eS_14⟩ : ∃ z : MS, z = (ms_set_named S_13 (upd (ms_named S_13) 9 p2)) := ⟨_, rfl⟩
  have hw := hw S_14 eS_14
  have hP : va_P D vwCl (wM h cy S_14) H := by rw [eS_14, ← wMs_named]; exact hP
  have hD : va_D A (wM h cy S_14) := by rw [eS_14, ← wMs_named]; exact hD
  refine lv_aload_n hx hb dX12_nameFall_57 rfl (lv_at hl 0 rfl) ?_
  refine va_get (D := D) (ci := 11) (v := .ref (h 20)) (C := RX12) (T := TX12) (N := 31) hx hb hts hin hown hK hP 0 rfl rfl 20 (by decide) w32 (fun _ h9 => h9) rfl dX12_nameFall_58 ?_
  refine lv_bipush (v := 10) hx hb dX12_nameFall_61 (by decide) ?_
  refine lv_iload_n hx hb dX12_nameFall_63 rfl (lv_at hl 1 rfl) ?_
  refine k_iast (f := (ms_named S_14)) (j := 10) hx hb hK hP hD hS 6 5 rfl rfl (by decide +kernel) rfl dX12_nameFall_64 (fun H locs hP hD hS => ?_)
  obtain ⟨S_15, eS_15⟩ : ∃ z : MS, z = (ms_set_named S_14 (upd (ms_named S_14) 10 p1)) := ⟨_, rfl⟩
  have hw := hw S_15 eS_15
  have hP : va_P D vwCl (wM h cy S_15) H := by rw [eS_15, ← wMs_named]; exact hP
  have hD : va_D A (wM h cy S_15) := by rw [eS_15, ← wMs_named]; exact hD
  exact W.vret hx hb hr (fun t ht hW => ⟨⟨S_15, rfl, hw, by rw [ht]; exact hP, va_K.moved hW.alike hK, hD⟩, hS.F ht⟩) hS.2.2 dX12_nameFall_65
def wM_easesOf (p1 : Int32) (p2 : Int32) (S : MS) (post : Int32 → MS → Prop) : Prop := wM_nameFall p1 p2 S (fun S_2 => wM_says ((ms_a S_2) 3) 0 (((ms_named S_2) 6) + p2) 99 S_2 (fun r_3 S_4 => post r_3 S_4))
set_option maxHeartbeats 4000000 in
set_option maxRecDepth 100000 in
theorem cM_easesOf (l : Launch) (D : va_G) (h : Nat → Nat) (cy : Nat → ClassId) (p1 : Int32) (p2 : Int32) (S : MS) (post : Int32 → MS → Prop) (hw : wM_easesOf p1 p2 S post) : k_Mi l yX12_easesOf wsX12_easesOf { frames := 4, cells := 0, slots := 0, locals := 99 } D (tyM cy) (wM h cy) [.ref (h 31), .int p1, .int p2] S post := by
  intro sz
  refine Met.ofW (cc := cX12_easesOf) (maxL := 3) (ret := (some .int)) (by decide) rfl ?_
  intro p e s m args below meth c s₁ B hml hv
  obtain ⟨rfl, hsz, hP, hK, hD0⟩ := hv
  have hx := B.exec
  have hb := B.bytes
  have hr := B.returns
  have hts := atoms_spec (ws := wsX12_easesOf) B.pre
  have hown : s.vm.findClass RX12 = some m.cls := findClass_of_methodNamed B.named
  have hlocks := B.notSynchronized
  subst hsz
  have hD := hD0.self (sz := s.heap.size)
  generalize hAe : va_A (wM h cy S) s.heap.size = A at hD ⊢
  have hA : ∀ q : Nat, s.heap.size ≤ q → A q := fun q h => by rw [← hAe]; exact Or.inr h
  have hS : va_S A s.heap s.heap [] := va_S.rf
  have hin : ∀ w ∈ wsX120, w ∈ wsX12_easesOf := fun _ h => List.mem_cons_of_mem _ (List.mem_append_right _ h)
  have w7 := hts (.fieldLink RX12 7 "ClownsMournModel" "a" "[I") (List.mem_of_getElem? (i := 1) rfl)
  have w32 := hts (.fieldLink RX12 32 "ClownsMournModel" "named" "[I") (List.mem_of_getElem? (i := 2) rfl)
  have hl := lv_entry ([.ref (h 31), .int p1, .int p2]) (n := 3) (Nat.le_of_ble_eq_true rfl)
  rw [lg_entry_eq]
  generalize (lg_sl ([.ref (h 31), .int p1, .int p2]) ++ List.replicate (3 - (lg_sl ([.ref (h 31), .int p1, .int p2])).length) Slot.unset).toArray = ls at hl ⊢
  have hl : lv_has ls 3 [(0, .ref (h 31)), (1, .int p1), (2, .int p2)] := hl
  unfold wM_easesOf at hw
  clear hD0
  refine lv_aload_n hx hb dX12_easesOf_0 rfl (lv_at hl 0 rfl) ?_
  refine lv_iload_n hx hb dX12_easesOf_1 rfl (lv_at hl 1 rfl) ?_
  refine lv_iload_n hx hb dX12_easesOf_2 rfl (lv_at hl 2 rfl) ?_
  refine k_callVv (As := [.int p1, .int p2]) (rest := []) ⟨hx, hb, hml, hown, hts⟩ (cM_nameFall l D h cy _ _ _ _ hw) (cwV 2 hts gX12_easesOf_X12_nameFall rfl rfl rfl (by decide +kernel) ⟨Nat.le_of_ble_eq_true rfl, Nat.le_of_ble_eq_true rfl⟩) (va_recv hK hP (ci := 11) (q0 := 0) rfl rfl) hK hP hD hS hA rfl hl.1 rfl (Nat.le_of_ble_eq_true rfl) dX12_easesOf_3 ⟨Nat.zero_le _, Nat.zero_le _⟩ (fun S_2 H locs hw hP hD hS => ?_)
  refine lv_aload_n hx hb dX12_easesOf_6 rfl (lv_at hl 0 rfl) ?_
  refine lv_aload_n hx hb dX12_easesOf_7 rfl (lv_at hl 0 rfl) ?_
  refine va_get (D := D) (ci := 11) (v := .ref (h 0)) (C := RX12) (T := TX12) (N := 31) hx hb hts hin hown hK hP 0 rfl rfl 0 (by decide) w7 (fun _ h9 => h9) rfl dX12_easesOf_8 ?_
  refine lv_iconst (v := 3) hx hb dX12_easesOf_11 (by decide) ?_
  refine k_iald (f := (ms_a S_2)) (j := 3) hx hb hK hP 1 0 rfl rfl (by decide +kernel) rfl dX12_easesOf_12 ?_
  refine lv_iconst (v := 0) hx hb dX12_easesOf_13 (by decide) ?_
  refine lv_aload_n hx hb dX12_easesOf_14 rfl (lv_at hl 0 rfl) ?_
  refine va_get (D := D) (ci := 11) (v := .ref (h 20)) (C := RX12) (T := TX12) (N := 31) hx hb hts hin hown hK hP 0 rfl rfl 20 (by decide) w32 (fun _ h9 => h9) rfl dX12_easesOf_15 ?_
  refine lv_bipush (v := 6) hx hb dX12_easesOf_18 (by decide) ?_
  refine k_iald (f := (ms_named S_2)) (j := 6) hx hb hK hP 6 5 rfl rfl (by decide +kernel) rfl dX12_easesOf_20 ?_
  refine lv_iload_n hx hb dX12_easesOf_21 rfl (lv_at hl 2 rfl) ?_
  refine lv_iadd hx hb dX12_easesOf_22 ?_
  refine lv_bipush (v := 99) hx hb dX12_easesOf_23 (by decide) ?_
  refine k_callVi (As := [.int ((ms_a S_2) 3), .int 0, .int (((ms_named S_2) 6) + p2), .int 99]) (rest := []) ⟨hx, hb, hml, hown, hts⟩ (cM_says l D h cy _ _ _ _ _ _ hw) (cwV 4 hts gX12_easesOf_X12_says rfl rfl rfl (by decide +kernel) ⟨Nat.le_of_ble_eq_true rfl, Nat.le_of_ble_eq_true rfl⟩) (va_recv hK hP (ci := 11) (q0 := 0) rfl rfl) hK hP hD hS hA rfl hl.1 rfl (Nat.le_of_ble_eq_true rfl) dX12_easesOf_25 ⟨Nat.zero_le _, Nat.zero_le _⟩ (fun r_3 S_4 H locs hw hP hD hS => ?_)
  exact W.iret (v := r_3) hx hb hr (fun t ht hW => ⟨⟨r_3, S_4, rfl, hw, by rw [ht]; exact hP, va_K.moved hW.alike hK, hD⟩, hS.F ht⟩) hS.2.2 dX12_easesOf_28
def wM_laughsOf (p1 : Int32) (p2 : Int32) (S : MS) (post : Int32 → MS → Prop) : Prop := wM_nameFall p1 p2 S (fun S_2 => wM_says ((ms_a S_2) 3) 1 ((ms_named S_2) 3) 10 S_2 (fun r_3 S_4 => post r_3 S_4))
set_option maxHeartbeats 4000000 in
set_option maxRecDepth 100000 in
theorem cM_laughsOf (l : Launch) (D : va_G) (h : Nat → Nat) (cy : Nat → ClassId) (p1 : Int32) (p2 : Int32) (S : MS) (post : Int32 → MS → Prop) (hw : wM_laughsOf p1 p2 S post) : k_Mi l yX12_laughsOf wsX12_laughsOf { frames := 4, cells := 0, slots := 0, locals := 99 } D (tyM cy) (wM h cy) [.ref (h 31), .int p1, .int p2] S post := by
  intro sz
  refine Met.ofW (cc := cX12_laughsOf) (maxL := 3) (ret := (some .int)) (by decide) rfl ?_
  intro p e s m args below meth c s₁ B hml hv
  obtain ⟨rfl, hsz, hP, hK, hD0⟩ := hv
  have hx := B.exec
  have hb := B.bytes
  have hr := B.returns
  have hts := atoms_spec (ws := wsX12_laughsOf) B.pre
  have hown : s.vm.findClass RX12 = some m.cls := findClass_of_methodNamed B.named
  have hlocks := B.notSynchronized
  subst hsz
  have hD := hD0.self (sz := s.heap.size)
  generalize hAe : va_A (wM h cy S) s.heap.size = A at hD ⊢
  have hA : ∀ q : Nat, s.heap.size ≤ q → A q := fun q h => by rw [← hAe]; exact Or.inr h
  have hS : va_S A s.heap s.heap [] := va_S.rf
  have hin : ∀ w ∈ wsX120, w ∈ wsX12_laughsOf := fun _ h => List.mem_cons_of_mem _ (List.mem_append_right _ h)
  have w7 := hts (.fieldLink RX12 7 "ClownsMournModel" "a" "[I") (List.mem_of_getElem? (i := 1) rfl)
  have w32 := hts (.fieldLink RX12 32 "ClownsMournModel" "named" "[I") (List.mem_of_getElem? (i := 2) rfl)
  have hl := lv_entry ([.ref (h 31), .int p1, .int p2]) (n := 3) (Nat.le_of_ble_eq_true rfl)
  rw [lg_entry_eq]
  generalize (lg_sl ([.ref (h 31), .int p1, .int p2]) ++ List.replicate (3 - (lg_sl ([.ref (h 31), .int p1, .int p2])).length) Slot.unset).toArray = ls at hl ⊢
  have hl : lv_has ls 3 [(0, .ref (h 31)), (1, .int p1), (2, .int p2)] := hl
  unfold wM_laughsOf at hw
  clear hD0
  refine lv_aload_n hx hb dX12_laughsOf_0 rfl (lv_at hl 0 rfl) ?_
  refine lv_iload_n hx hb dX12_laughsOf_1 rfl (lv_at hl 1 rfl) ?_
  refine lv_iload_n hx hb dX12_laughsOf_2 rfl (lv_at hl 2 rfl) ?_
  refine k_callVv (As := [.int p1, .int p2]) (rest := []) ⟨hx, hb, hml, hown, hts⟩ (cM_nameFall l D h cy _ _ _ _ hw) (cwV 2 hts gX12_laughsOf_X12_nameFall rfl rfl rfl (by decide +kernel) ⟨Nat.le_of_ble_eq_true rfl, Nat.le_of_ble_eq_true rfl⟩) (va_recv hK hP (ci := 11) (q0 := 0) rfl rfl) hK hP hD hS hA rfl hl.1 rfl (Nat.le_of_ble_eq_true rfl) dX12_laughsOf_3 ⟨Nat.zero_le _, Nat.zero_le _⟩ (fun S_2 H locs hw hP hD hS => ?_)
  refine lv_aload_n hx hb dX12_laughsOf_6 rfl (lv_at hl 0 rfl) ?_
  refine lv_aload_n hx hb dX12_laughsOf_7 rfl (lv_at hl 0 rfl) ?_
  refine va_get (D := D) (ci := 11) (v := .ref (h 0)) (C := RX12) (T := TX12) (N := 31) hx hb hts hin hown hK hP 0 rfl rfl 0 (by decide) w7 (fun _ h9 => h9) rfl dX12_laughsOf_8 ?_
  refine lv_iconst (v := 3) hx hb dX12_laughsOf_11 (by decide) ?_
  refine k_iald (f := (ms_a S_2)) (j := 3) hx hb hK hP 1 0 rfl rfl (by decide +kernel) rfl dX12_laughsOf_12 ?_
  refine lv_iconst (v := 1) hx hb dX12_laughsOf_13 (by decide) ?_
  refine lv_aload_n hx hb dX12_laughsOf_14 rfl (lv_at hl 0 rfl) ?_
  refine va_get (D := D) (ci := 11) (v := .ref (h 20)) (C := RX12) (T := TX12) (N := 31) hx hb hts hin hown hK hP 0 rfl rfl 20 (by decide) w32 (fun _ h9 => h9) rfl dX12_laughsOf_15 ?_
  refine lv_iconst (v := 3) hx hb dX12_laughsOf_18 (by decide) ?_
  refine k_iald (f := (ms_named S_2)) (j := 3) hx hb hK hP 6 5 rfl rfl (by decide +kernel) rfl dX12_laughsOf_19 ?_
  refine lv_bipush (v := 10) hx hb dX12_laughsOf_20 (by decide) ?_
  refine k_callVi (As := [.int ((ms_a S_2) 3), .int 1, .int ((ms_named S_2) 3), .int 10]) (rest := []) ⟨hx, hb, hml, hown, hts⟩ (cM_says l D h cy _ _ _ _ _ _ hw) (cwV 4 hts gX12_laughsOf_X12_says rfl rfl rfl (by decide +kernel) ⟨Nat.le_of_ble_eq_true rfl, Nat.le_of_ble_eq_true rfl⟩) (va_recv hK hP (ci := 11) (q0 := 0) rfl rfl) hK hP hD hS hA rfl hl.1 rfl (Nat.le_of_ble_eq_true rfl) dX12_laughsOf_22 ⟨Nat.zero_le _, Nat.zero_le _⟩ (fun r_3 S_4 H locs hw hP hD hS => ?_)
  exact W.iret (v := r_3) hx hb hr (fun t ht hW => ⟨⟨r_3, S_4, rfl, hw, by rw [ht]; exact hP, va_K.moved hW.alike hK, hD⟩, hS.F ht⟩) hS.2.2 dX12_laughsOf_25
def wM_growsOf (p1 : Int32) (p2 : Int32) (S : MS) (post : Int32 → MS → Prop) : Prop := wM_nameHouse p2 S (fun S_2 => wM_thereAt p2 S_2 (fun r_3 S_4 => wM_bits r_3 S_4 (fun r_5 S_6 => (∀ S_7 : MS, S_7 = (ms_set_named S_6 (upd (ms_named S_6) 11 r_5)) → ((((ms_named S_7) 11) = 0 → wM_says p1 2 1 9 S_7 (fun r_11 S_12 => post r_11 S_12)) ∧ (¬ (((ms_named S_7) 11) = 0) → wM_says p1 2 0 9 S_7 (fun r_9 S_10 => post r_9 S_10)))))))
set_option maxHeartbeats 4000000 in
set_option maxRecDepth 100000 in
theorem cM_growsOf (l : Launch) (D : va_G) (h : Nat → Nat) (cy : Nat → ClassId) (p1 : Int32) (p2 : Int32) (S : MS) (post : Int32 → MS → Prop) (hw : wM_growsOf p1 p2 S post) : k_Mi l yX12_growsOf wsX12_growsOf { frames := 4, cells := 0, slots := 0, locals := 99 } D (tyM cy) (wM h cy) [.ref (h 31), .int p1, .int p2] S post := by
  intro sz
  refine Met.ofW (cc := cX12_growsOf) (maxL := 3) (ret := (some .int)) (by decide) rfl ?_
  intro p e s m args below meth c s₁ B hml hv
  obtain ⟨rfl, hsz, hP, hK, hD0⟩ := hv
  have hx := B.exec
  have hb := B.bytes
  have hr := B.returns
  have hts := atoms_spec (ws := wsX12_growsOf) B.pre
  have hown : s.vm.findClass RX12 = some m.cls := findClass_of_methodNamed B.named
  have hlocks := B.notSynchronized
  subst hsz
  have hD := hD0.self (sz := s.heap.size)
  generalize hAe : va_A (wM h cy S) s.heap.size = A at hD ⊢
  have hA : ∀ q : Nat, s.heap.size ≤ q → A q := fun q h => by rw [← hAe]; exact Or.inr h
  have hS : va_S A s.heap s.heap [] := va_S.rf
  have hin : ∀ w ∈ wsX120, w ∈ wsX12_growsOf := fun _ h => List.mem_cons_of_mem _ (List.mem_append_right _ h)
  have w32 := hts (.fieldLink RX12 32 "ClownsMournModel" "named" "[I") (List.mem_of_getElem? (i := 1) rfl)
  have hl := lv_entry ([.ref (h 31), .int p1, .int p2]) (n := 3) (Nat.le_of_ble_eq_true rfl)
  rw [lg_entry_eq]
  generalize (lg_sl ([.ref (h 31), .int p1, .int p2]) ++ List.replicate (3 - (lg_sl ([.ref (h 31), .int p1, .int p2])).length) Slot.unset).toArray = ls at hl ⊢
  have hl : lv_has ls 3 [(0, .ref (h 31)), (1, .int p1), (2, .int p2)] := hl
  unfold wM_growsOf at hw
  clear hD0
  refine lv_aload_n hx hb dX12_growsOf_0 rfl (lv_at hl 0 rfl) ?_
  refine lv_iload_n hx hb dX12_growsOf_1 rfl (lv_at hl 2 rfl) ?_
  refine k_callVv (As := [.int p2]) (rest := []) ⟨hx, hb, hml, hown, hts⟩ (cM_nameHouse l D h cy _ _ _ hw) (cwV 1 hts gX12_growsOf_X12_nameHouse rfl rfl rfl (by decide +kernel) ⟨Nat.le_of_ble_eq_true rfl, Nat.le_of_ble_eq_true rfl⟩) (va_recv hK hP (ci := 11) (q0 := 0) rfl rfl) hK hP hD hS hA rfl hl.1 rfl (Nat.le_of_ble_eq_true rfl) dX12_growsOf_2 ⟨Nat.zero_le _, Nat.zero_le _⟩ (fun S_2 H locs hw hP hD hS => ?_)
  refine lv_aload_n hx hb dX12_growsOf_5 rfl (lv_at hl 0 rfl) ?_
  refine va_get (D := D) (ci := 11) (v := .ref (h 20)) (C := RX12) (T := TX12) (N := 31) hx hb hts hin hown hK hP 0 rfl rfl 20 (by decide) w32 (fun _ h9 => h9) rfl dX12_growsOf_6 ?_
  refine lv_bipush (v := 11) hx hb dX12_growsOf_9 (by decide) ?_
  refine lv_aload_n hx hb dX12_growsOf_11 rfl (lv_at hl 0 rfl) ?_
  refine lv_iload_n hx hb dX12_growsOf_12 rfl (lv_at hl 2 rfl) ?_
  refine k_callVi (As := [.int p2]) (rest := [.int 11, .ref (h 20)]) ⟨hx, hb, hml, hown, hts⟩ (cM_thereAt l D h cy _ _ _ hw) (cwV 1 hts gX12_growsOf_X12_thereAt rfl rfl rfl (by decide +kernel) ⟨Nat.le_of_ble_eq_true rfl, Nat.le_of_ble_eq_true rfl⟩) (va_recv hK hP (ci := 11) (q0 := 0) rfl rfl) hK hP hD hS hA rfl hl.1 rfl (Nat.le_of_ble_eq_true rfl) dX12_growsOf_13 ⟨Nat.zero_le _, Nat.zero_le _⟩ (fun r_3 S_4 H locs hw hP hD hS => ?_)
  refine k_callSi (As := [.int r_3]) (rest := [.int 11, .ref (h 20)]) ⟨hx, hb, hml, hown, hts⟩ (cM_bits l D h cy _ _ _ hw) (va_cwS 1 hts gX12_growsOf_X12_bits rfl rfl rfl (by decide +kernel) ⟨Nat.le_of_ble_eq_true rfl, Nat.le_of_ble_eq_true rfl⟩) hK hP hD hS hA rfl hl.1 rfl (Nat.le_of_ble_eq_true rfl) dX12_growsOf_16 ⟨Nat.zero_le _, Nat.zero_le _⟩ (fun r_5 S_6 H locs hw hP hD hS => ?_)
  refine k_iast (f := (ms_named S_6)) (j := 11) hx hb hK hP hD hS 6 5 rfl rfl (by decide +kernel) rfl dX12_growsOf_19 (fun H locs hP hD hS => ?_)
  obtain ⟨S_7, eS_7⟩ : ∃ z : MS, z = (ms_set_named S_6 (upd (ms_named S_6) 11 r_5)) := ⟨_, rfl⟩
  have hw := hw S_7 eS_7
  have hP : va_P D vwCl (wM h cy S_7) H := by rw [eS_7, ← wMs_named]; exact hP
  have hD : va_D A (wM h cy S_7) := by rw [eS_7, ← wMs_named]; exact hD
  refine lv_aload_n hx hb dX12_growsOf_20 rfl (lv_at hl 0 rfl) ?_
  refine lv_iload_n hx hb dX12_growsOf_21 rfl (lv_at hl 1 rfl) ?_
  refine lv_iconst (v := 2) hx hb dX12_growsOf_22 (by decide) ?_
  refine lv_aload_n hx hb dX12_growsOf_23 rfl (lv_at hl 0 rfl) ?_
  refine va_get (D := D) (ci := 11) (v := .ref (h 20)) (C := RX12) (T := TX12) (N := 31) hx hb hts hin hown hK hP 0 rfl rfl 20 (by decide) w32 (fun _ h9 => h9) rfl dX12_growsOf_24 ?_
  refine lv_bipush (v := 11) hx hb dX12_growsOf_27 (by decide) ?_
  refine k_iald (f := (ms_named S_7)) (j := 11) hx hb hK hP 6 5 rfl rfl (by decide +kernel) rfl dX12_growsOf_29 ?_
  obtain ⟨hc_8t, hc_8f⟩ := hw
  refine lv_if_ne (tgt := 37) hx hb dX12_growsOf_30 (by decide) (fun c_8 => ?_) (fun c_8 => ?_)
  · have hw := hc_8f c_8
    clear hc_8t hc_8f
    refine lv_iconst (v := 0) hx hb dX12_growsOf_37 (by decide) ?_
    refine lv_bipush (v := 9) hx hb dX12_growsOf_38 (by decide) ?_
    refine k_callVi (As := [.int p1, .int 2, .int 0, .int 9]) (rest := []) ⟨hx, hb, hml, hown, hts⟩ (cM_says l D h cy _ _ _ _ _ _ hw) (cwV 4 hts gX12_growsOf_X12_says rfl rfl rfl (by decide +kernel) ⟨Nat.le_of_ble_eq_true rfl, Nat.le_of_ble_eq_true rfl⟩) (va_recv hK hP (ci := 11) (q0 := 0) rfl rfl) hK hP hD hS hA rfl hl.1 rfl (Nat.le_of_ble_eq_true rfl) dX12_growsOf_40 ⟨Nat.zero_le _, Nat.zero_le _⟩ (fun r_9 S_10 H locs hw hP hD hS => ?_)
    exact W.iret (v := r_9) hx hb hr (fun t ht hW => ⟨⟨r_9, S_10, rfl, hw, by rw [ht]; exact hP, va_K.moved hW.alike hK, hD⟩, hS.F ht⟩) hS.2.2 dX12_growsOf_43
  · have hw := hc_8t c_8
    clear hc_8t hc_8f
    refine lv_iconst (v := 1) hx hb dX12_growsOf_33 (by decide) ?_
    refine lv_goto (tgt := 38) hx hb dX12_growsOf_34 (by decide) ?_
    refine lv_bipush (v := 9) hx hb dX12_growsOf_38 (by decide) ?_
    refine k_callVi (As := [.int p1, .int 2, .int 1, .int 9]) (rest := []) ⟨hx, hb, hml, hown, hts⟩ (cM_says l D h cy _ _ _ _ _ _ hw) (cwV 4 hts gX12_growsOf_X12_says rfl rfl rfl (by decide +kernel) ⟨Nat.le_of_ble_eq_true rfl, Nat.le_of_ble_eq_true rfl⟩) (va_recv hK hP (ci := 11) (q0 := 0) rfl rfl) hK hP hD hS hA rfl hl.1 rfl (Nat.le_of_ble_eq_true rfl) dX12_growsOf_40 ⟨Nat.zero_le _, Nat.zero_le _⟩ (fun r_11 S_12 H locs hw hP hD hS => ?_)
    exact W.iret (v := r_11) hx hb hr (fun t ht hW => ⟨⟨r_11, S_12, rfl, hw, by rw [ht]; exact hP, va_K.moved hW.alike hK, hD⟩, hS.F ht⟩) hS.2.2 dX12_growsOf_43
def wM_write_59 (post : MS → Prop) (x1 : Int32) (x2 : Int32) (S : MS) : Prop := (vp_in (2424 + ((ms_a S) 9)) 2454 ∧ ∀ S_1 : MS, S_1 = (ms_set_a S (upd (ms_a S) ((2424 + ((ms_a S) 9)).toNatClampNeg) ((((((ms_a S) 7) * 8) + x1) * 8) + x2))) → (∀ S_2 : MS, S_2 = (ms_set_a S_1 (upd (ms_a S_1) 9 (((ms_a S_1) 9) + 1))) → post S_2))
def wM_write_14 (post : MS → Prop) : Nat → Int32 → Int32 → Int32 → MS → Prop
  | 0, _, _, _, _ => False
  | n + 1, x1, x2, x3, S => ((30 ≤ x3 → (∀ S_2 : MS, S_2 = (ms_set_a S (upd (ms_a S) 9 (((ms_a S) 9) - 1))) → wM_write_59 post x1 x2 S_2)) ∧ (¬ (30 ≤ x3) → (vp_in (2424 + x3) 2454 ∧ (vp_in ((2424 + x3) - 1) 2454 ∧ ∀ S_3 : MS, S_3 = (ms_set_a S (upd (ms_a S) (((2424 + x3) - 1).toNatClampNeg) ((ms_a S) (2424 + x3).toNatClampNeg))) → wM_write_14 post n x1 x2 (x3 + 1) S_3))))
def wM_write (p1 : Int32) (p2 : Int32) (S : MS) (post : MS → Prop) : Prop := ((((ms_a S) 9) = 30 → ∃ k_ : Nat, wM_write_14 post k_ p1 p2 1 S) ∧ (¬ (((ms_a S) 9) = 30) → wM_write_59 post p1 p2 S))
set_option maxHeartbeats 4000000 in
set_option maxRecDepth 100000 in
theorem cM_write (l : Launch) (D : va_G) (h : Nat → Nat) (cy : Nat → ClassId) (p1 : Int32) (p2 : Int32) (S : MS) (post : MS → Prop) (hw : wM_write p1 p2 S post) : k_Mv l yX12_write wsX12_write { frames := 0, cells := 0, slots := 0, locals := 0 } D (tyM cy) (wM h cy) [.ref (h 31), .int p1, .int p2] S post := by
  intro sz
  refine Met.ofW (cc := cX12_write) (maxL := 4) (ret := none) (by decide) rfl ?_
  intro p e s m args below meth c s₁ B hml hv
  obtain ⟨rfl, hsz, hP, hK, hD0⟩ := hv
  have hx := B.exec
  have hb := B.bytes
  have hr := B.returns
  have hts := atoms_spec (ws := wsX12_write) B.pre
  have hown : s.vm.findClass RX12 = some m.cls := findClass_of_methodNamed B.named
  have hlocks := B.notSynchronized
  subst hsz
  have hD := hD0.self (sz := s.heap.size)
  generalize hAe : va_A (wM h cy S) s.heap.size = A at hD ⊢
  have hA : ∀ q : Nat, s.heap.size ≤ q → A q := fun q h => by rw [← hAe]; exact Or.inr h
  have hS : va_S A s.heap s.heap [] := va_S.rf
  have hin : ∀ w ∈ wsX120, w ∈ wsX12_write := fun _ h => List.mem_cons_of_mem _ (List.mem_append_right _ h)
  have w7 := hts (.fieldLink RX12 7 "ClownsMournModel" "a" "[I") (List.mem_of_getElem? (i := 1) rfl)
  have hl := lv_entry ([.ref (h 31), .int p1, .int p2]) (n := 4) (Nat.le_of_ble_eq_true rfl)
  rw [lg_entry_eq]
  generalize (lg_sl ([.ref (h 31), .int p1, .int p2]) ++ List.replicate (4 - (lg_sl ([.ref (h 31), .int p1, .int p2])).length) Slot.unset).toArray = ls at hl ⊢
  have hl : lv_has ls 4 [(0, .ref (h 31)), (1, .int p1), (2, .int p2)] := hl
  unfold wM_write at hw
  clear hD0
  have J_59 : ∀ (x1 : Int32) (x2 : Int32) (S : MS) (H : Heap) (locs : List Loc) (ls : Array Slot), wM_write_59 post x1 x2 S → va_P D vwCl (wM h cy S) H → va_D A (wM h cy S) → va_S A s.heap H locs → lv_has ls 4 [(0, .ref (h 31)), (1, .int x1), (2, .int x2)] → W p l e (headSpec wsX12_write { frames := 0, cells := 0, slots := 0, locals := 0 }).room s m (([.ref (h 31), .int p1, .int p2] : List Value).toArray) below meth c H locs 0 0 (MQ below (va_Qv post (k_Post D (tyM cy) (wM h cy) A) A) (([.ref (h 31), .int p1, .int p2] : List Value).toArray) s 0 0 A) (F0 m 59 ls []) := by
    intro x1 x2 S H locs ls hw hP hD hS hl
    unfold wM_write_59 at hw
    refine lv_aload_n hx hb dX12_write_59 rfl (lv_at hl 0 rfl) ?_
    refine va_get (D := D) (ci := 11) (v := .ref (h 0)) (C := RX12) (T := TX12) (N := 31) hx hb hts hin hown hK hP 0 rfl rfl 0 (by decide) w7 (fun _ h9 => h9) rfl dX12_write_60 ?_
    refine lv_sipush (v := 2424) hx hb dX12_write_63 (by decide) ?_
    refine lv_aload_n hx hb dX12_write_66 rfl (lv_at hl 0 rfl) ?_
    refine va_get (D := D) (ci := 11) (v := .ref (h 0)) (C := RX12) (T := TX12) (N := 31) hx hb hts hin hown hK hP 0 rfl rfl 0 (by decide) w7 (fun _ h9 => h9) rfl dX12_write_67 ?_
    refine lv_bipush (v := 9) hx hb dX12_write_70 (by decide) ?_
    refine k_iald (f := (ms_a S)) (j := 9) hx hb hK hP 1 0 rfl rfl (by decide +kernel) rfl dX12_write_72 ?_
    refine lv_iadd hx hb dX12_write_73 ?_
    refine lv_aload_n hx hb dX12_write_74 rfl (lv_at hl 0 rfl) ?_
    refine va_get (D := D) (ci := 11) (v := .ref (h 0)) (C := RX12) (T := TX12) (N := 31) hx hb hts hin hown hK hP 0 rfl rfl 0 (by decide) w7 (fun _ h9 => h9) rfl dX12_write_75 ?_
    refine lv_bipush (v := 7) hx hb dX12_write_78 (by decide) ?_
    refine k_iald (f := (ms_a S)) (j := 7) hx hb hK hP 1 0 rfl rfl (by decide +kernel) rfl dX12_write_80 ?_
    refine lv_bipush (v := 8) hx hb dX12_write_81 (by decide) ?_
    refine lv_imul hx hb dX12_write_83 ?_
    refine lv_iload_n hx hb dX12_write_84 rfl (lv_at hl 1 rfl) ?_
    refine lv_iadd hx hb dX12_write_85 ?_
    refine lv_bipush (v := 8) hx hb dX12_write_86 (by decide) ?_
    refine lv_imul hx hb dX12_write_88 ?_
    refine lv_iload_n hx hb dX12_write_89 rfl (lv_at hl 2 rfl) ?_
    refine lv_iadd hx hb dX12_write_90 ?_
    obtain ⟨hi_3, hw⟩ := hw
    refine va_iast (f := (ms_a S)) hx hb hK hP hD hS 1 0 rfl rfl hi_3 dX12_write_91 (fun H locs hP hD hS => ?_)
    obtain ⟨S_1, eS_1⟩ : ∃ z : MS, z = (ms_set_a S (upd (ms_a S) ((2424 + ((ms_a S) 9)).toNatClampNeg) ((((((ms_a S) 7) * 8) + x1) * 8) + x2))) := ⟨_, rfl⟩
    have hw := hw S_1 eS_1
    have hP : va_P D vwCl (wM h cy S_1) H := by rw [eS_1, ← wMs_a]; exact hP
    have hD : va_D A (wM h cy S_1) := by rw [eS_1, ← wMs_a]; exact hD
    refine lv_aload_n hx hb dX12_write_92 rfl (lv_at hl 0 rfl) ?_
    refine va_get (D := D) (ci := 11) (v := .ref (h 0)) (C := RX12) (T := TX12) (N := 31) hx hb hts hin hown hK hP 0 rfl rfl 0 (by decide) w7 (fun _ h9 => h9) rfl dX12_write_93 ?_
    refine lv_bipush (v := 9) hx hb dX12_write_96 (by decide) ?_
    refine lv_dup2_11 hx hb dX12_write_98 rfl rfl ?_
    refine k_iald (f := (ms_a S_1)) (j := 9) hx hb hK hP 1 0 rfl rfl (by decide +kernel) rfl dX12_write_99 ?_
    refine lv_iconst (v := 1) hx hb dX12_write_100 (by decide) ?_
    refine lv_iadd hx hb dX12_write_101 ?_
    refine k_iast (f := (ms_a S_1)) (j := 9) hx hb hK hP hD hS 1 0 rfl rfl (by decide +kernel) rfl dX12_write_102 (fun H locs hP hD hS => ?_)
    obtain ⟨S_2, eS_2⟩ : ∃ z : MS, z = (ms_set_a S_1 (upd (ms_a S_1) 9 (((ms_a S_1) 9) + 1))) := ⟨_, rfl⟩
    have hw := hw S_2 eS_2
    have hP : va_P D vwCl (wM h cy S_2) H := by rw [eS_2, ← wMs_a]; exact hP
    have hD : va_D A (wM h cy S_2) := by rw [eS_2, ← wMs_a]; exact hD
    exact W.vret hx hb hr (fun t ht hW => ⟨⟨S_2, rfl, hw, by rw [ht]; exact hP, va_K.moved hW.alike hK, hD⟩, hS.F ht⟩) hS.2.2 dX12_write_103
  have L_14 : ∀ (n14 : Nat) (x1 : Int32) (x2 : Int32) (x3 : Int32) (S : MS) (H : Heap) (locs : List Loc) (ls : Array Slot), wM_write_14 post n14 x1 x2 x3 S → va_P D vwCl (wM h cy S) H → va_D A (wM h cy S) → va_S A s.heap H locs → lv_has ls 4 [(0, .ref (h 31)), (1, .int x1), (2, .int x2), (3, .int x3)] → W p l e (headSpec wsX12_write { frames := 0, cells := 0, slots := 0, locals := 0 }).room s m (([.ref (h 31), .int p1, .int p2] : List Value).toArray) below meth c H locs 0 0 (MQ below (va_Qv post (k_Post D (tyM cy) (wM h cy) A) A) (([.ref (h 31), .int p1, .int p2] : List Value).toArray) s 0 0 A) (F0 m 14 ls []) := by
    intro n14
    induction n14 with
    | zero => intro x1 x2 x3 S H locs ls hw; exact False.elim hw
    | succ n14 ih_14 =>
      intro x1 x2 x3 S H locs ls hw hP hD hS hl
      unfold wM_write_14 at hw
      refine lv_iload_n hx hb dX12_write_14 rfl (lv_at hl 3 rfl) ?_
      refine lv_bipush (v := 30) hx hb dX12_write_15 (by decide) ?_
      obtain ⟨hc_4t, hc_4f⟩ := hw
      refine lv_icmp_ge (tgt := 48) hx hb dX12_write_17 (by decide) (fun c_4 => ?_) (fun c_4 => ?_)
      · have hw := hc_4t c_4
        clear hc_4t hc_4f
        refine lv_aload_n hx hb dX12_write_48 rfl (lv_at hl 0 rfl) ?_
        refine va_get (D := D) (ci := 11) (v := .ref (h 0)) (C := RX12) (T := TX12) (N := 31) hx hb hts hin hown hK hP 0 rfl rfl 0 (by decide) w7 (fun _ h9 => h9) rfl dX12_write_49 ?_
        refine lv_bipush (v := 9) hx hb dX12_write_52 (by decide) ?_
        refine lv_dup2_11 hx hb dX12_write_54 rfl rfl ?_
        refine k_iald (f := (ms_a S)) (j := 9) hx hb hK hP 1 0 rfl rfl (by decide +kernel) rfl dX12_write_55 ?_
        refine lv_iconst (v := 1) hx hb dX12_write_56 (by decide) ?_
        refine lv_isub hx hb dX12_write_57 ?_
        refine k_iast (f := (ms_a S)) (j := 9) hx hb hK hP hD hS 1 0 rfl rfl (by decide +kernel) rfl dX12_write_58 (fun H locs hP hD hS => ?_)
        obtain ⟨S_5, eS_5⟩ : ∃ z : MS, z = (ms_set_a S (upd (ms_a S) 9 (((ms_a S) 9) - 1))) := ⟨_, rfl⟩
        have hw := hw S_5 eS_5
        have hP : va_P D vwCl (wM h cy S_5) H := by rw [eS_5, ← wMs_a]; exact hP
        have hD : va_D A (wM h cy S_5) := by rw [eS_5, ← wMs_a]; exact hD
        exact J_59 x1 x2 S_5 _ _ _ hw hP hD hS (lv_sub hl [0, 1, 2] rfl)
      · have hw := hc_4f c_4
        clear hc_4t hc_4f
        refine lv_aload_n hx hb dX12_write_20 rfl (lv_at hl 0 rfl) ?_
        refine va_get (D := D) (ci := 11) (v := .ref (h 0)) (C := RX12) (T := TX12) (N := 31) hx hb hts hin hown hK hP 0 rfl rfl 0 (by decide) w7 (fun _ h9 => h9) rfl dX12_write_21 ?_
        refine lv_sipush (v := 2424) hx hb dX12_write_24 (by decide) ?_
        refine lv_iload_n hx hb dX12_write_27 rfl (lv_at hl 3 rfl) ?_
        refine lv_iadd hx hb dX12_write_28 ?_
        refine lv_iconst (v := 1) hx hb dX12_write_29 (by decide) ?_
        refine lv_isub hx hb dX12_write_30 ?_
        refine lv_aload_n hx hb dX12_write_31 rfl (lv_at hl 0 rfl) ?_
        refine va_get (D := D) (ci := 11) (v := .ref (h 0)) (C := RX12) (T := TX12) (N := 31) hx hb hts hin hown hK hP 0 rfl rfl 0 (by decide) w7 (fun _ h9 => h9) rfl dX12_write_32 ?_
        refine lv_sipush (v := 2424) hx hb dX12_write_35 (by decide) ?_
        refine lv_iload_n hx hb dX12_write_38 rfl (lv_at hl 3 rfl) ?_
        refine lv_iadd hx hb dX12_write_39 ?_
        obtain ⟨hi_8, hw⟩ := hw
        refine va_iald (f := (ms_a S)) hx hb hK hP 1 0 rfl rfl hi_8 dX12_write_40 ?_
        obtain ⟨hi_7, hw⟩ := hw
        refine va_iast (f := (ms_a S)) hx hb hK hP hD hS 1 0 rfl rfl hi_7 dX12_write_41 (fun H locs hP hD hS => ?_)
        obtain ⟨S_6, eS_6⟩ : ∃ z : MS, z = (ms_set_a S (upd (ms_a S) (((2424 + x3) - 1).toNatClampNeg) ((ms_a S) (2424 + x3).toNatClampNeg))) := ⟨_, rfl⟩
        have hw := hw S_6 eS_6
        have hP : va_P D vwCl (wM h cy S_6) H := by rw [eS_6, ← wMs_a]; exact hP
        have hD : va_D A (wM h cy S_6) := by rw [eS_6, ← wMs_a]; exact hD
        refine lv_iinc (v := x3 + 1) (lv' := [(3, .int (x3 + 1)), (0, .ref (h 31)), (1, .int x1), (2, .int x2)]) hx hb dX12_write_42 hl (k := 3) rfl (k_inc (by decide)) (by decide) rfl (fun ls hl => ?_)
        refine lv_goto (tgt := 14) hx hb dX12_write_45 (by decide) ?_
        exact ih_14 x1 x2 (x3 + 1) S_6 _ _ _ hw hP hD hS (lv_sub hl [1, 2, 3, 0] rfl)
  refine lv_aload_n hx hb dX12_write_0 rfl (lv_at hl 0 rfl) ?_
  refine va_get (D := D) (ci := 11) (v := .ref (h 0)) (C := RX12) (T := TX12) (N := 31) hx hb hts hin hown hK hP 0 rfl rfl 0 (by decide) w7 (fun _ h9 => h9) rfl dX12_write_1 ?_
  refine lv_bipush (v := 9) hx hb dX12_write_4 (by decide) ?_
  refine k_iald (f := (ms_a S)) (j := 9) hx hb hK hP 1 0 rfl rfl (by decide +kernel) rfl dX12_write_6 ?_
  refine lv_bipush (v := 30) hx hb dX12_write_7 (by decide) ?_
  obtain ⟨hc_9t, hc_9f⟩ := hw
  refine lv_icmp_ne (tgt := 59) hx hb dX12_write_9 (by decide) (fun c_9 => ?_) (fun c_9 => ?_)
  · have hw := hc_9f c_9
    clear hc_9t hc_9f
    exact J_59 p1 p2 S _ _ _ hw hP hD hS (lv_sub hl [0, 1, 2] rfl)
  · have hw := hc_9t c_9
    clear hc_9t hc_9f
    refine lv_iconst (v := 1) hx hb dX12_write_12 (by decide) ?_
    refine lv_istore_n (lv' := [(3, .int 1), (0, .ref (h 31)), (1, .int p1), (2, .int p2)]) hx hb dX12_write_13 rfl hl (by decide) rfl (fun ls hl => ?_)
    obtain ⟨n_14, hw⟩ := hw
    exact L_14 n_14 p1 p2 1 S _ _ _ hw hP hD hS (lv_sub hl [1, 2, 3, 0] rfl)
def wM_anew (S : MS) (post : MS → Prop) : Prop := (∀ S_1 : MS, S_1 = (ms_set_a S (upd (ms_a S) 8 (Int64.toInt32 (k_remL (((Int32.toInt64 ((ms_a S) 8)) * 419) + 293) 30529)))) → post S_1)
set_option maxHeartbeats 4000000 in
set_option maxRecDepth 100000 in
theorem cM_anew (l : Launch) (D : va_G) (h : Nat → Nat) (cy : Nat → ClassId) (S : MS) (post : MS → Prop) (hw : wM_anew S post) : k_Mv l yX12_anew wsX12_anew { frames := 0, cells := 0, slots := 0, locals := 0 } D (tyM cy) (wM h cy) [.ref (h 31)] S post := by
  intro sz
  refine Met.ofW (cc := cX12_anew) (maxL := 1) (ret := none) (by decide) rfl ?_
  intro p e s m args below meth c s₁ B hml hv
  obtain ⟨rfl, hsz, hP, hK, hD0⟩ := hv
  have hx := B.exec
  have hb := B.bytes
  have hr := B.returns
  have hts := atoms_spec (ws := wsX12_anew) B.pre
  have hown : s.vm.findClass RX12 = some m.cls := findClass_of_methodNamed B.named
  have hlocks := B.notSynchronized
  subst hsz
  have hD := hD0.self (sz := s.heap.size)
  generalize hAe : va_A (wM h cy S) s.heap.size = A at hD ⊢
  have hA : ∀ q : Nat, s.heap.size ≤ q → A q := fun q h => by rw [← hAe]; exact Or.inr h
  have hS : va_S A s.heap s.heap [] := va_S.rf
  have hin : ∀ w ∈ wsX120, w ∈ wsX12_anew := fun _ h => List.mem_cons_of_mem _ (List.mem_append_right _ h)
  have wc324 := hts (.constantLong RX12 324 (419)) (List.mem_of_getElem? (i := 2) rfl)
  have wc326 := hts (.constantLong RX12 326 (293)) (List.mem_of_getElem? (i := 3) rfl)
  have wc328 := hts (.constantLong RX12 328 (30529)) (List.mem_of_getElem? (i := 4) rfl)
  have w7 := hts (.fieldLink RX12 7 "ClownsMournModel" "a" "[I") (List.mem_of_getElem? (i := 1) rfl)
  have hl := lv_entry ([.ref (h 31)]) (n := 1) (Nat.le_of_ble_eq_true rfl)
  rw [lg_entry_eq]
  generalize (lg_sl ([.ref (h 31)]) ++ List.replicate (1 - (lg_sl ([.ref (h 31)])).length) Slot.unset).toArray = ls at hl ⊢
  have hl : lv_has ls 1 [(0, .ref (h 31))] := hl
  unfold wM_anew at hw
  clear hD0
  refine lv_aload_n hx hb dX12_anew_0 rfl (lv_at hl 0 rfl) ?_
  refine va_get (D := D) (ci := 11) (v := .ref (h 0)) (C := RX12) (T := TX12) (N := 31) hx hb hts hin hown hK hP 0 rfl rfl 0 (by decide) w7 (fun _ h9 => h9) rfl dX12_anew_1 ?_
  refine lv_bipush (v := 8) hx hb dX12_anew_4 (by decide) ?_
  refine lv_aload_n hx hb dX12_anew_6 rfl (lv_at hl 0 rfl) ?_
  refine va_get (D := D) (ci := 11) (v := .ref (h 0)) (C := RX12) (T := TX12) (N := 31) hx hb hts hin hown hK hP 0 rfl rfl 0 (by decide) w7 (fun _ h9 => h9) rfl dX12_anew_7 ?_
  refine lv_bipush (v := 8) hx hb dX12_anew_10 (by decide) ?_
  refine k_iald (f := (ms_a S)) (j := 8) hx hb hK hP 1 0 rfl rfl (by decide +kernel) rfl dX12_anew_12 ?_
  refine lv_i2l (v := Int32.toInt64 ((ms_a S) 8)) hx hb dX12_anew_13 rfl ?_
  refine lv_ldc2 (v := 419) hx hb hown wc324 dX12_anew_14 ?_
  refine lv_lmul hx hb dX12_anew_17 ?_
  refine lv_ldc2 (v := 293) hx hb hown wc326 dX12_anew_18 ?_
  refine lv_ladd hx hb dX12_anew_21 ?_
  refine lv_ldc2 (v := 30529) hx hb hown wc328 dX12_anew_22 ?_
  refine k_lrem hx hb dX12_anew_25 (by decide) ?_
  refine lv_l2i (v := Int64.toInt32 (k_remL (((Int32.toInt64 ((ms_a S) 8)) * 419) + 293) 30529)) hx hb dX12_anew_26 rfl ?_
  refine k_iast (f := (ms_a S)) (j := 8) hx hb hK hP hD hS 1 0 rfl rfl (by decide +kernel) rfl dX12_anew_27 (fun H locs hP hD hS => ?_)
  obtain ⟨S_1, eS_1⟩ : ∃ z : MS, z = (ms_set_a S (upd (ms_a S) 8 (Int64.toInt32 (k_remL (((Int32.toInt64 ((ms_a S) 8)) * 419) + 293) 30529)))) := ⟨_, rfl⟩
  have hw := hw S_1 eS_1
  have hP : va_P D vwCl (wM h cy S_1) H := by rw [eS_1, ← wMs_a]; exact hP
  have hD : va_D A (wM h cy S_1) := by rw [eS_1, ← wMs_a]; exact hD
  exact W.vret hx hb hr (fun t ht hW => ⟨⟨S_1, rfl, hw, by rw [ht]; exact hP, va_K.moved hW.alike hK, hD⟩, hS.F ht⟩) hS.2.2 dX12_anew_28
def wM_comfortNow (p1 : Int32) (p2 : Int32) (S : MS) (post : MS → Prop) : Prop := wM_own p1 1 S (fun r_1 S_2 => wM_get r_1 0 S_2 (fun r_3 S_4 => wM_easesOf p1 p2 S_4 (fun r_5 S_6 => wM_cut (Int32.toInt64 (r_3 - r_5)) 0 99 S_6 (fun r_7 S_8 => wM_put r_1 0 r_7 S_8 (fun S_10 => wM_get r_1 1 S_10 (fun r_11 S_12 => wM_moodBy p2 r_11 S_12 (fun r_13 S_14 => wM_put r_1 1 r_13 S_14 (fun S_16 => post S_16))))))))
set_option maxHeartbeats 4000000 in
set_option maxRecDepth 100000 in
theorem cM_comfortNow (l : Launch) (D : va_G) (h : Nat → Nat) (cy : Nat → ClassId) (p1 : Int32) (p2 : Int32) (S : MS) (post : MS → Prop) (hw : wM_comfortNow p1 p2 S post) : k_Mv l yX12_comfortNow wsX12_comfortNow { frames := 5, cells := 0, slots := 0, locals := 121 } D (tyM cy) (wM h cy) [.ref (h 31), .int p1, .int p2] S post := by
  intro sz
  refine Met.ofW (cc := cX12_comfortNow) (maxL := 4) (ret := none) (by decide) rfl ?_
  intro p e s m args below meth c s₁ B hml hv
  obtain ⟨rfl, hsz, hP, hK, hD0⟩ := hv
  have hx := B.exec
  have hb := B.bytes
  have hr := B.returns
  have hts := atoms_spec (ws := wsX12_comfortNow) B.pre
  have hown : s.vm.findClass RX12 = some m.cls := findClass_of_methodNamed B.named
  have hlocks := B.notSynchronized
  subst hsz
  have hD := hD0.self (sz := s.heap.size)
  generalize hAe : va_A (wM h cy S) s.heap.size = A at hD ⊢
  have hA : ∀ q : Nat, s.heap.size ≤ q → A q := fun q h => by rw [← hAe]; exact Or.inr h
  have hS : va_S A s.heap s.heap [] := va_S.rf
  have hl := lv_entry ([.ref (h 31), .int p1, .int p2]) (n := 4) (Nat.le_of_ble_eq_true rfl)
  rw [lg_entry_eq]
  generalize (lg_sl ([.ref (h 31), .int p1, .int p2]) ++ List.replicate (4 - (lg_sl ([.ref (h 31), .int p1, .int p2])).length) Slot.unset).toArray = ls at hl ⊢
  have hl : lv_has ls 4 [(0, .ref (h 31)), (1, .int p1), (2, .int p2)] := hl
  unfold wM_comfortNow at hw
  clear hD0
  refine lv_aload_n hx hb dX12_comfortNow_0 rfl (lv_at hl 0 rfl) ?_
  refine lv_iload_n hx hb dX12_comfortNow_1 rfl (lv_at hl 1 rfl) ?_
  refine lv_iconst (v := 1) hx hb dX12_comfortNow_2 (by decide) ?_
  refine k_callVi (As := [.int p1, .int 1]) (rest := []) ⟨hx, hb, hml, hown, hts⟩ (cM_own l D h cy _ _ _ _ hw) (cwV 2 hts gX12_comfortNow_X12_own rfl rfl rfl (by decide +kernel) ⟨Nat.le_of_ble_eq_true rfl, Nat.le_of_ble_eq_true rfl⟩) (va_recv hK hP (ci := 11) (q0 := 0) rfl rfl) hK hP hD hS hA rfl hl.1 rfl (Nat.le_of_ble_eq_true rfl) dX12_comfortNow_3 ⟨Nat.zero_le _, Nat.zero_le _⟩ (fun r_1 S_2 H locs hw hP hD hS => ?_)
  refine lv_istore_n (lv' := [(3, .int r_1), (0, .ref (h 31)), (1, .int p1), (2, .int p2)]) hx hb dX12_comfortNow_6 rfl hl (by decide) rfl (fun ls hl => ?_)
  refine lv_aload_n hx hb dX12_comfortNow_7 rfl (lv_at hl 1 rfl) ?_
  refine lv_iload_n hx hb dX12_comfortNow_8 rfl (lv_at hl 0 rfl) ?_
  refine lv_iconst (v := 0) hx hb dX12_comfortNow_9 (by decide) ?_
  refine lv_aload_n hx hb dX12_comfortNow_10 rfl (lv_at hl 1 rfl) ?_
  refine lv_iload_n hx hb dX12_comfortNow_11 rfl (lv_at hl 0 rfl) ?_
  refine lv_iconst (v := 0) hx hb dX12_comfortNow_12 (by decide) ?_
  refine k_callVi (As := [.int r_1, .int 0]) (rest := [.int 0, .int r_1, .ref (h 31)]) ⟨hx, hb, hml, hown, hts⟩ (cM_get l D h cy _ _ _ _ hw) (cwV 2 hts gX12_comfortNow_X12_get rfl rfl rfl (by decide +kernel) ⟨Nat.le_of_ble_eq_true rfl, Nat.le_of_ble_eq_true rfl⟩) (va_recv hK hP (ci := 11) (q0 := 0) rfl rfl) hK hP hD hS hA rfl hl.1 rfl (Nat.le_of_ble_eq_true rfl) dX12_comfortNow_13 ⟨Nat.zero_le _, Nat.zero_le _⟩ (fun r_3 S_4 H locs hw hP hD hS => ?_)
  refine lv_aload_n hx hb dX12_comfortNow_16 rfl (lv_at hl 1 rfl) ?_
  refine lv_iload_n hx hb dX12_comfortNow_17 rfl (lv_at hl 2 rfl) ?_
  refine lv_iload_n hx hb dX12_comfortNow_18 rfl (lv_at hl 3 rfl) ?_
  refine k_callVi (As := [.int p1, .int p2]) (rest := [.int r_3, .int 0, .int r_1, .ref (h 31)]) ⟨hx, hb, hml, hown, hts⟩ (cM_easesOf l D h cy _ _ _ _ hw) (cwV 2 hts gX12_comfortNow_X12_easesOf rfl rfl rfl (by decide +kernel) ⟨Nat.le_of_ble_eq_true rfl, Nat.le_of_ble_eq_true rfl⟩) (va_recv hK hP (ci := 11) (q0 := 0) rfl rfl) hK hP hD hS hA rfl hl.1 rfl (Nat.le_of_ble_eq_true rfl) dX12_comfortNow_19 ⟨Nat.zero_le _, Nat.zero_le _⟩ (fun r_5 S_6 H locs hw hP hD hS => ?_)
  refine lv_isub hx hb dX12_comfortNow_22 ?_
  refine lv_i2l (v := Int32.toInt64 (r_3 - r_5)) hx hb dX12_comfortNow_23 rfl ?_
  refine lv_iconst (v := 0) hx hb dX12_comfortNow_24 (by decide) ?_
  refine lv_bipush (v := 99) hx hb dX12_comfortNow_25 (by decide) ?_
  refine k_callSi (As := [.long (Int32.toInt64 (r_3 - r_5)), .int 0, .int 99]) (rest := [.int 0, .int r_1, .ref (h 31)]) ⟨hx, hb, hml, hown, hts⟩ (cM_cut l D h cy _ _ _ _ _ hw) (va_cwS 3 hts gX12_comfortNow_X12_cut rfl rfl rfl (by decide +kernel) ⟨Nat.le_of_ble_eq_true rfl, Nat.le_of_ble_eq_true rfl⟩) hK hP hD hS hA rfl hl.1 rfl (Nat.le_of_ble_eq_true rfl) dX12_comfortNow_27 ⟨Nat.zero_le _, Nat.zero_le _⟩ (fun r_7 S_8 H locs hw hP hD hS => ?_)
  refine k_callVv (As := [.int r_1, .int 0, .int r_7]) (rest := []) ⟨hx, hb, hml, hown, hts⟩ (cM_put l D h cy _ _ _ _ _ hw) (cwV 3 hts gX12_comfortNow_X12_put rfl rfl rfl (by decide +kernel) ⟨Nat.le_of_ble_eq_true rfl, Nat.le_of_ble_eq_true rfl⟩) (va_recv hK hP (ci := 11) (q0 := 0) rfl rfl) hK hP hD hS hA rfl hl.1 rfl (Nat.le_of_ble_eq_true rfl) dX12_comfortNow_30 ⟨Nat.zero_le _, Nat.zero_le _⟩ (fun S_10 H locs hw hP hD hS => ?_)
  refine lv_aload_n hx hb dX12_comfortNow_33 rfl (lv_at hl 1 rfl) ?_
  refine lv_iload_n hx hb dX12_comfortNow_34 rfl (lv_at hl 0 rfl) ?_
  refine lv_iconst (v := 1) hx hb dX12_comfortNow_35 (by decide) ?_
  refine lv_aload_n hx hb dX12_comfortNow_36 rfl (lv_at hl 1 rfl) ?_
  refine lv_iload_n hx hb dX12_comfortNow_37 rfl (lv_at hl 3 rfl) ?_
  refine lv_aload_n hx hb dX12_comfortNow_38 rfl (lv_at hl 1 rfl) ?_
  refine lv_iload_n hx hb dX12_comfortNow_39 rfl (lv_at hl 0 rfl) ?_
  refine lv_iconst (v := 1) hx hb dX12_comfortNow_40 (by decide) ?_
  refine k_callVi (As := [.int r_1, .int 1]) (rest := [.int p2, .ref (h 31), .int 1, .int r_1, .ref (h 31)]) ⟨hx, hb, hml, hown, hts⟩ (cM_get l D h cy _ _ _ _ hw) (cwV 2 hts gX12_comfortNow_X12_get rfl rfl rfl (by decide +kernel) ⟨Nat.le_of_ble_eq_true rfl, Nat.le_of_ble_eq_true rfl⟩) (va_recv hK hP (ci := 11) (q0 := 0) rfl rfl) hK hP hD hS hA rfl hl.1 rfl (Nat.le_of_ble_eq_true rfl) dX12_comfortNow_41 ⟨Nat.zero_le _, Nat.zero_le _⟩ (fun r_11 S_12 H locs hw hP hD hS => ?_)
  refine k_callVi (As := [.int p2, .int r_11]) (rest := [.int 1, .int r_1, .ref (h 31)]) ⟨hx, hb, hml, hown, hts⟩ (cM_moodBy l D h cy _ _ _ _ hw) (cwV 2 hts gX12_comfortNow_X12_moodBy rfl rfl rfl (by decide +kernel) ⟨Nat.le_of_ble_eq_true rfl, Nat.le_of_ble_eq_true rfl⟩) (va_recv hK hP (ci := 11) (q0 := 0) rfl rfl) hK hP hD hS hA rfl hl.1 rfl (Nat.le_of_ble_eq_true rfl) dX12_comfortNow_44 ⟨Nat.zero_le _, Nat.zero_le _⟩ (fun r_13 S_14 H locs hw hP hD hS => ?_)
  refine k_callVv (As := [.int r_1, .int 1, .int r_13]) (rest := []) ⟨hx, hb, hml, hown, hts⟩ (cM_put l D h cy _ _ _ _ _ hw) (cwV 3 hts gX12_comfortNow_X12_put rfl rfl rfl (by decide +kernel) ⟨Nat.le_of_ble_eq_true rfl, Nat.le_of_ble_eq_true rfl⟩) (va_recv hK hP (ci := 11) (q0 := 0) rfl rfl) hK hP hD hS hA rfl hl.1 rfl (Nat.le_of_ble_eq_true rfl) dX12_comfortNow_47 ⟨Nat.zero_le _, Nat.zero_le _⟩ (fun S_16 H locs hw hP hD hS => ?_)
  exact W.vret hx hb hr (fun t ht hW => ⟨⟨S_16, rfl, hw, by rw [ht]; exact hP, va_K.moved hW.alike hK, hD⟩, hS.F ht⟩) hS.2.2 dX12_comfortNow_50
def wM_laugh (p1 : Int32) (p2 : Int32) (S : MS) (post : MS → Prop) : Prop := wM_get p1 3 S (fun r_1 S_2 => wM_cut (Int32.toInt64 (r_1 + 1)) 0 99 S_2 (fun r_3 S_4 => wM_put p1 3 r_3 S_4 (fun S_6 => wM_get p1 2 S_6 (fun r_7 S_8 => ((r_7 = (-1) → wM_put p1 2 p2 S_8 (fun S_13 => wM_write p1 p2 S_13 (fun S_15 => post S_15))) ∧ (¬ (r_7 = (-1)) → wM_write p1 p2 S_8 (fun S_11 => post S_11)))))))
set_option maxHeartbeats 4000000 in
set_option maxRecDepth 100000 in
theorem cM_laugh (l : Launch) (D : va_G) (h : Nat → Nat) (cy : Nat → ClassId) (p1 : Int32) (p2 : Int32) (S : MS) (post : MS → Prop) (hw : wM_laugh p1 p2 S post) : k_Mv l yX12_laugh wsX12_laugh { frames := 1, cells := 0, slots := 0, locals := 23 } D (tyM cy) (wM h cy) [.ref (h 31), .int p1, .int p2] S post := by
  intro sz
  refine Met.ofW (cc := cX12_laugh) (maxL := 3) (ret := none) (by decide) rfl ?_
  intro p e s m args below meth c s₁ B hml hv
  obtain ⟨rfl, hsz, hP, hK, hD0⟩ := hv
  have hx := B.exec
  have hb := B.bytes
  have hr := B.returns
  have hts := atoms_spec (ws := wsX12_laugh) B.pre
  have hown : s.vm.findClass RX12 = some m.cls := findClass_of_methodNamed B.named
  have hlocks := B.notSynchronized
  subst hsz
  have hD := hD0.self (sz := s.heap.size)
  generalize hAe : va_A (wM h cy S) s.heap.size = A at hD ⊢
  have hA : ∀ q : Nat, s.heap.size ≤ q → A q := fun q h => by rw [← hAe]; exact Or.inr h
  have hS : va_S A s.heap s.heap [] := va_S.rf
  have hl := lv_entry ([.ref (h 31), .int p1, .int p2]) (n := 3) (Nat.le_of_ble_eq_true rfl)
  rw [lg_entry_eq]
  generalize (lg_sl ([.ref (h 31), .int p1, .int p2]) ++ List.replicate (3 - (lg_sl ([.ref (h 31), .int p1, .int p2])).length) Slot.unset).toArray = ls at hl ⊢
  have hl : lv_has ls 3 [(0, .ref (h 31)), (1, .int p1), (2, .int p2)] := hl
  unfold wM_laugh at hw
  clear hD0
  refine lv_aload_n hx hb dX12_laugh_0 rfl (lv_at hl 0 rfl) ?_
  refine lv_iload_n hx hb dX12_laugh_1 rfl (lv_at hl 1 rfl) ?_
  refine lv_iconst (v := 3) hx hb dX12_laugh_2 (by decide) ?_
  refine lv_aload_n hx hb dX12_laugh_3 rfl (lv_at hl 0 rfl) ?_
  refine lv_iload_n hx hb dX12_laugh_4 rfl (lv_at hl 1 rfl) ?_
  refine lv_iconst (v := 3) hx hb dX12_laugh_5 (by decide) ?_
  refine k_callVi (As := [.int p1, .int 3]) (rest := [.int 3, .int p1, .ref (h 31)]) ⟨hx, hb, hml, hown, hts⟩ (cM_get l D h cy _ _ _ _ hw) (cwV 2 hts gX12_laugh_X12_get rfl rfl rfl (by decide +kernel) ⟨Nat.le_of_ble_eq_true rfl, Nat.le_of_ble_eq_true rfl⟩) (va_recv hK hP (ci := 11) (q0 := 0) rfl rfl) hK hP hD hS hA rfl hl.1 rfl (Nat.le_of_ble_eq_true rfl) dX12_laugh_6 ⟨Nat.zero_le _, Nat.zero_le _⟩ (fun r_1 S_2 H locs hw hP hD hS => ?_)
  refine lv_iconst (v := 1) hx hb dX12_laugh_9 (by decide) ?_
  refine lv_iadd hx hb dX12_laugh_10 ?_
  refine lv_i2l (v := Int32.toInt64 (r_1 + 1)) hx hb dX12_laugh_11 rfl ?_
  refine lv_iconst (v := 0) hx hb dX12_laugh_12 (by decide) ?_
  refine lv_bipush (v := 99) hx hb dX12_laugh_13 (by decide) ?_
  refine k_callSi (As := [.long (Int32.toInt64 (r_1 + 1)), .int 0, .int 99]) (rest := [.int 3, .int p1, .ref (h 31)]) ⟨hx, hb, hml, hown, hts⟩ (cM_cut l D h cy _ _ _ _ _ hw) (va_cwS 3 hts gX12_laugh_X12_cut rfl rfl rfl (by decide +kernel) ⟨Nat.le_of_ble_eq_true rfl, Nat.le_of_ble_eq_true rfl⟩) hK hP hD hS hA rfl hl.1 rfl (Nat.le_of_ble_eq_true rfl) dX12_laugh_15 ⟨Nat.zero_le _, Nat.zero_le _⟩ (fun r_3 S_4 H locs hw hP hD hS => ?_)
  refine k_callVv (As := [.int p1, .int 3, .int r_3]) (rest := []) ⟨hx, hb, hml, hown, hts⟩ (cM_put l D h cy _ _ _ _ _ hw) (cwV 3 hts gX12_laugh_X12_put rfl rfl rfl (by decide +kernel) ⟨Nat.le_of_ble_eq_true rfl, Nat.le_of_ble_eq_true rfl⟩) (va_recv hK hP (ci := 11) (q0 := 0) rfl rfl) hK hP hD hS hA rfl hl.1 rfl (Nat.le_of_ble_eq_true rfl) dX12_laugh_18 ⟨Nat.zero_le _, Nat.zero_le _⟩ (fun S_6 H locs hw hP hD hS => ?_)
  refine lv_aload_n hx hb dX12_laugh_21 rfl (lv_at hl 0 rfl) ?_
  refine lv_iload_n hx hb dX12_laugh_22 rfl (lv_at hl 1 rfl) ?_
  refine lv_iconst (v := 2) hx hb dX12_laugh_23 (by decide) ?_
  refine k_callVi (As := [.int p1, .int 2]) (rest := []) ⟨hx, hb, hml, hown, hts⟩ (cM_get l D h cy _ _ _ _ hw) (cwV 2 hts gX12_laugh_X12_get rfl rfl rfl (by decide +kernel) ⟨Nat.le_of_ble_eq_true rfl, Nat.le_of_ble_eq_true rfl⟩) (va_recv hK hP (ci := 11) (q0 := 0) rfl rfl) hK hP hD hS hA rfl hl.1 rfl (Nat.le_of_ble_eq_true rfl) dX12_laugh_24 ⟨Nat.zero_le _, Nat.zero_le _⟩ (fun r_7 S_8 H locs hw hP hD hS => ?_)
  refine lv_iconst (v := (-1)) hx hb dX12_laugh_27 (by decide) ?_
  obtain ⟨hc_9t, hc_9f⟩ := hw
  refine lv_icmp_ne (tgt := 38) hx hb dX12_laugh_28 (by decide) (fun c_9 => ?_) (fun c_9 => ?_)
  · have hw := hc_9f c_9
    clear hc_9t hc_9f
    refine lv_aload_n hx hb dX12_laugh_38 rfl (lv_at hl 0 rfl) ?_
    refine lv_iload_n hx hb dX12_laugh_39 rfl (lv_at hl 1 rfl) ?_
    refine lv_iload_n hx hb dX12_laugh_40 rfl (lv_at hl 2 rfl) ?_
    refine k_callVv (As := [.int p1, .int p2]) (rest := []) ⟨hx, hb, hml, hown, hts⟩ (cM_write l D h cy _ _ _ _ hw) (cwV 2 hts gX12_laugh_X12_write rfl rfl rfl (by decide +kernel) ⟨Nat.le_of_ble_eq_true rfl, Nat.le_of_ble_eq_true rfl⟩) (va_recv hK hP (ci := 11) (q0 := 0) rfl rfl) hK hP hD hS hA rfl hl.1 rfl (Nat.le_of_ble_eq_true rfl) dX12_laugh_41 ⟨Nat.zero_le _, Nat.zero_le _⟩ (fun S_11 H locs hw hP hD hS => ?_)
    exact W.vret hx hb hr (fun t ht hW => ⟨⟨S_11, rfl, hw, by rw [ht]; exact hP, va_K.moved hW.alike hK, hD⟩, hS.F ht⟩) hS.2.2 dX12_laugh_44
  · have hw := hc_9t c_9
    clear hc_9t hc_9f
    refine lv_aload_n hx hb dX12_laugh_31 rfl (lv_at hl 0 rfl) ?_
    refine lv_iload_n hx hb dX12_laugh_32 rfl (lv_at hl 1 rfl) ?_
    refine lv_iconst (v := 2) hx hb dX12_laugh_33 (by decide) ?_
    refine lv_iload_n hx hb dX12_laugh_34 rfl (lv_at hl 2 rfl) ?_
    refine k_callVv (As := [.int p1, .int 2, .int p2]) (rest := []) ⟨hx, hb, hml, hown, hts⟩ (cM_put l D h cy _ _ _ _ _ hw) (cwV 3 hts gX12_laugh_X12_put rfl rfl rfl (by decide +kernel) ⟨Nat.le_of_ble_eq_true rfl, Nat.le_of_ble_eq_true rfl⟩) (va_recv hK hP (ci := 11) (q0 := 0) rfl rfl) hK hP hD hS hA rfl hl.1 rfl (Nat.le_of_ble_eq_true rfl) dX12_laugh_35 ⟨Nat.zero_le _, Nat.zero_le _⟩ (fun S_13 H locs hw hP hD hS => ?_)
    refine lv_aload_n hx hb dX12_laugh_38 rfl (lv_at hl 0 rfl) ?_
    refine lv_iload_n hx hb dX12_laugh_39 rfl (lv_at hl 1 rfl) ?_
    refine lv_iload_n hx hb dX12_laugh_40 rfl (lv_at hl 2 rfl) ?_
    refine k_callVv (As := [.int p1, .int p2]) (rest := []) ⟨hx, hb, hml, hown, hts⟩ (cM_write l D h cy _ _ _ _ hw) (cwV 2 hts gX12_laugh_X12_write rfl rfl rfl (by decide +kernel) ⟨Nat.le_of_ble_eq_true rfl, Nat.le_of_ble_eq_true rfl⟩) (va_recv hK hP (ci := 11) (q0 := 0) rfl rfl) hK hP hD hS hA rfl hl.1 rfl (Nat.le_of_ble_eq_true rfl) dX12_laugh_41 ⟨Nat.zero_le _, Nat.zero_le _⟩ (fun S_15 H locs hw hP hD hS => ?_)
    exact W.vret hx hb hr (fun t ht hW => ⟨⟨S_15, rfl, hw, by rw [ht]; exact hP, va_K.moved hW.alike hK, hD⟩, hS.F ht⟩) hS.2.2 dX12_laugh_44
def wM_fallNow_54 (post : MS → Prop) (x1 : Int32) (S : MS) : Prop := wM_own x1 0 S (fun r_1 S_2 => wM_lay x1 0 (r_1 + 1) S_2 (fun S_4 => wM_own x1 2 S_4 (fun r_5 S_6 => wM_cut (Int32.toInt64 (r_5 + 1)) 0 9999 S_6 (fun r_7 S_8 => wM_lay x1 2 r_7 S_8 (fun S_10 => post S_10)))))
def wM_fallNow_32 (post : MS → Prop) (x1 : Int32) (t0 : Int32) (S : MS) : Prop := wM_anew S (fun S_2 => ((t0 = 0 → wM_fallNow_54 post x1 S_2) ∧ (¬ (t0 = 0) → wM_own x1 1 S_2 (fun r_4 S_5 => wM_laugh r_4 x1 S_5 (fun S_7 => wM_fallNow_54 post x1 S_7)))))
def wM_fallNow (p1 : Int32) (p2 : Int32) (S : MS) (post : MS → Prop) : Prop := wM_comfortNow p1 p2 S (fun S_2 => wM_laughsOf p1 p2 S_2 (fun r_3 S_4 => ((r_3 ≤ (k_rem ((ms_a S_4) 8) 10) → wM_fallNow_32 post p1 0 S_4) ∧ (¬ (r_3 ≤ (k_rem ((ms_a S_4) 8) 10)) → wM_fallNow_32 post p1 1 S_4))))
set_option maxHeartbeats 4000000 in
set_option maxRecDepth 100000 in
theorem cM_fallNow (l : Launch) (D : va_G) (h : Nat → Nat) (cy : Nat → ClassId) (p1 : Int32) (p2 : Int32) (S : MS) (post : MS → Prop) (hw : wM_fallNow p1 p2 S post) : k_Mv l yX12_fallNow wsX12_fallNow { frames := 6, cells := 0, slots := 0, locals := 144 } D (tyM cy) (wM h cy) [.ref (h 31), .int p1, .int p2] S post := by
  intro sz
  refine Met.ofW (cc := cX12_fallNow) (maxL := 5) (ret := none) (by decide) rfl ?_
  intro p e s m args below meth c s₁ B hml hv
  obtain ⟨rfl, hsz, hP, hK, hD0⟩ := hv
  have hx := B.exec
  have hb := B.bytes
  have hr := B.returns
  have hts := atoms_spec (ws := wsX12_fallNow) B.pre
  have hown : s.vm.findClass RX12 = some m.cls := findClass_of_methodNamed B.named
  have hlocks := B.notSynchronized
  subst hsz
  have hD := hD0.self (sz := s.heap.size)
  generalize hAe : va_A (wM h cy S) s.heap.size = A at hD ⊢
  have hA : ∀ q : Nat, s.heap.size ≤ q → A q := fun q h => by rw [← hAe]; exact Or.inr h
  have hS : va_S A s.heap s.heap [] := va_S.rf
  have hin : ∀ w ∈ wsX120, w ∈ wsX12_fallNow := fun _ h => List.mem_cons_of_mem _ (List.mem_append_right _ h)
  have w7 := hts (.fieldLink RX12 7 "ClownsMournModel" "a" "[I") (List.mem_of_getElem? (i := 1) rfl)
  have hl := lv_entry ([.ref (h 31), .int p1, .int p2]) (n := 5) (Nat.le_of_ble_eq_true rfl)
  rw [lg_entry_eq]
  generalize (lg_sl ([.ref (h 31), .int p1, .int p2]) ++ List.replicate (5 - (lg_sl ([.ref (h 31), .int p1, .int p2])).length) Slot.unset).toArray = ls at hl ⊢
  have hl : lv_has ls 5 [(0, .ref (h 31)), (1, .int p1), (2, .int p2)] := hl
  unfold wM_fallNow at hw
  clear hD0
  have J_54 : ∀ (x1 : Int32) (S : MS) (H : Heap) (locs : List Loc) (ls : Array Slot), wM_fallNow_54 post x1 S → va_P D vwCl (wM h cy S) H → va_D A (wM h cy S) → va_S A s.heap H locs → lv_has ls 5 [(0, .ref (h 31)), (1, .int x1)] → W p l e (headSpec wsX12_fallNow { frames := 6, cells := 0, slots := 0, locals := 144 }).room s m (([.ref (h 31), .int p1, .int p2] : List Value).toArray) below meth c H locs 0 0 (MQ below (va_Qv post (k_Post D (tyM cy) (wM h cy) A) A) (([.ref (h 31), .int p1, .int p2] : List Value).toArray) s 0 0 A) (F0 m 54 ls []) := by
    intro x1 S H locs ls hw hP hD hS hl
    unfold wM_fallNow_54 at hw
    refine lv_aload_n hx hb dX12_fallNow_54 rfl (lv_at hl 0 rfl) ?_
    refine lv_iload_n hx hb dX12_fallNow_55 rfl (lv_at hl 1 rfl) ?_
    refine lv_iconst (v := 0) hx hb dX12_fallNow_56 (by decide) ?_
    refine lv_aload_n hx hb dX12_fallNow_57 rfl (lv_at hl 0 rfl) ?_
    refine lv_iload_n hx hb dX12_fallNow_58 rfl (lv_at hl 1 rfl) ?_
    refine lv_iconst (v := 0) hx hb dX12_fallNow_59 (by decide) ?_
    refine k_callVi (As := [.int x1, .int 0]) (rest := [.int 0, .int x1, .ref (h 31)]) ⟨hx, hb, hml, hown, hts⟩ (cM_own l D h cy _ _ _ _ hw) (cwV 2 hts gX12_fallNow_X12_own rfl rfl rfl (by decide +kernel) ⟨Nat.le_of_ble_eq_true rfl, Nat.le_of_ble_eq_true rfl⟩) (va_recv hK hP (ci := 11) (q0 := 0) rfl rfl) hK hP hD hS hA rfl hl.1 rfl (Nat.le_of_ble_eq_true rfl) dX12_fallNow_60 ⟨Nat.zero_le _, Nat.zero_le _⟩ (fun r_1 S_2 H locs hw hP hD hS => ?_)
    refine lv_iconst (v := 1) hx hb dX12_fallNow_63 (by decide) ?_
    refine lv_iadd hx hb dX12_fallNow_64 ?_
    refine k_callVv (As := [.int x1, .int 0, .int (r_1 + 1)]) (rest := []) ⟨hx, hb, hml, hown, hts⟩ (cM_lay l D h cy _ _ _ _ _ hw) (cwV 3 hts gX12_fallNow_X12_lay rfl rfl rfl (by decide +kernel) ⟨Nat.le_of_ble_eq_true rfl, Nat.le_of_ble_eq_true rfl⟩) (va_recv hK hP (ci := 11) (q0 := 0) rfl rfl) hK hP hD hS hA rfl hl.1 rfl (Nat.le_of_ble_eq_true rfl) dX12_fallNow_65 ⟨Nat.zero_le _, Nat.zero_le _⟩ (fun S_4 H locs hw hP hD hS => ?_)
    refine lv_aload_n hx hb dX12_fallNow_68 rfl (lv_at hl 0 rfl) ?_
    refine lv_iload_n hx hb dX12_fallNow_69 rfl (lv_at hl 1 rfl) ?_
    refine lv_iconst (v := 2) hx hb dX12_fallNow_70 (by decide) ?_
    refine lv_aload_n hx hb dX12_fallNow_71 rfl (lv_at hl 0 rfl) ?_
    refine lv_iload_n hx hb dX12_fallNow_72 rfl (lv_at hl 1 rfl) ?_
    refine lv_iconst (v := 2) hx hb dX12_fallNow_73 (by decide) ?_
    refine k_callVi (As := [.int x1, .int 2]) (rest := [.int 2, .int x1, .ref (h 31)]) ⟨hx, hb, hml, hown, hts⟩ (cM_own l D h cy _ _ _ _ hw) (cwV 2 hts gX12_fallNow_X12_own rfl rfl rfl (by decide +kernel) ⟨Nat.le_of_ble_eq_true rfl, Nat.le_of_ble_eq_true rfl⟩) (va_recv hK hP (ci := 11) (q0 := 0) rfl rfl) hK hP hD hS hA rfl hl.1 rfl (Nat.le_of_ble_eq_true rfl) dX12_fallNow_74 ⟨Nat.zero_le _, Nat.zero_le _⟩ (fun r_5 S_6 H locs hw hP hD hS => ?_)
    refine lv_iconst (v := 1) hx hb dX12_fallNow_77 (by decide) ?_
    refine lv_iadd hx hb dX12_fallNow_78 ?_
    refine lv_i2l (v := Int32.toInt64 (r_5 + 1)) hx hb dX12_fallNow_79 rfl ?_
    refine lv_iconst (v := 0) hx hb dX12_fallNow_80 (by decide) ?_
    refine lv_sipush (v := 9999) hx hb dX12_fallNow_81 (by decide) ?_
    refine k_callSi (As := [.long (Int32.toInt64 (r_5 + 1)), .int 0, .int 9999]) (rest := [.int 2, .int x1, .ref (h 31)]) ⟨hx, hb, hml, hown, hts⟩ (cM_cut l D h cy _ _ _ _ _ hw) (va_cwS 3 hts gX12_fallNow_X12_cut rfl rfl rfl (by decide +kernel) ⟨Nat.le_of_ble_eq_true rfl, Nat.le_of_ble_eq_true rfl⟩) hK hP hD hS hA rfl hl.1 rfl (Nat.le_of_ble_eq_true rfl) dX12_fallNow_84 ⟨Nat.zero_le _, Nat.zero_le _⟩ (fun r_7 S_8 H locs hw hP hD hS => ?_)
    refine k_callVv (As := [.int x1, .int 2, .int r_7]) (rest := []) ⟨hx, hb, hml, hown, hts⟩ (cM_lay l D h cy _ _ _ _ _ hw) (cwV 3 hts gX12_fallNow_X12_lay rfl rfl rfl (by decide +kernel) ⟨Nat.le_of_ble_eq_true rfl, Nat.le_of_ble_eq_true rfl⟩) (va_recv hK hP (ci := 11) (q0 := 0) rfl rfl) hK hP hD hS hA rfl hl.1 rfl (Nat.le_of_ble_eq_true rfl) dX12_fallNow_87 ⟨Nat.zero_le _, Nat.zero_le _⟩ (fun S_10 H locs hw hP hD hS => ?_)
    exact W.vret hx hb hr (fun t ht hW => ⟨⟨S_10, rfl, hw, by rw [ht]; exact hP, va_K.moved hW.alike hK, hD⟩, hS.F ht⟩) hS.2.2 dX12_fallNow_90
  have J_32 : ∀ (x1 : Int32) (t0 : Int32) (S : MS) (H : Heap) (locs : List Loc) (ls : Array Slot), wM_fallNow_32 post x1 t0 S → va_P D vwCl (wM h cy S) H → va_D A (wM h cy S) → va_S A s.heap H locs → lv_has ls 5 [(0, .ref (h 31)), (1, .int x1)] → W p l e (headSpec wsX12_fallNow { frames := 6, cells := 0, slots := 0, locals := 144 }).room s m (([.ref (h 31), .int p1, .int p2] : List Value).toArray) below meth c H locs 0 0 (MQ below (va_Qv post (k_Post D (tyM cy) (wM h cy) A) A) (([.ref (h 31), .int p1, .int p2] : List Value).toArray) s 0 0 A) (F0 m 32 ls [.int t0]) := by
    intro x1 t0 S H locs ls hw hP hD hS hl
    unfold wM_fallNow_32 at hw
    refine lv_istore (lv' := [(4, .int t0), (0, .ref (h 31)), (1, .int x1)]) hx hb dX12_fallNow_32 hl (by decide) rfl (fun ls hl => ?_)
    refine lv_aload_n hx hb dX12_fallNow_34 rfl (lv_at hl 1 rfl) ?_
    refine k_callVv (As := []) (rest := []) ⟨hx, hb, hml, hown, hts⟩ (cM_anew l D h cy _ _ hw) (cwV 0 hts gX12_fallNow_X12_anew rfl rfl rfl (by decide +kernel) ⟨Nat.le_of_ble_eq_true rfl, Nat.le_of_ble_eq_true rfl⟩) (va_recv hK hP (ci := 11) (q0 := 0) rfl rfl) hK hP hD hS hA rfl hl.1 rfl (Nat.le_of_ble_eq_true rfl) dX12_fallNow_35 ⟨Nat.zero_le _, Nat.zero_le _⟩ (fun S_12 H locs hw hP hD hS => ?_)
    refine lv_iload hx hb dX12_fallNow_38 (lv_at hl 0 rfl) ?_
    obtain ⟨hc_13t, hc_13f⟩ := hw
    refine lv_if_eq (tgt := 54) hx hb dX12_fallNow_40 (by decide) (fun c_13 => ?_) (fun c_13 => ?_)
    · have hw := hc_13t c_13
      clear hc_13t hc_13f
      exact J_54 x1 S_12 _ _ _ hw hP hD hS (lv_sub hl [1, 2] rfl)
    · have hw := hc_13f c_13
      clear hc_13t hc_13f
      refine lv_aload_n hx hb dX12_fallNow_43 rfl (lv_at hl 1 rfl) ?_
      refine lv_aload_n hx hb dX12_fallNow_44 rfl (lv_at hl 1 rfl) ?_
      refine lv_iload_n hx hb dX12_fallNow_45 rfl (lv_at hl 2 rfl) ?_
      refine lv_iconst (v := 1) hx hb dX12_fallNow_46 (by decide) ?_
      refine k_callVi (As := [.int x1, .int 1]) (rest := [.ref (h 31)]) ⟨hx, hb, hml, hown, hts⟩ (cM_own l D h cy _ _ _ _ hw) (cwV 2 hts gX12_fallNow_X12_own rfl rfl rfl (by decide +kernel) ⟨Nat.le_of_ble_eq_true rfl, Nat.le_of_ble_eq_true rfl⟩) (va_recv hK hP (ci := 11) (q0 := 0) rfl rfl) hK hP hD hS hA rfl hl.1 rfl (Nat.le_of_ble_eq_true rfl) dX12_fallNow_47 ⟨Nat.zero_le _, Nat.zero_le _⟩ (fun r_14 S_15 H locs hw hP hD hS => ?_)
      refine lv_iload_n hx hb dX12_fallNow_50 rfl (lv_at hl 2 rfl) ?_
      refine k_callVv (As := [.int r_14, .int x1]) (rest := []) ⟨hx, hb, hml, hown, hts⟩ (cM_laugh l D h cy _ _ _ _ hw) (cwV 2 hts gX12_fallNow_X12_laugh rfl rfl rfl (by decide +kernel) ⟨Nat.le_of_ble_eq_true rfl, Nat.le_of_ble_eq_true rfl⟩) (va_recv hK hP (ci := 11) (q0 := 0) rfl rfl) hK hP hD hS hA rfl hl.1 rfl (Nat.le_of_ble_eq_true rfl) dX12_fallNow_51 ⟨Nat.zero_le _, Nat.zero_le _⟩ (fun S_17 H locs hw hP hD hS => ?_)
      exact J_54 x1 S_17 _ _ _ hw hP hD hS (lv_sub hl [1, 2] rfl)
  refine lv_aload_n hx hb dX12_fallNow_0 rfl (lv_at hl 0 rfl) ?_
  refine lv_iload_n hx hb dX12_fallNow_1 rfl (lv_at hl 1 rfl) ?_
  refine lv_iload_n hx hb dX12_fallNow_2 rfl (lv_at hl 2 rfl) ?_
  refine k_callVv (As := [.int p1, .int p2]) (rest := []) ⟨hx, hb, hml, hown, hts⟩ (cM_comfortNow l D h cy _ _ _ _ hw) (cwV 2 hts gX12_fallNow_X12_comfortNow rfl rfl rfl (by decide +kernel) ⟨Nat.le_of_ble_eq_true rfl, Nat.le_of_ble_eq_true rfl⟩) (va_recv hK hP (ci := 11) (q0 := 0) rfl rfl) hK hP hD hS hA rfl hl.1 rfl (Nat.le_of_ble_eq_true rfl) dX12_fallNow_3 ⟨Nat.zero_le _, Nat.zero_le _⟩ (fun S_19 H locs hw hP hD hS => ?_)
  refine lv_aload_n hx hb dX12_fallNow_6 rfl (lv_at hl 0 rfl) ?_
  refine lv_iload_n hx hb dX12_fallNow_7 rfl (lv_at hl 1 rfl) ?_
  refine lv_iload_n hx hb dX12_fallNow_8 rfl (lv_at hl 2 rfl) ?_
  refine k_callVi (As := [.int p1, .int p2]) (rest := []) ⟨hx, hb, hml, hown, hts⟩ (cM_laughsOf l D h cy _ _ _ _ hw) (cwV 2 hts gX12_fallNow_X12_laughsOf rfl rfl rfl (by decide +kernel) ⟨Nat.le_of_ble_eq_true rfl, Nat.le_of_ble_eq_true rfl⟩) (va_recv hK hP (ci := 11) (q0 := 0) rfl rfl) hK hP hD hS hA rfl hl.1 rfl (Nat.le_of_ble_eq_true rfl) dX12_fallNow_9 ⟨Nat.zero_le _, Nat.zero_le _⟩ (fun r_20 S_21 H locs hw hP hD hS => ?_)
  refine lv_istore_n (lv' := [(3, .int r_20), (0, .ref (h 31)), (1, .int p1), (2, .int p2)]) hx hb dX12_fallNow_12 rfl hl (by decide) rfl (fun ls hl => ?_)
  refine lv_aload_n hx hb dX12_fallNow_13 rfl (lv_at hl 1 rfl) ?_
  refine va_get (D := D) (ci := 11) (v := .ref (h 0)) (C := RX12) (T := TX12) (N := 31) hx hb hts hin hown hK hP 0 rfl rfl 0 (by decide) w7 (fun _ h9 => h9) rfl dX12_fallNow_14 ?_
  refine lv_bipush (v := 8) hx hb dX12_fallNow_17 (by decide) ?_
  refine k_iald (f := (ms_a S_21)) (j := 8) hx hb hK hP 1 0 rfl rfl (by decide +kernel) rfl dX12_fallNow_19 ?_
  refine lv_bipush (v := 10) hx hb dX12_fallNow_20 (by decide) ?_
  refine k_irem hx hb dX12_fallNow_22 (by decide) ?_
  refine lv_iload_n hx hb dX12_fallNow_23 rfl (lv_at hl 0 rfl) ?_
  obtain ⟨hc_22t, hc_22f⟩ := hw
  refine lv_icmp_ge (tgt := 31) hx hb dX12_fallNow_24 (by decide) (fun c_22 => ?_) (fun c_22 => ?_)
  · have hw := hc_22t c_22
    clear hc_22t hc_22f
    refine lv_iconst (v := 0) hx hb dX12_fallNow_31 (by decide) ?_
    exact J_32 p1 0 S_21 _ _ _ hw hP hD hS (lv_sub hl [1, 2] rfl)
  · have hw := hc_22f c_22
    clear hc_22t hc_22f
    refine lv_iconst (v := 1) hx hb dX12_fallNow_27 (by decide) ?_
    refine lv_goto (tgt := 32) hx hb dX12_fallNow_28 (by decide) ?_
    exact J_32 p1 1 S_21 _ _ _ hw hP hD hS (lv_sub hl [1, 2] rfl)
def wM_pass_85 (post : MS → Prop) (K51 : Int32 → MS → Prop) (x1 : Int32) (t1 : Int32) (t2 : Int32) (t3 : Int32) (t4 : Int32) (S : MS) : Prop := wM_cut (Int32.toInt64 (t3 - t4)) 0 9 S (fun r_1 S_2 => wM_lay t1 t2 r_1 S_2 (fun S_4 => K51 (x1 + 1) S_4))
def wM_pass_51 (post : MS → Prop) : Nat → Int32 → MS → Prop
  | 0, _, _ => False
  | n + 1, x1, S => ((((ms_a S) 1) ≤ x1 → (∀ S_2 : MS, S_2 = (ms_set_a S (upd (ms_a S) 7 (((ms_a S) 7) + 1))) → post S_2)) ∧ (¬ (((ms_a S) 1) ≤ x1) → wM_own x1 0 S (fun r_3 S_4 => wM_own x1 1 S_4 (fun r_5 S_6 => ((r_5 = (-1) → wM_pass_85 post (wM_pass_51 post n) x1 x1 0 r_3 3 S_6) ∧ (¬ (r_5 = (-1)) → wM_pass_85 post (wM_pass_51 post n) x1 x1 0 r_3 1 S_6))))))
def wM_pass_2 (post : MS → Prop) : Nat → Int32 → MS → Prop
  | 0, _, _ => False
  | n + 1, x1, S => ((((ms_a S) 0) ≤ x1 → ∃ k_ : Nat, wM_pass_51 post k_ 0 S) ∧ (¬ (((ms_a S) 0) ≤ x1) → wM_get x1 0 S (fun r_2 S_3 => wM_growsOf ((ms_a S_3) 3) x1 S_3 (fun r_4 S_5 => wM_cut (Int32.toInt64 (r_2 + r_4)) 0 99 S_5 (fun r_6 S_7 => wM_put x1 0 r_6 S_7 (fun S_9 => wM_pass_2 post n (x1 + 1) S_9))))))
def wM_pass (S : MS) (post : MS → Prop) : Prop := ∃ k_ : Nat, wM_pass_2 post k_ 0 S
set_option maxHeartbeats 4000000 in
set_option maxRecDepth 100000 in
theorem cM_pass (l : Launch) (D : va_G) (h : Nat → Nat) (cy : Nat → ClassId) (S : MS) (post : MS → Prop) (hw : wM_pass S post) : k_Mv l yX12_pass wsX12_pass { frames := 5, cells := 0, slots := 0, locals := 121 } D (tyM cy) (wM h cy) [.ref (h 31)] S post := by
  intro sz
  refine Met.ofW (cc := cX12_pass) (maxL := 2) (ret := none) (by decide) rfl ?_
  intro p e s m args below meth c s₁ B hml hv
  obtain ⟨rfl, hsz, hP, hK, hD0⟩ := hv
  have hx := B.exec
  have hb := B.bytes
  have hr := B.returns
  have hts := atoms_spec (ws := wsX12_pass) B.pre
  have hown : s.vm.findClass RX12 = some m.cls := findClass_of_methodNamed B.named
  have hlocks := B.notSynchronized
  subst hsz
  have hD := hD0.self (sz := s.heap.size)
  generalize hAe : va_A (wM h cy S) s.heap.size = A at hD ⊢
  have hA : ∀ q : Nat, s.heap.size ≤ q → A q := fun q h => by rw [← hAe]; exact Or.inr h
  have hS : va_S A s.heap s.heap [] := va_S.rf
  have hin : ∀ w ∈ wsX120, w ∈ wsX12_pass := fun _ h => List.mem_cons_of_mem _ (List.mem_append_right _ h)
  have w7 := hts (.fieldLink RX12 7 "ClownsMournModel" "a" "[I") (List.mem_of_getElem? (i := 1) rfl)
  have hl := lv_entry ([.ref (h 31)]) (n := 2) (Nat.le_of_ble_eq_true rfl)
  rw [lg_entry_eq]
  generalize (lg_sl ([.ref (h 31)]) ++ List.replicate (2 - (lg_sl ([.ref (h 31)])).length) Slot.unset).toArray = ls at hl ⊢
  have hl : lv_has ls 2 [(0, .ref (h 31))] := hl
  unfold wM_pass at hw
  clear hD0
  have L_51 : ∀ (n51 : Nat) (x1 : Int32) (S : MS) (H : Heap) (locs : List Loc) (ls : Array Slot), wM_pass_51 post n51 x1 S → va_P D vwCl (wM h cy S) H → va_D A (wM h cy S) → va_S A s.heap H locs → lv_has ls 2 [(0, .ref (h 31)), (1, .int x1)] → W p l e (headSpec wsX12_pass { frames := 5, cells := 0, slots := 0, locals := 121 }).room s m (([.ref (h 31)] : List Value).toArray) below meth c H locs 0 0 (MQ below (va_Qv post (k_Post D (tyM cy) (wM h cy) A) A) (([.ref (h 31)] : List Value).toArray) s 0 0 A) (F0 m 51 ls []) := by
    intro n51
    induction n51 with
    | zero => intro x1 S H locs ls hw; exact False.elim hw
    | succ n51 ih_51 =>
      have J_85 : ∀ (x1 : Int32) (t1 : Int32) (t2 : Int32) (t3 : Int32) (t4 : Int32) (S : MS) (H : Heap) (locs : List Loc) (ls : Array Slot), wM_pass_85 post (wM_pass_51 post n51) x1 t1 t2 t3 t4 S → va_P D vwCl (wM h cy S) H → va_D A (wM h cy S) → va_S A s.heap H locs → lv_has ls 2 [(0, .ref (h 31)), (1, .int x1)] → W p l e (headSpec wsX12_pass { frames := 5, cells := 0, slots := 0, locals := 121 }).room s m (([.ref (h 31)] : List Value).toArray) below meth c H locs 0 0 (MQ below (va_Qv post (k_Post D (tyM cy) (wM h cy) A) A) (([.ref (h 31)] : List Value).toArray) s 0 0 A) (F0 m 85 ls [.int t4, .int t3, .int t2, .int t1, .ref (h 31)]) := by
        intro x1 t1 t2 t3 t4 S H locs ls hw hP hD hS hl
        unfold wM_pass_85 at hw
        refine lv_isub hx hb dX12_pass_85 ?_
        refine lv_i2l (v := Int32.toInt64 (t3 - t4)) hx hb dX12_pass_86 rfl ?_
        refine lv_iconst (v := 0) hx hb dX12_pass_87 (by decide) ?_
        refine lv_bipush (v := 9) hx hb dX12_pass_88 (by decide) ?_
        refine k_callSi (As := [.long (Int32.toInt64 (t3 - t4)), .int 0, .int 9]) (rest := [.int t2, .int t1, .ref (h 31)]) ⟨hx, hb, hml, hown, hts⟩ (cM_cut l D h cy _ _ _ _ _ hw) (va_cwS 3 hts gX12_pass_X12_cut rfl rfl rfl (by decide +kernel) ⟨Nat.le_of_ble_eq_true rfl, Nat.le_of_ble_eq_true rfl⟩) hK hP hD hS hA rfl hl.1 rfl (Nat.le_of_ble_eq_true rfl) dX12_pass_90 ⟨Nat.zero_le _, Nat.zero_le _⟩ (fun r_1 S_2 H locs hw hP hD hS => ?_)
        refine k_callVv (As := [.int t1, .int t2, .int r_1]) (rest := []) ⟨hx, hb, hml, hown, hts⟩ (cM_lay l D h cy _ _ _ _ _ hw) (cwV 3 hts gX12_pass_X12_lay rfl rfl rfl (by decide +kernel) ⟨Nat.le_of_ble_eq_true rfl, Nat.le_of_ble_eq_true rfl⟩) (va_recv hK hP (ci := 11) (q0 := 0) rfl rfl) hK hP hD hS hA rfl hl.1 rfl (Nat.le_of_ble_eq_true rfl) dX12_pass_93 ⟨Nat.zero_le _, Nat.zero_le _⟩ (fun S_4 H locs hw hP hD hS => ?_)
        refine lv_iinc (v := x1 + 1) (lv' := [(1, .int (x1 + 1)), (0, .ref (h 31))]) hx hb dX12_pass_96 hl (k := 1) rfl (k_inc (by decide)) (by decide) rfl (fun ls hl => ?_)
        refine lv_goto (tgt := 51) hx hb dX12_pass_99 (by decide) ?_
        exact ih_51 (x1 + 1) S_4 _ _ _ hw hP hD hS (lv_sub hl [1, 0] rfl)
      intro x1 S H locs ls hw hP hD hS hl
      unfold wM_pass_51 at hw
      refine lv_iload_n hx hb dX12_pass_51 rfl (lv_at hl 1 rfl) ?_
      refine lv_aload_n hx hb dX12_pass_52 rfl (lv_at hl 0 rfl) ?_
      refine va_get (D := D) (ci := 11) (v := .ref (h 0)) (C := RX12) (T := TX12) (N := 31) hx hb hts hin hown hK hP 0 rfl rfl 0 (by decide) w7 (fun _ h9 => h9) rfl dX12_pass_53 ?_
      refine lv_iconst (v := 1) hx hb dX12_pass_56 (by decide) ?_
      refine k_iald (f := (ms_a S)) (j := 1) hx hb hK hP 1 0 rfl rfl (by decide +kernel) rfl dX12_pass_57 ?_
      obtain ⟨hc_5t, hc_5f⟩ := hw
      refine lv_icmp_ge (tgt := 102) hx hb dX12_pass_58 (by decide) (fun c_5 => ?_) (fun c_5 => ?_)
      · have hw := hc_5t c_5
        clear hc_5t hc_5f
        refine lv_aload_n hx hb dX12_pass_102 rfl (lv_at hl 0 rfl) ?_
        refine va_get (D := D) (ci := 11) (v := .ref (h 0)) (C := RX12) (T := TX12) (N := 31) hx hb hts hin hown hK hP 0 rfl rfl 0 (by decide) w7 (fun _ h9 => h9) rfl dX12_pass_103 ?_
        refine lv_bipush (v := 7) hx hb dX12_pass_106 (by decide) ?_
        refine lv_dup2_11 hx hb dX12_pass_108 rfl rfl ?_
        refine k_iald (f := (ms_a S)) (j := 7) hx hb hK hP 1 0 rfl rfl (by decide +kernel) rfl dX12_pass_109 ?_
        refine lv_iconst (v := 1) hx hb dX12_pass_110 (by decide) ?_
        refine lv_iadd hx hb dX12_pass_111 ?_
        refine k_iast (f := (ms_a S)) (j := 7) hx hb hK hP hD hS 1 0 rfl rfl (by decide +kernel) rfl dX12_pass_112 (fun H locs hP hD hS => ?_)
        obtain ⟨S_6, eS_6⟩ : ∃ z : MS, z = (ms_set_a S (upd (ms_a S) 7 (((ms_a S) 7) + 1))) := ⟨_, rfl⟩
        have hw := hw S_6 eS_6
        have hP : va_P D vwCl (wM h cy S_6) H := by rw [eS_6, ← wMs_a]; exact hP
        have hD : va_D A (wM h cy S_6) := by rw [eS_6, ← wMs_a]; exact hD
        exact W.vret hx hb hr (fun t ht hW => ⟨⟨S_6, rfl, hw, by rw [ht]; exact hP, va_K.moved hW.alike hK, hD⟩, hS.F ht⟩) hS.2.2 dX12_pass_113
      · have hw := hc_5f c_5
        clear hc_5t hc_5f
        refine lv_aload_n hx hb dX12_pass_61 rfl (lv_at hl 0 rfl) ?_
        refine lv_iload_n hx hb dX12_pass_62 rfl (lv_at hl 1 rfl) ?_
        refine lv_iconst (v := 0) hx hb dX12_pass_63 (by decide) ?_
        refine lv_aload_n hx hb dX12_pass_64 rfl (lv_at hl 0 rfl) ?_
        refine lv_iload_n hx hb dX12_pass_65 rfl (lv_at hl 1 rfl) ?_
        refine lv_iconst (v := 0) hx hb dX12_pass_66 (by decide) ?_
        refine k_callVi (As := [.int x1, .int 0]) (rest := [.int 0, .int x1, .ref (h 31)]) ⟨hx, hb, hml, hown, hts⟩ (cM_own l D h cy _ _ _ _ hw) (cwV 2 hts gX12_pass_X12_own rfl rfl rfl (by decide +kernel) ⟨Nat.le_of_ble_eq_true rfl, Nat.le_of_ble_eq_true rfl⟩) (va_recv hK hP (ci := 11) (q0 := 0) rfl rfl) hK hP hD hS hA rfl hl.1 rfl (Nat.le_of_ble_eq_true rfl) dX12_pass_67 ⟨Nat.zero_le _, Nat.zero_le _⟩ (fun r_7 S_8 H locs hw hP hD hS => ?_)
        refine lv_aload_n hx hb dX12_pass_70 rfl (lv_at hl 0 rfl) ?_
        refine lv_iload_n hx hb dX12_pass_71 rfl (lv_at hl 1 rfl) ?_
        refine lv_iconst (v := 1) hx hb dX12_pass_72 (by decide) ?_
        refine k_callVi (As := [.int x1, .int 1]) (rest := [.int r_7, .int 0, .int x1, .ref (h 31)]) ⟨hx, hb, hml, hown, hts⟩ (cM_own l D h cy _ _ _ _ hw) (cwV 2 hts gX12_pass_X12_own rfl rfl rfl (by decide +kernel) ⟨Nat.le_of_ble_eq_true rfl, Nat.le_of_ble_eq_true rfl⟩) (va_recv hK hP (ci := 11) (q0 := 0) rfl rfl) hK hP hD hS hA rfl hl.1 rfl (Nat.le_of_ble_eq_true rfl) dX12_pass_73 ⟨Nat.zero_le _, Nat.zero_le _⟩ (fun r_9 S_10 H locs hw hP hD hS => ?_)
        refine lv_iconst (v := (-1)) hx hb dX12_pass_76 (by decide) ?_
        obtain ⟨hc_11t, hc_11f⟩ := hw
        refine lv_icmp_ne (tgt := 84) hx hb dX12_pass_77 (by decide) (fun c_11 => ?_) (fun c_11 => ?_)
        · have hw := hc_11f c_11
          clear hc_11t hc_11f
          refine lv_iconst (v := 1) hx hb dX12_pass_84 (by decide) ?_
          exact J_85 x1 x1 0 r_7 1 S_10 _ _ _ hw hP hD hS (lv_sub hl [0, 1] rfl)
        · have hw := hc_11t c_11
          clear hc_11t hc_11f
          refine lv_iconst (v := 3) hx hb dX12_pass_80 (by decide) ?_
          refine lv_goto (tgt := 85) hx hb dX12_pass_81 (by decide) ?_
          exact J_85 x1 x1 0 r_7 3 S_10 _ _ _ hw hP hD hS (lv_sub hl [0, 1] rfl)
  have L_2 : ∀ (n2 : Nat) (x1 : Int32) (S : MS) (H : Heap) (locs : List Loc) (ls : Array Slot), wM_pass_2 post n2 x1 S → va_P D vwCl (wM h cy S) H → va_D A (wM h cy S) → va_S A s.heap H locs → lv_has ls 2 [(0, .ref (h 31)), (1, .int x1)] → W p l e (headSpec wsX12_pass { frames := 5, cells := 0, slots := 0, locals := 121 }).room s m (([.ref (h 31)] : List Value).toArray) below meth c H locs 0 0 (MQ below (va_Qv post (k_Post D (tyM cy) (wM h cy) A) A) (([.ref (h 31)] : List Value).toArray) s 0 0 A) (F0 m 2 ls []) := by
    intro n2
    induction n2 with
    | zero => intro x1 S H locs ls hw; exact False.elim hw
    | succ n2 ih_2 =>
      intro x1 S H locs ls hw hP hD hS hl
      unfold wM_pass_2 at hw
      refine lv_iload_n hx hb dX12_pass_2 rfl (lv_at hl 1 rfl) ?_
      refine lv_aload_n hx hb dX12_pass_3 rfl (lv_at hl 0 rfl) ?_
      refine va_get (D := D) (ci := 11) (v := .ref (h 0)) (C := RX12) (T := TX12) (N := 31) hx hb hts hin hown hK hP 0 rfl rfl 0 (by decide) w7 (fun _ h9 => h9) rfl dX12_pass_4 ?_
      refine lv_iconst (v := 0) hx hb dX12_pass_7 (by decide) ?_
      refine k_iald (f := (ms_a S)) (j := 0) hx hb hK hP 1 0 rfl rfl (by decide +kernel) rfl dX12_pass_8 ?_
      obtain ⟨hc_12t, hc_12f⟩ := hw
      refine lv_icmp_ge (tgt := 49) hx hb dX12_pass_9 (by decide) (fun c_12 => ?_) (fun c_12 => ?_)
      · have hw := hc_12t c_12
        clear hc_12t hc_12f
        refine lv_iconst (v := 0) hx hb dX12_pass_49 (by decide) ?_
        refine lv_istore_n (lv' := [(1, .int 0), (0, .ref (h 31))]) hx hb dX12_pass_50 rfl hl (by decide) rfl (fun ls hl => ?_)
        obtain ⟨n_51, hw⟩ := hw
        exact L_51 n_51 0 S _ _ _ hw hP hD hS (lv_sub hl [1, 0] rfl)
      · have hw := hc_12f c_12
        clear hc_12t hc_12f
        refine lv_aload_n hx hb dX12_pass_12 rfl (lv_at hl 0 rfl) ?_
        refine lv_iload_n hx hb dX12_pass_13 rfl (lv_at hl 1 rfl) ?_
        refine lv_iconst (v := 0) hx hb dX12_pass_14 (by decide) ?_
        refine lv_aload_n hx hb dX12_pass_15 rfl (lv_at hl 0 rfl) ?_
        refine lv_iload_n hx hb dX12_pass_16 rfl (lv_at hl 1 rfl) ?_
        refine lv_iconst (v := 0) hx hb dX12_pass_17 (by decide) ?_
        refine k_callVi (As := [.int x1, .int 0]) (rest := [.int 0, .int x1, .ref (h 31)]) ⟨hx, hb, hml, hown, hts⟩ (cM_get l D h cy _ _ _ _ hw) (cwV 2 hts gX12_pass_X12_get rfl rfl rfl (by decide +kernel) ⟨Nat.le_of_ble_eq_true rfl, Nat.le_of_ble_eq_true rfl⟩) (va_recv hK hP (ci := 11) (q0 := 0) rfl rfl) hK hP hD hS hA rfl hl.1 rfl (Nat.le_of_ble_eq_true rfl) dX12_pass_18 ⟨Nat.zero_le _, Nat.zero_le _⟩ (fun r_13 S_14 H locs hw hP hD hS => ?_)
        refine lv_aload_n hx hb dX12_pass_21 rfl (lv_at hl 0 rfl) ?_
        refine lv_aload_n hx hb dX12_pass_22 rfl (lv_at hl 0 rfl) ?_
        refine va_get (D := D) (ci := 11) (v := .ref (h 0)) (C := RX12) (T := TX12) (N := 31) hx hb hts hin hown hK hP 0 rfl rfl 0 (by decide) w7 (fun _ h9 => h9) rfl dX12_pass_23 ?_
        refine lv_iconst (v := 3) hx hb dX12_pass_26 (by decide) ?_
        refine k_iald (f := (ms_a S_14)) (j := 3) hx hb hK hP 1 0 rfl rfl (by decide +kernel) rfl dX12_pass_27 ?_
        refine lv_iload_n hx hb dX12_pass_28 rfl (lv_at hl 1 rfl) ?_
        refine k_callVi (As := [.int ((ms_a S_14) 3), .int x1]) (rest := [.int r_13, .int 0, .int x1, .ref (h 31)]) ⟨hx, hb, hml, hown, hts⟩ (cM_growsOf l D h cy _ _ _ _ hw) (cwV 2 hts gX12_pass_X12_growsOf rfl rfl rfl (by decide +kernel) ⟨Nat.le_of_ble_eq_true rfl, Nat.le_of_ble_eq_true rfl⟩) (va_recv hK hP (ci := 11) (q0 := 0) rfl rfl) hK hP hD hS hA rfl hl.1 rfl (Nat.le_of_ble_eq_true rfl) dX12_pass_29 ⟨Nat.zero_le _, Nat.zero_le _⟩ (fun r_15 S_16 H locs hw hP hD hS => ?_)
        refine lv_iadd hx hb dX12_pass_32 ?_
        refine lv_i2l (v := Int32.toInt64 (r_13 + r_15)) hx hb dX12_pass_33 rfl ?_
        refine lv_iconst (v := 0) hx hb dX12_pass_34 (by decide) ?_
        refine lv_bipush (v := 99) hx hb dX12_pass_35 (by decide) ?_
        refine k_callSi (As := [.long (Int32.toInt64 (r_13 + r_15)), .int 0, .int 99]) (rest := [.int 0, .int x1, .ref (h 31)]) ⟨hx, hb, hml, hown, hts⟩ (cM_cut l D h cy _ _ _ _ _ hw) (va_cwS 3 hts gX12_pass_X12_cut rfl rfl rfl (by decide +kernel) ⟨Nat.le_of_ble_eq_true rfl, Nat.le_of_ble_eq_true rfl⟩) hK hP hD hS hA rfl hl.1 rfl (Nat.le_of_ble_eq_true rfl) dX12_pass_37 ⟨Nat.zero_le _, Nat.zero_le _⟩ (fun r_17 S_18 H locs hw hP hD hS => ?_)
        refine k_callVv (As := [.int x1, .int 0, .int r_17]) (rest := []) ⟨hx, hb, hml, hown, hts⟩ (cM_put l D h cy _ _ _ _ _ hw) (cwV 3 hts gX12_pass_X12_put rfl rfl rfl (by decide +kernel) ⟨Nat.le_of_ble_eq_true rfl, Nat.le_of_ble_eq_true rfl⟩) (va_recv hK hP (ci := 11) (q0 := 0) rfl rfl) hK hP hD hS hA rfl hl.1 rfl (Nat.le_of_ble_eq_true rfl) dX12_pass_40 ⟨Nat.zero_le _, Nat.zero_le _⟩ (fun S_20 H locs hw hP hD hS => ?_)
        refine lv_iinc (v := x1 + 1) (lv' := [(1, .int (x1 + 1)), (0, .ref (h 31))]) hx hb dX12_pass_43 hl (k := 1) rfl (k_inc (by decide)) (by decide) rfl (fun ls hl => ?_)
        refine lv_goto (tgt := 2) hx hb dX12_pass_46 (by decide) ?_
        exact ih_2 (x1 + 1) S_20 _ _ _ hw hP hD hS (lv_sub hl [1, 0] rfl)
  refine lv_iconst (v := 0) hx hb dX12_pass_0 (by decide) ?_
  refine lv_istore_n (lv' := [(1, .int 0), (0, .ref (h 31))]) hx hb dX12_pass_1 rfl hl (by decide) rfl (fun ls hl => ?_)
  obtain ⟨n_2, hw⟩ := hw
  exact L_2 n_2 0 S _ _ _ hw hP hD hS (lv_sub hl [1, 0] rfl)
def wM_keep_224 (post : MS → Prop) : Nat → Int32 → Int32 → MS → Prop
  | 0, _, _, _ => False
  | n + 1, x1, x2, S => ((30 ≤ x2 → (∀ S_2 : MS, S_2 = (ms_set_a S (upd (ms_a S) 4 (((ms_a S) 4) + 1))) → post S_2)) ∧ (¬ (30 ≤ x2) → (vp_in (2424 + x2) 2454 ∧ (vp_in ((x1 + 44) + x2) 2454 ∧ ∀ S_3 : MS, S_3 = (ms_set_a S (upd (ms_a S) (((x1 + 44) + x2).toNatClampNeg) ((ms_a S) (2424 + x2).toNatClampNeg))) → wM_keep_224 post n x1 (x2 + 1) S_3))))
def wM_keep_184 (post : MS → Prop) (K177 : Int32 → Int32 → MS → Prop) : Nat → Int32 → Int32 → Int32 → MS → Prop
  | 0, _, _, _, _ => False
  | n + 1, x1, x2, x3, S => ((3 ≤ x3 → K177 x1 (x2 + 1) S) ∧ (¬ (3 ≤ x3) → wM_own x2 x3 S (fun r_2 S_3 => (vp_in (((x1 + 29) + (3 * x2)) + x3) 2454 ∧ ∀ S_4 : MS, S_4 = (ms_set_a S_3 (upd (ms_a S_3) ((((x1 + 29) + (3 * x2)) + x3).toNatClampNeg) r_2)) → wM_keep_184 post K177 n x1 x2 (x3 + 1) S_4))))
def wM_keep_177 (post : MS → Prop) : Nat → Int32 → Int32 → MS → Prop
  | 0, _, _, _ => False
  | n + 1, x1, x2, S => ((5 ≤ x2 → ∃ k_ : Nat, wM_keep_224 post k_ x1 0 S) ∧ (¬ (5 ≤ x2) → ∃ k_ : Nat, wM_keep_184 post (wM_keep_177 post n) k_ x1 x2 0 S))
def wM_keep_138 (post : MS → Prop) (K130 : Int32 → Int32 → MS → Prop) : Nat → Int32 → Int32 → Int32 → MS → Prop
  | 0, _, _, _, _ => False
  | n + 1, x1, x2, x3, S => ((4 ≤ x3 → K130 x1 (x2 + 1) S) ∧ (¬ (4 ≤ x3) → wM_get x2 x3 S (fun r_2 S_3 => (vp_in (((x1 + 5) + (4 * x2)) + x3) 2454 ∧ ∀ S_4 : MS, S_4 = (ms_set_a S_3 (upd (ms_a S_3) ((((x1 + 5) + (4 * x2)) + x3).toNatClampNeg) r_2)) → wM_keep_138 post K130 n x1 x2 (x3 + 1) S_4))))
def wM_keep_130 (post : MS → Prop) : Nat → Int32 → Int32 → MS → Prop
  | 0, _, _, _ => False
  | n + 1, x1, x2, S => ((6 ≤ x2 → ∃ k_ : Nat, wM_keep_177 post k_ x1 0 S) ∧ (¬ (6 ≤ x2) → ∃ k_ : Nat, wM_keep_138 post (wM_keep_130 post n) k_ x1 x2 0 S))
def wM_keep_98 (post : MS → Prop) : Nat → Int32 → Int32 → MS → Prop
  | 0, _, _, _ => False
  | n + 1, x1, x2, S => ((3 ≤ x2 → ∃ k_ : Nat, wM_keep_130 post k_ x1 0 S) ∧ (¬ (3 ≤ x2) → (vp_in (7 + x2) 2454 ∧ (vp_in ((x1 + 2) + x2) 2454 ∧ ∀ S_2 : MS, S_2 = (ms_set_a S (upd (ms_a S) (((x1 + 2) + x2).toNatClampNeg) ((ms_a S) (7 + x2).toNatClampNeg))) → wM_keep_98 post n x1 (x2 + 1) S_2))))
def wM_keep_56 (post : MS → Prop) (S : MS) : Prop := (vp_in (204 + (74 * ((ms_a S) 4))) 2454 ∧ ∀ S_1 : MS, S_1 = (ms_set_a S (upd (ms_a S) ((204 + (74 * ((ms_a S) 4))).toNatClampNeg) ((ms_a S) 0))) → (vp_in ((204 + (74 * ((ms_a S) 4))) + 1) 2454 ∧ ∀ S_2 : MS, S_2 = (ms_set_a S_1 (upd (ms_a S_1) (((204 + (74 * ((ms_a S) 4))) + 1).toNatClampNeg) ((ms_a S_1) 1))) → ∃ k_ : Nat, wM_keep_98 post k_ (204 + (74 * ((ms_a S) 4))) 0 S_2))
def wM_keep_13 (post : MS → Prop) : Nat → Int32 → MS → Prop
  | 0, _, _ => False
  | n + 1, x1, S => ((2146 ≤ x1 → (∀ S_2 : MS, S_2 = (ms_set_a S (upd (ms_a S) 4 (((ms_a S) 4) - 1))) → wM_keep_56 post S_2)) ∧ (¬ (2146 ≤ x1) → (vp_in (278 + x1) 2454 ∧ (vp_in (204 + x1) 2454 ∧ ∀ S_3 : MS, S_3 = (ms_set_a S (upd (ms_a S) ((204 + x1).toNatClampNeg) ((ms_a S) (278 + x1).toNatClampNeg))) → wM_keep_13 post n (x1 + 1) S_3))))
def wM_keep (S : MS) (post : MS → Prop) : Prop := ((((ms_a S) 4) = 30 → ∃ k_ : Nat, wM_keep_13 post k_ 0 S) ∧ (¬ (((ms_a S) 4) = 30) → wM_keep_56 post S))
set_option maxHeartbeats 4000000 in
set_option maxRecDepth 100000 in
theorem cM_keep (l : Launch) (D : va_G) (h : Nat → Nat) (cy : Nat → ClassId) (S : MS) (post : MS → Prop) (hw : wM_keep S post) : k_Mv l yX12_keep wsX12_keep { frames := 1, cells := 0, slots := 0, locals := 22 } D (tyM cy) (wM h cy) [.ref (h 31)] S post := by
  intro sz
  refine Met.ofW (cc := cX12_keep) (maxL := 4) (ret := none) (by decide) rfl ?_
  intro p e s m args below meth c s₁ B hml hv
  obtain ⟨rfl, hsz, hP, hK, hD0⟩ := hv
  have hx := B.exec
  have hb := B.bytes
  have hr := B.returns
  have hts := atoms_spec (ws := wsX12_keep) B.pre
  have hown : s.vm.findClass RX12 = some m.cls := findClass_of_methodNamed B.named
  have hlocks := B.notSynchronized
  subst hsz
  have hD := hD0.self (sz := s.heap.size)
  generalize hAe : va_A (wM h cy S) s.heap.size = A at hD ⊢
  have hA : ∀ q : Nat, s.heap.size ≤ q → A q := fun q h => by rw [← hAe]; exact Or.inr h
  have hS : va_S A s.heap s.heap [] := va_S.rf
  have hin : ∀ w ∈ wsX120, w ∈ wsX12_keep := fun _ h => List.mem_cons_of_mem _ (List.mem_append_right _ h)
  have w7 := hts (.fieldLink RX12 7 "ClownsMournModel" "a" "[I") (List.mem_of_getElem? (i := 1) rfl)
  have hl := lv_entry ([.ref (h 31)]) (n := 4) (Nat.le_of_ble_eq_true rfl)
  rw [lg_entry_eq]
  generalize (lg_sl ([.ref (h 31)]) ++ List.replicate (4 - (lg_sl ([.ref (h 31)])).length) Slot.unset).toArray = ls at hl ⊢
  have hl : lv_has ls 4 [(0, .ref (h 31))] := hl
  unfold wM_keep at hw
  clear hD0
  have L_224 : ∀ (n224 : Nat) (x1 : Int32) (x2 : Int32) (S : MS) (H : Heap) (locs : List Loc) (ls : Array Slot), wM_keep_224 post n224 x1 x2 S → va_P D vwCl (wM h cy S) H → va_D A (wM h cy S) → va_S A s.heap H locs → lv_has ls 4 [(0, .ref (h 31)), (1, .int x1), (2, .int x2)] → W p l e (headSpec wsX12_keep { frames := 1, cells := 0, slots := 0, locals := 22 }).room s m (([.ref (h 31)] : List Value).toArray) below meth c H locs 0 0 (MQ below (va_Qv post (k_Post D (tyM cy) (wM h cy) A) A) (([.ref (h 31)] : List Value).toArray) s 0 0 A) (F0 m 224 ls []) := by
    intro n224
    induction n224 with
    | zero => intro x1 x2 S H locs ls hw; exact False.elim hw
    | succ n224 ih_224 =>
      intro x1 x2 S H locs ls hw hP hD hS hl
      unfold wM_keep_224 at hw
      refine lv_iload_n hx hb dX12_keep_224 rfl (lv_at hl 2 rfl) ?_
      refine lv_bipush (v := 30) hx hb dX12_keep_225 (by decide) ?_
      obtain ⟨hc_1t, hc_1f⟩ := hw
      refine lv_icmp_ge (tgt := 257) hx hb dX12_keep_227 (by decide) (fun c_1 => ?_) (fun c_1 => ?_)
      · have hw := hc_1t c_1
        clear hc_1t hc_1f
        refine lv_aload_n hx hb dX12_keep_257 rfl (lv_at hl 0 rfl) ?_
        refine va_get (D := D) (ci := 11) (v := .ref (h 0)) (C := RX12) (T := TX12) (N := 31) hx hb hts hin hown hK hP 0 rfl rfl 0 (by decide) w7 (fun _ h9 => h9) rfl dX12_keep_258 ?_
        refine lv_iconst (v := 4) hx hb dX12_keep_261 (by decide) ?_
        refine lv_dup2_11 hx hb dX12_keep_262 rfl rfl ?_
        refine k_iald (f := (ms_a S)) (j := 4) hx hb hK hP 1 0 rfl rfl (by decide +kernel) rfl dX12_keep_263 ?_
        refine lv_iconst (v := 1) hx hb dX12_keep_264 (by decide) ?_
        refine lv_iadd hx hb dX12_keep_265 ?_
        refine k_iast (f := (ms_a S)) (j := 4) hx hb hK hP hD hS 1 0 rfl rfl (by decide +kernel) rfl dX12_keep_266 (fun H locs hP hD hS => ?_)
        obtain ⟨S_2, eS_2⟩ : ∃ z : MS, z = (ms_set_a S (upd (ms_a S) 4 (((ms_a S) 4) + 1))) := ⟨_, rfl⟩
        have hw := hw S_2 eS_2
        have hP : va_P D vwCl (wM h cy S_2) H := by rw [eS_2, ← wMs_a]; exact hP
        have hD : va_D A (wM h cy S_2) := by rw [eS_2, ← wMs_a]; exact hD
        exact W.vret hx hb hr (fun t ht hW => ⟨⟨S_2, rfl, hw, by rw [ht]; exact hP, va_K.moved hW.alike hK, hD⟩, hS.F ht⟩) hS.2.2 dX12_keep_267
      · have hw := hc_1f c_1
        clear hc_1t hc_1f
        refine lv_aload_n hx hb dX12_keep_230 rfl (lv_at hl 0 rfl) ?_
        refine va_get (D := D) (ci := 11) (v := .ref (h 0)) (C := RX12) (T := TX12) (N := 31) hx hb hts hin hown hK hP 0 rfl rfl 0 (by decide) w7 (fun _ h9 => h9) rfl dX12_keep_231 ?_
        refine lv_iload_n hx hb dX12_keep_234 rfl (lv_at hl 1 rfl) ?_
        refine lv_bipush (v := 44) hx hb dX12_keep_235 (by decide) ?_
        refine lv_iadd hx hb dX12_keep_237 ?_
        refine lv_iload_n hx hb dX12_keep_238 rfl (lv_at hl 2 rfl) ?_
        refine lv_iadd hx hb dX12_keep_239 ?_
        refine lv_aload_n hx hb dX12_keep_240 rfl (lv_at hl 0 rfl) ?_
        refine va_get (D := D) (ci := 11) (v := .ref (h 0)) (C := RX12) (T := TX12) (N := 31) hx hb hts hin hown hK hP 0 rfl rfl 0 (by decide) w7 (fun _ h9 => h9) rfl dX12_keep_241 ?_
        refine lv_sipush (v := 2424) hx hb dX12_keep_244 (by decide) ?_
        refine lv_iload_n hx hb dX12_keep_247 rfl (lv_at hl 2 rfl) ?_
        refine lv_iadd hx hb dX12_keep_248 ?_
        obtain ⟨hi_5, hw⟩ := hw
        refine va_iald (f := (ms_a S)) hx hb hK hP 1 0 rfl rfl hi_5 dX12_keep_249 ?_
        obtain ⟨hi_4, hw⟩ := hw
        refine va_iast (f := (ms_a S)) hx hb hK hP hD hS 1 0 rfl rfl hi_4 dX12_keep_250 (fun H locs hP hD hS => ?_)
        obtain ⟨S_3, eS_3⟩ : ∃ z : MS, z = (ms_set_a S (upd (ms_a S) (((x1 + 44) + x2).toNatClampNeg) ((ms_a S) (2424 + x2).toNatClampNeg))) := ⟨_, rfl⟩
        have hw := hw S_3 eS_3
        have hP : va_P D vwCl (wM h cy S_3) H := by rw [eS_3, ← wMs_a]; exact hP
        have hD : va_D A (wM h cy S_3) := by rw [eS_3, ← wMs_a]; exact hD
        refine lv_iinc (v := x2 + 1) (lv' := [(2, .int (x2 + 1)), (0, .ref (h 31)), (1, .int x1)]) hx hb dX12_keep_251 hl (k := 2) rfl (k_inc (by decide)) (by decide) rfl (fun ls hl => ?_)
        refine lv_goto (tgt := 224) hx hb dX12_keep_254 (by decide) ?_
        exact ih_224 x1 (x2 + 1) S_3 _ _ _ hw hP hD hS (lv_sub hl [1, 2, 0] rfl)
  have L_177 : ∀ (n177 : Nat) (x1 : Int32) (x2 : Int32) (S : MS) (H : Heap) (locs : List Loc) (ls : Array Slot), wM_keep_177 post n177 x1 x2 S → va_P D vwCl (wM h cy S) H → va_D A (wM h cy S) → va_S A s.heap H locs → lv_has ls 4 [(0, .ref (h 31)), (1, .int x1), (2, .int x2)] → W p l e (headSpec wsX12_keep { frames := 1, cells := 0, slots := 0, locals := 22 }).room s m (([.ref (h 31)] : List Value).toArray) below meth c H locs 0 0 (MQ below (va_Qv post (k_Post D (tyM cy) (wM h cy) A) A) (([.ref (h 31)] : List Value).toArray) s 0 0 A) (F0 m 177 ls []) := by
    intro n177
    induction n177 with
    | zero => intro x1 x2 S H locs ls hw; exact False.elim hw
    | succ n177 ih_177 =>
      have L_184 : ∀ (n184 : Nat) (x1 : Int32) (x2 : Int32) (x3 : Int32) (S : MS) (H : Heap) (locs : List Loc) (ls : Array Slot), wM_keep_184 post (wM_keep_177 post n177) n184 x1 x2 x3 S → va_P D vwCl (wM h cy S) H → va_D A (wM h cy S) → va_S A s.heap H locs → lv_has ls 4 [(0, .ref (h 31)), (1, .int x1), (2, .int x2), (3, .int x3)] → W p l e (headSpec wsX12_keep { frames := 1, cells := 0, slots := 0, locals := 22 }).room s m (([.ref (h 31)] : List Value).toArray) below meth c H locs 0 0 (MQ below (va_Qv post (k_Post D (tyM cy) (wM h cy) A) A) (([.ref (h 31)] : List Value).toArray) s 0 0 A) (F0 m 184 ls []) := by
        intro n184
        induction n184 with
        | zero => intro x1 x2 x3 S H locs ls hw; exact False.elim hw
        | succ n184 ih_184 =>
          intro x1 x2 x3 S H locs ls hw hP hD hS hl
          unfold wM_keep_184 at hw
          refine lv_iload_n hx hb dX12_keep_184 rfl (lv_at hl 3 rfl) ?_
          refine lv_iconst (v := 3) hx hb dX12_keep_185 (by decide) ?_
          obtain ⟨hc_6t, hc_6f⟩ := hw
          refine lv_icmp_ge (tgt := 216) hx hb dX12_keep_186 (by decide) (fun c_6 => ?_) (fun c_6 => ?_)
          · have hw := hc_6t c_6
            clear hc_6t hc_6f
            refine lv_iinc (v := x2 + 1) (lv' := [(2, .int (x2 + 1)), (0, .ref (h 31)), (1, .int x1), (3, .int x3)]) hx hb dX12_keep_216 hl (k := 2) rfl (k_inc (by decide)) (by decide) rfl (fun ls hl => ?_)
            refine lv_goto (tgt := 177) hx hb dX12_keep_219 (by decide) ?_
            exact ih_177 x1 (x2 + 1) S _ _ _ hw hP hD hS (lv_sub hl [1, 2, 0] rfl)
          · have hw := hc_6f c_6
            clear hc_6t hc_6f
            refine lv_aload_n hx hb dX12_keep_189 rfl (lv_at hl 0 rfl) ?_
            refine va_get (D := D) (ci := 11) (v := .ref (h 0)) (C := RX12) (T := TX12) (N := 31) hx hb hts hin hown hK hP 0 rfl rfl 0 (by decide) w7 (fun _ h9 => h9) rfl dX12_keep_190 ?_
            refine lv_iload_n hx hb dX12_keep_193 rfl (lv_at hl 1 rfl) ?_
            refine lv_bipush (v := 29) hx hb dX12_keep_194 (by decide) ?_
            refine lv_iadd hx hb dX12_keep_196 ?_
            refine lv_iconst (v := 3) hx hb dX12_keep_197 (by decide) ?_
            refine lv_iload_n hx hb dX12_keep_198 rfl (lv_at hl 2 rfl) ?_
            refine lv_imul hx hb dX12_keep_199 ?_
            refine lv_iadd hx hb dX12_keep_200 ?_
            refine lv_iload_n hx hb dX12_keep_201 rfl (lv_at hl 3 rfl) ?_
            refine lv_iadd hx hb dX12_keep_202 ?_
            refine lv_aload_n hx hb dX12_keep_203 rfl (lv_at hl 0 rfl) ?_
            refine lv_iload_n hx hb dX12_keep_204 rfl (lv_at hl 2 rfl) ?_
            refine lv_iload_n hx hb dX12_keep_205 rfl (lv_at hl 3 rfl) ?_
            refine k_callVi (As := [.int x2, .int x3]) (rest := [.int (((x1 + 29) + (3 * x2)) + x3), .ref (h 0)]) ⟨hx, hb, hml, hown, hts⟩ (cM_own l D h cy _ _ _ _ hw) (cwV 2 hts gX12_keep_X12_own rfl rfl rfl (by decide +kernel) ⟨Nat.le_of_ble_eq_true rfl, Nat.le_of_ble_eq_true rfl⟩) (va_recv hK hP (ci := 11) (q0 := 0) rfl rfl) hK hP hD hS hA rfl hl.1 rfl (Nat.le_of_ble_eq_true rfl) dX12_keep_206 ⟨Nat.zero_le _, Nat.zero_le _⟩ (fun r_7 S_8 H locs hw hP hD hS => ?_)
            obtain ⟨hi_10, hw⟩ := hw
            refine va_iast (f := (ms_a S_8)) hx hb hK hP hD hS 1 0 rfl rfl hi_10 dX12_keep_209 (fun H locs hP hD hS => ?_)
            obtain ⟨S_9, eS_9⟩ : ∃ z : MS, z = (ms_set_a S_8 (upd (ms_a S_8) ((((x1 + 29) + (3 * x2)) + x3).toNatClampNeg) r_7)) := ⟨_, rfl⟩
            have hw := hw S_9 eS_9
            have hP : va_P D vwCl (wM h cy S_9) H := by rw [eS_9, ← wMs_a]; exact hP
            have hD : va_D A (wM h cy S_9) := by rw [eS_9, ← wMs_a]; exact hD
            refine lv_iinc (v := x3 + 1) (lv' := [(3, .int (x3 + 1)), (0, .ref (h 31)), (1, .int x1), (2, .int x2)]) hx hb dX12_keep_210 hl (k := 3) rfl (k_inc (by decide)) (by decide) rfl (fun ls hl => ?_)
            refine lv_goto (tgt := 184) hx hb dX12_keep_213 (by decide) ?_
            exact ih_184 x1 x2 (x3 + 1) S_9 _ _ _ hw hP hD hS (lv_sub hl [1, 2, 3, 0] rfl)
      intro x1 x2 S H locs ls hw hP hD hS hl
      unfold wM_keep_177 at hw
      refine lv_iload_n hx hb dX12_keep_177 rfl (lv_at hl 2 rfl) ?_
      refine lv_iconst (v := 5) hx hb dX12_keep_178 (by decide) ?_
      obtain ⟨hc_11t, hc_11f⟩ := hw
      refine lv_icmp_ge (tgt := 222) hx hb dX12_keep_179 (by decide) (fun c_11 => ?_) (fun c_11 => ?_)
      · have hw := hc_11t c_11
        clear hc_11t hc_11f
        refine lv_iconst (v := 0) hx hb dX12_keep_222 (by decide) ?_
        refine lv_istore_n (lv' := [(2, .int 0), (0, .ref (h 31)), (1, .int x1)]) hx hb dX12_keep_223 rfl hl (by decide) rfl (fun ls hl => ?_)
        obtain ⟨n_224, hw⟩ := hw
        exact L_224 n_224 x1 0 S _ _ _ hw hP hD hS (lv_sub hl [1, 2, 0] rfl)
      · have hw := hc_11f c_11
        clear hc_11t hc_11f
        refine lv_iconst (v := 0) hx hb dX12_keep_182 (by decide) ?_
        refine lv_istore_n (lv' := [(3, .int 0), (0, .ref (h 31)), (1, .int x1), (2, .int x2)]) hx hb dX12_keep_183 rfl hl (by decide) rfl (fun ls hl => ?_)
        obtain ⟨n_184, hw⟩ := hw
        exact L_184 n_184 x1 x2 0 S _ _ _ hw hP hD hS (lv_sub hl [1, 2, 3, 0] rfl)
  have L_130 : ∀ (n130 : Nat) (x1 : Int32) (x2 : Int32) (S : MS) (H : Heap) (locs : List Loc) (ls : Array Slot), wM_keep_130 post n130 x1 x2 S → va_P D vwCl (wM h cy S) H → va_D A (wM h cy S) → va_S A s.heap H locs → lv_has ls 4 [(0, .ref (h 31)), (1, .int x1), (2, .int x2)] → W p l e (headSpec wsX12_keep { frames := 1, cells := 0, slots := 0, locals := 22 }).room s m (([.ref (h 31)] : List Value).toArray) below meth c H locs 0 0 (MQ below (va_Qv post (k_Post D (tyM cy) (wM h cy) A) A) (([.ref (h 31)] : List Value).toArray) s 0 0 A) (F0 m 130 ls []) := by
    intro n130
    induction n130 with
    | zero => intro x1 x2 S H locs ls hw; exact False.elim hw
    | succ n130 ih_130 =>
      have L_138 : ∀ (n138 : Nat) (x1 : Int32) (x2 : Int32) (x3 : Int32) (S : MS) (H : Heap) (locs : List Loc) (ls : Array Slot), wM_keep_138 post (wM_keep_130 post n130) n138 x1 x2 x3 S → va_P D vwCl (wM h cy S) H → va_D A (wM h cy S) → va_S A s.heap H locs → lv_has ls 4 [(0, .ref (h 31)), (1, .int x1), (2, .int x2), (3, .int x3)] → W p l e (headSpec wsX12_keep { frames := 1, cells := 0, slots := 0, locals := 22 }).room s m (([.ref (h 31)] : List Value).toArray) below meth c H locs 0 0 (MQ below (va_Qv post (k_Post D (tyM cy) (wM h cy) A) A) (([.ref (h 31)] : List Value).toArray) s 0 0 A) (F0 m 138 ls []) := by
        intro n138
        induction n138 with
        | zero => intro x1 x2 x3 S H locs ls hw; exact False.elim hw
        | succ n138 ih_138 =>
          intro x1 x2 x3 S H locs ls hw hP hD hS hl
          unfold wM_keep_138 at hw
          refine lv_iload_n hx hb dX12_keep_138 rfl (lv_at hl 3 rfl) ?_
          refine lv_iconst (v := 4) hx hb dX12_keep_139 (by decide) ?_
          obtain ⟨hc_12t, hc_12f⟩ := hw
          refine lv_icmp_ge (tgt := 169) hx hb dX12_keep_140 (by decide) (fun c_12 => ?_) (fun c_12 => ?_)
          · have hw := hc_12t c_12
            clear hc_12t hc_12f
            refine lv_iinc (v := x2 + 1) (lv' := [(2, .int (x2 + 1)), (0, .ref (h 31)), (1, .int x1), (3, .int x3)]) hx hb dX12_keep_169 hl (k := 2) rfl (k_inc (by decide)) (by decide) rfl (fun ls hl => ?_)
            refine lv_goto (tgt := 130) hx hb dX12_keep_172 (by decide) ?_
            exact ih_130 x1 (x2 + 1) S _ _ _ hw hP hD hS (lv_sub hl [1, 2, 0] rfl)
          · have hw := hc_12f c_12
            clear hc_12t hc_12f
            refine lv_aload_n hx hb dX12_keep_143 rfl (lv_at hl 0 rfl) ?_
            refine va_get (D := D) (ci := 11) (v := .ref (h 0)) (C := RX12) (T := TX12) (N := 31) hx hb hts hin hown hK hP 0 rfl rfl 0 (by decide) w7 (fun _ h9 => h9) rfl dX12_keep_144 ?_
            refine lv_iload_n hx hb dX12_keep_147 rfl (lv_at hl 1 rfl) ?_
            refine lv_iconst (v := 5) hx hb dX12_keep_148 (by decide) ?_
            refine lv_iadd hx hb dX12_keep_149 ?_
            refine lv_iconst (v := 4) hx hb dX12_keep_150 (by decide) ?_
            refine lv_iload_n hx hb dX12_keep_151 rfl (lv_at hl 2 rfl) ?_
            refine lv_imul hx hb dX12_keep_152 ?_
            refine lv_iadd hx hb dX12_keep_153 ?_
            refine lv_iload_n hx hb dX12_keep_154 rfl (lv_at hl 3 rfl) ?_
            refine lv_iadd hx hb dX12_keep_155 ?_
            refine lv_aload_n hx hb dX12_keep_156 rfl (lv_at hl 0 rfl) ?_
            refine lv_iload_n hx hb dX12_keep_157 rfl (lv_at hl 2 rfl) ?_
            refine lv_iload_n hx hb dX12_keep_158 rfl (lv_at hl 3 rfl) ?_
            refine k_callVi (As := [.int x2, .int x3]) (rest := [.int (((x1 + 5) + (4 * x2)) + x3), .ref (h 0)]) ⟨hx, hb, hml, hown, hts⟩ (cM_get l D h cy _ _ _ _ hw) (cwV 2 hts gX12_keep_X12_get rfl rfl rfl (by decide +kernel) ⟨Nat.le_of_ble_eq_true rfl, Nat.le_of_ble_eq_true rfl⟩) (va_recv hK hP (ci := 11) (q0 := 0) rfl rfl) hK hP hD hS hA rfl hl.1 rfl (Nat.le_of_ble_eq_true rfl) dX12_keep_159 ⟨Nat.zero_le _, Nat.zero_le _⟩ (fun r_13 S_14 H locs hw hP hD hS => ?_)
            obtain ⟨hi_16, hw⟩ := hw
            refine va_iast (f := (ms_a S_14)) hx hb hK hP hD hS 1 0 rfl rfl hi_16 dX12_keep_162 (fun H locs hP hD hS => ?_)
            obtain ⟨S_15, eS_15⟩ : ∃ z : MS, z = (ms_set_a S_14 (upd (ms_a S_14) ((((x1 + 5) + (4 * x2)) + x3).toNatClampNeg) r_13)) := ⟨_, rfl⟩
            have hw := hw S_15 eS_15
            have hP : va_P D vwCl (wM h cy S_15) H := by rw [eS_15, ← wMs_a]; exact hP
            have hD : va_D A (wM h cy S_15) := by rw [eS_15, ← wMs_a]; exact hD
            refine lv_iinc (v := x3 + 1) (lv' := [(3, .int (x3 + 1)), (0, .ref (h 31)), (1, .int x1), (2, .int x2)]) hx hb dX12_keep_163 hl (k := 3) rfl (k_inc (by decide)) (by decide) rfl (fun ls hl => ?_)
            refine lv_goto (tgt := 138) hx hb dX12_keep_166 (by decide) ?_
            exact ih_138 x1 x2 (x3 + 1) S_15 _ _ _ hw hP hD hS (lv_sub hl [1, 2, 3, 0] rfl)
      intro x1 x2 S H locs ls hw hP hD hS hl
      unfold wM_keep_130 at hw
      refine lv_iload_n hx hb dX12_keep_130 rfl (lv_at hl 2 rfl) ?_
      refine lv_bipush (v := 6) hx hb dX12_keep_131 (by decide) ?_
      obtain ⟨hc_17t, hc_17f⟩ := hw
      refine lv_icmp_ge (tgt := 175) hx hb dX12_keep_133 (by decide) (fun c_17 => ?_) (fun c_17 => ?_)
      · have hw := hc_17t c_17
        clear hc_17t hc_17f
        refine lv_iconst (v := 0) hx hb dX12_keep_175 (by decide) ?_
        refine lv_istore_n (lv' := [(2, .int 0), (0, .ref (h 31)), (1, .int x1)]) hx hb dX12_keep_176 rfl hl (by decide) rfl (fun ls hl => ?_)
        obtain ⟨n_177, hw⟩ := hw
        exact L_177 n_177 x1 0 S _ _ _ hw hP hD hS (lv_sub hl [1, 2, 0] rfl)
      · have hw := hc_17f c_17
        clear hc_17t hc_17f
        refine lv_iconst (v := 0) hx hb dX12_keep_136 (by decide) ?_
        refine lv_istore_n (lv' := [(3, .int 0), (0, .ref (h 31)), (1, .int x1), (2, .int x2)]) hx hb dX12_keep_137 rfl hl (by decide) rfl (fun ls hl => ?_)
        obtain ⟨n_138, hw⟩ := hw
        exact L_138 n_138 x1 x2 0 S _ _ _ hw hP hD hS (lv_sub hl [1, 2, 3, 0] rfl)
  have L_98 : ∀ (n98 : Nat) (x1 : Int32) (x2 : Int32) (S : MS) (H : Heap) (locs : List Loc) (ls : Array Slot), wM_keep_98 post n98 x1 x2 S → va_P D vwCl (wM h cy S) H → va_D A (wM h cy S) → va_S A s.heap H locs → lv_has ls 4 [(0, .ref (h 31)), (1, .int x1), (2, .int x2)] → W p l e (headSpec wsX12_keep { frames := 1, cells := 0, slots := 0, locals := 22 }).room s m (([.ref (h 31)] : List Value).toArray) below meth c H locs 0 0 (MQ below (va_Qv post (k_Post D (tyM cy) (wM h cy) A) A) (([.ref (h 31)] : List Value).toArray) s 0 0 A) (F0 m 98 ls []) := by
    intro n98
    induction n98 with
    | zero => intro x1 x2 S H locs ls hw; exact False.elim hw
    | succ n98 ih_98 =>
      intro x1 x2 S H locs ls hw hP hD hS hl
      unfold wM_keep_98 at hw
      refine lv_iload_n hx hb dX12_keep_98 rfl (lv_at hl 2 rfl) ?_
      refine lv_iconst (v := 3) hx hb dX12_keep_99 (by decide) ?_
      obtain ⟨hc_18t, hc_18f⟩ := hw
      refine lv_icmp_ge (tgt := 128) hx hb dX12_keep_100 (by decide) (fun c_18 => ?_) (fun c_18 => ?_)
      · have hw := hc_18t c_18
        clear hc_18t hc_18f
        refine lv_iconst (v := 0) hx hb dX12_keep_128 (by decide) ?_
        refine lv_istore_n (lv' := [(2, .int 0), (0, .ref (h 31)), (1, .int x1)]) hx hb dX12_keep_129 rfl hl (by decide) rfl (fun ls hl => ?_)
        obtain ⟨n_130, hw⟩ := hw
        exact L_130 n_130 x1 0 S _ _ _ hw hP hD hS (lv_sub hl [1, 2, 0] rfl)
      · have hw := hc_18f c_18
        clear hc_18t hc_18f
        refine lv_aload_n hx hb dX12_keep_103 rfl (lv_at hl 0 rfl) ?_
        refine va_get (D := D) (ci := 11) (v := .ref (h 0)) (C := RX12) (T := TX12) (N := 31) hx hb hts hin hown hK hP 0 rfl rfl 0 (by decide) w7 (fun _ h9 => h9) rfl dX12_keep_104 ?_
        refine lv_iload_n hx hb dX12_keep_107 rfl (lv_at hl 1 rfl) ?_
        refine lv_iconst (v := 2) hx hb dX12_keep_108 (by decide) ?_
        refine lv_iadd hx hb dX12_keep_109 ?_
        refine lv_iload_n hx hb dX12_keep_110 rfl (lv_at hl 2 rfl) ?_
        refine lv_iadd hx hb dX12_keep_111 ?_
        refine lv_aload_n hx hb dX12_keep_112 rfl (lv_at hl 0 rfl) ?_
        refine va_get (D := D) (ci := 11) (v := .ref (h 0)) (C := RX12) (T := TX12) (N := 31) hx hb hts hin hown hK hP 0 rfl rfl 0 (by decide) w7 (fun _ h9 => h9) rfl dX12_keep_113 ?_
        refine lv_bipush (v := 7) hx hb dX12_keep_116 (by decide) ?_
        refine lv_iload_n hx hb dX12_keep_118 rfl (lv_at hl 2 rfl) ?_
        refine lv_iadd hx hb dX12_keep_119 ?_
        obtain ⟨hi_21, hw⟩ := hw
        refine va_iald (f := (ms_a S)) hx hb hK hP 1 0 rfl rfl hi_21 dX12_keep_120 ?_
        obtain ⟨hi_20, hw⟩ := hw
        refine va_iast (f := (ms_a S)) hx hb hK hP hD hS 1 0 rfl rfl hi_20 dX12_keep_121 (fun H locs hP hD hS => ?_)
        obtain ⟨S_19, eS_19⟩ : ∃ z : MS, z = (ms_set_a S (upd (ms_a S) (((x1 + 2) + x2).toNatClampNeg) ((ms_a S) (7 + x2).toNatClampNeg))) := ⟨_, rfl⟩
        have hw := hw S_19 eS_19
        have hP : va_P D vwCl (wM h cy S_19) H := by rw [eS_19, ← wMs_a]; exact hP
        have hD : va_D A (wM h cy S_19) := by rw [eS_19, ← wMs_a]; exact hD
        refine lv_iinc (v := x2 + 1) (lv' := [(2, .int (x2 + 1)), (0, .ref (h 31)), (1, .int x1)]) hx hb dX12_keep_122 hl (k := 2) rfl (k_inc (by decide)) (by decide) rfl (fun ls hl => ?_)
        refine lv_goto (tgt := 98) hx hb dX12_keep_125 (by decide) ?_
        exact ih_98 x1 (x2 + 1) S_19 _ _ _ hw hP hD hS (lv_sub hl [1, 2, 0] rfl)
  have J_56 : ∀ (S : MS) (H : Heap) (locs : List Loc) (ls : Array Slot), wM_keep_56 post S → va_P D vwCl (wM h cy S) H → va_D A (wM h cy S) → va_S A s.heap H locs → lv_has ls 4 [(0, .ref (h 31))] → W p l e (headSpec wsX12_keep { frames := 1, cells := 0, slots := 0, locals := 22 }).room s m (([.ref (h 31)] : List Value).toArray) below meth c H locs 0 0 (MQ below (va_Qv post (k_Post D (tyM cy) (wM h cy) A) A) (([.ref (h 31)] : List Value).toArray) s 0 0 A) (F0 m 56 ls []) := by
    intro S H locs ls hw hP hD hS hl
    unfold wM_keep_56 at hw
    refine lv_sipush (v := 204) hx hb dX12_keep_56 (by decide) ?_
    refine lv_bipush (v := 74) hx hb dX12_keep_59 (by decide) ?_
    refine lv_aload_n hx hb dX12_keep_61 rfl (lv_at hl 0 rfl) ?_
    refine va_get (D := D) (ci := 11) (v := .ref (h 0)) (C := RX12) (T := TX12) (N := 31) hx hb hts hin hown hK hP 0 rfl rfl 0 (by decide) w7 (fun _ h9 => h9) rfl dX12_keep_62 ?_
    refine lv_iconst (v := 4) hx hb dX12_keep_65 (by decide) ?_
    refine k_iald (f := (ms_a S)) (j := 4) hx hb hK hP 1 0 rfl rfl (by decide +kernel) rfl dX12_keep_66 ?_
    refine lv_imul hx hb dX12_keep_67 ?_
    refine lv_iadd hx hb dX12_keep_68 ?_
    refine lv_istore_n (lv' := [(1, .int (204 + (74 * ((ms_a S) 4)))), (0, .ref (h 31))]) hx hb dX12_keep_69 rfl hl (by decide) rfl (fun ls hl => ?_)
    refine lv_aload_n hx hb dX12_keep_70 rfl (lv_at hl 1 rfl) ?_
    refine va_get (D := D) (ci := 11) (v := .ref (h 0)) (C := RX12) (T := TX12) (N := 31) hx hb hts hin hown hK hP 0 rfl rfl 0 (by decide) w7 (fun _ h9 => h9) rfl dX12_keep_71 ?_
    refine lv_iload_n hx hb dX12_keep_74 rfl (lv_at hl 0 rfl) ?_
    refine lv_aload_n hx hb dX12_keep_75 rfl (lv_at hl 1 rfl) ?_
    refine va_get (D := D) (ci := 11) (v := .ref (h 0)) (C := RX12) (T := TX12) (N := 31) hx hb hts hin hown hK hP 0 rfl rfl 0 (by decide) w7 (fun _ h9 => h9) rfl dX12_keep_76 ?_
    refine lv_iconst (v := 0) hx hb dX12_keep_79 (by decide) ?_
    refine k_iald (f := (ms_a S)) (j := 0) hx hb hK hP 1 0 rfl rfl (by decide +kernel) rfl dX12_keep_80 ?_
    obtain ⟨hi_25, hw⟩ := hw
    refine va_iast (f := (ms_a S)) hx hb hK hP hD hS 1 0 rfl rfl hi_25 dX12_keep_81 (fun H locs hP hD hS => ?_)
    obtain ⟨S_22, eS_22⟩ : ∃ z : MS, z = (ms_set_a S (upd (ms_a S) ((204 + (74 * ((ms_a S) 4))).toNatClampNeg) ((ms_a S) 0))) := ⟨_, rfl⟩
    have hw := hw S_22 eS_22
    have hP : va_P D vwCl (wM h cy S_22) H := by rw [eS_22, ← wMs_a]; exact hP
    have hD : va_D A (wM h cy S_22) := by rw [eS_22, ← wMs_a]; exact hD
    refine lv_aload_n hx hb dX12_keep_82 rfl (lv_at hl 1 rfl) ?_
    refine va_get (D := D) (ci := 11) (v := .ref (h 0)) (C := RX12) (T := TX12) (N := 31) hx hb hts hin hown hK hP 0 rfl rfl 0 (by decide) w7 (fun _ h9 => h9) rfl dX12_keep_83 ?_
    refine lv_iload_n hx hb dX12_keep_86 rfl (lv_at hl 0 rfl) ?_
    refine lv_iconst (v := 1) hx hb dX12_keep_87 (by decide) ?_
    refine lv_iadd hx hb dX12_keep_88 ?_
    refine lv_aload_n hx hb dX12_keep_89 rfl (lv_at hl 1 rfl) ?_
    refine va_get (D := D) (ci := 11) (v := .ref (h 0)) (C := RX12) (T := TX12) (N := 31) hx hb hts hin hown hK hP 0 rfl rfl 0 (by decide) w7 (fun _ h9 => h9) rfl dX12_keep_90 ?_
    refine lv_iconst (v := 1) hx hb dX12_keep_93 (by decide) ?_
    refine k_iald (f := (ms_a S_22)) (j := 1) hx hb hK hP 1 0 rfl rfl (by decide +kernel) rfl dX12_keep_94 ?_
    obtain ⟨hi_24, hw⟩ := hw
    refine va_iast (f := (ms_a S_22)) hx hb hK hP hD hS 1 0 rfl rfl hi_24 dX12_keep_95 (fun H locs hP hD hS => ?_)
    obtain ⟨S_23, eS_23⟩ : ∃ z : MS, z = (ms_set_a S_22 (upd (ms_a S_22) (((204 + (74 * ((ms_a S) 4))) + 1).toNatClampNeg) ((ms_a S_22) 1))) := ⟨_, rfl⟩
    have hw := hw S_23 eS_23
    have hP : va_P D vwCl (wM h cy S_23) H := by rw [eS_23, ← wMs_a]; exact hP
    have hD : va_D A (wM h cy S_23) := by rw [eS_23, ← wMs_a]; exact hD
    refine lv_iconst (v := 0) hx hb dX12_keep_96 (by decide) ?_
    refine lv_istore_n (lv' := [(2, .int 0), (1, .int (204 + (74 * ((ms_a S) 4)))), (0, .ref (h 31))]) hx hb dX12_keep_97 rfl hl (by decide) rfl (fun ls hl => ?_)
    obtain ⟨n_98, hw⟩ := hw
    exact L_98 n_98 (204 + (74 * ((ms_a S) 4))) 0 S_23 _ _ _ hw hP hD hS (lv_sub hl [2, 1, 0] rfl)
  have L_13 : ∀ (n13 : Nat) (x1 : Int32) (S : MS) (H : Heap) (locs : List Loc) (ls : Array Slot), wM_keep_13 post n13 x1 S → va_P D vwCl (wM h cy S) H → va_D A (wM h cy S) → va_S A s.heap H locs → lv_has ls 4 [(0, .ref (h 31)), (1, .int x1)] → W p l e (headSpec wsX12_keep { frames := 1, cells := 0, slots := 0, locals := 22 }).room s m (([.ref (h 31)] : List Value).toArray) below meth c H locs 0 0 (MQ below (va_Qv post (k_Post D (tyM cy) (wM h cy) A) A) (([.ref (h 31)] : List Value).toArray) s 0 0 A) (F0 m 13 ls []) := by
    intro n13
    induction n13 with
    | zero => intro x1 S H locs ls hw; exact False.elim hw
    | succ n13 ih_13 =>
      intro x1 S H locs ls hw hP hD hS hl
      unfold wM_keep_13 at hw
      refine lv_iload_n hx hb dX12_keep_13 rfl (lv_at hl 1 rfl) ?_
      refine lv_sipush (v := 2146) hx hb dX12_keep_14 (by decide) ?_
      obtain ⟨hc_26t, hc_26f⟩ := hw
      refine lv_icmp_ge (tgt := 46) hx hb dX12_keep_17 (by decide) (fun c_26 => ?_) (fun c_26 => ?_)
      · have hw := hc_26t c_26
        clear hc_26t hc_26f
        refine lv_aload_n hx hb dX12_keep_46 rfl (lv_at hl 0 rfl) ?_
        refine va_get (D := D) (ci := 11) (v := .ref (h 0)) (C := RX12) (T := TX12) (N := 31) hx hb hts hin hown hK hP 0 rfl rfl 0 (by decide) w7 (fun _ h9 => h9) rfl dX12_keep_47 ?_
        refine lv_iconst (v := 4) hx hb dX12_keep_50 (by decide) ?_
        refine lv_dup2_11 hx hb dX12_keep_51 rfl rfl ?_
        refine k_iald (f := (ms_a S)) (j := 4) hx hb hK hP 1 0 rfl rfl (by decide +kernel) rfl dX12_keep_52 ?_
        refine lv_iconst (v := 1) hx hb dX12_keep_53 (by decide) ?_
        refine lv_isub hx hb dX12_keep_54 ?_
        refine k_iast (f := (ms_a S)) (j := 4) hx hb hK hP hD hS 1 0 rfl rfl (by decide +kernel) rfl dX12_keep_55 (fun H locs hP hD hS => ?_)
        obtain ⟨S_27, eS_27⟩ : ∃ z : MS, z = (ms_set_a S (upd (ms_a S) 4 (((ms_a S) 4) - 1))) := ⟨_, rfl⟩
        have hw := hw S_27 eS_27
        have hP : va_P D vwCl (wM h cy S_27) H := by rw [eS_27, ← wMs_a]; exact hP
        have hD : va_D A (wM h cy S_27) := by rw [eS_27, ← wMs_a]; exact hD
        exact J_56 S_27 _ _ _ hw hP hD hS (lv_sub hl [0] rfl)
      · have hw := hc_26f c_26
        clear hc_26t hc_26f
        refine lv_aload_n hx hb dX12_keep_20 rfl (lv_at hl 0 rfl) ?_
        refine va_get (D := D) (ci := 11) (v := .ref (h 0)) (C := RX12) (T := TX12) (N := 31) hx hb hts hin hown hK hP 0 rfl rfl 0 (by decide) w7 (fun _ h9 => h9) rfl dX12_keep_21 ?_
        refine lv_sipush (v := 204) hx hb dX12_keep_24 (by decide) ?_
        refine lv_iload_n hx hb dX12_keep_27 rfl (lv_at hl 1 rfl) ?_
        refine lv_iadd hx hb dX12_keep_28 ?_
        refine lv_aload_n hx hb dX12_keep_29 rfl (lv_at hl 0 rfl) ?_
        refine va_get (D := D) (ci := 11) (v := .ref (h 0)) (C := RX12) (T := TX12) (N := 31) hx hb hts hin hown hK hP 0 rfl rfl 0 (by decide) w7 (fun _ h9 => h9) rfl dX12_keep_30 ?_
        refine lv_sipush (v := 278) hx hb dX12_keep_33 (by decide) ?_
        refine lv_iload_n hx hb dX12_keep_36 rfl (lv_at hl 1 rfl) ?_
        refine lv_iadd hx hb dX12_keep_37 ?_
        obtain ⟨hi_30, hw⟩ := hw
        refine va_iald (f := (ms_a S)) hx hb hK hP 1 0 rfl rfl hi_30 dX12_keep_38 ?_
        obtain ⟨hi_29, hw⟩ := hw
        refine va_iast (f := (ms_a S)) hx hb hK hP hD hS 1 0 rfl rfl hi_29 dX12_keep_39 (fun H locs hP hD hS => ?_)
        obtain ⟨S_28, eS_28⟩ : ∃ z : MS, z = (ms_set_a S (upd (ms_a S) ((204 + x1).toNatClampNeg) ((ms_a S) (278 + x1).toNatClampNeg))) := ⟨_, rfl⟩
        have hw := hw S_28 eS_28
        have hP : va_P D vwCl (wM h cy S_28) H := by rw [eS_28, ← wMs_a]; exact hP
        have hD : va_D A (wM h cy S_28) := by rw [eS_28, ← wMs_a]; exact hD
        refine lv_iinc (v := x1 + 1) (lv' := [(1, .int (x1 + 1)), (0, .ref (h 31))]) hx hb dX12_keep_40 hl (k := 1) rfl (k_inc (by decide)) (by decide) rfl (fun ls hl => ?_)
        refine lv_goto (tgt := 13) hx hb dX12_keep_43 (by decide) ?_
        exact ih_13 (x1 + 1) S_28 _ _ _ hw hP hD hS (lv_sub hl [1, 0] rfl)
  refine lv_aload_n hx hb dX12_keep_0 rfl (lv_at hl 0 rfl) ?_
  refine va_get (D := D) (ci := 11) (v := .ref (h 0)) (C := RX12) (T := TX12) (N := 31) hx hb hts hin hown hK hP 0 rfl rfl 0 (by decide) w7 (fun _ h9 => h9) rfl dX12_keep_1 ?_
  refine lv_iconst (v := 4) hx hb dX12_keep_4 (by decide) ?_
  refine k_iald (f := (ms_a S)) (j := 4) hx hb hK hP 1 0 rfl rfl (by decide +kernel) rfl dX12_keep_5 ?_
  refine lv_bipush (v := 30) hx hb dX12_keep_6 (by decide) ?_
  obtain ⟨hc_31t, hc_31f⟩ := hw
  refine lv_icmp_ne (tgt := 56) hx hb dX12_keep_8 (by decide) (fun c_31 => ?_) (fun c_31 => ?_)
  · have hw := hc_31f c_31
    clear hc_31t hc_31f
    exact J_56 S _ _ _ hw hP hD hS (lv_sub hl [0] rfl)
  · have hw := hc_31t c_31
    clear hc_31t hc_31f
    refine lv_iconst (v := 0) hx hb dX12_keep_11 (by decide) ?_
    refine lv_istore_n (lv' := [(1, .int 0), (0, .ref (h 31))]) hx hb dX12_keep_12 rfl hl (by decide) rfl (fun ls hl => ?_)
    obtain ⟨n_13, hw⟩ := hw
    exact L_13 n_13 0 S _ _ _ hw hP hD hS (lv_sub hl [1, 0] rfl)
def wM_undo_226 (post : Int32 → MS → Prop) : Nat → Int32 → Int32 → MS → Prop
  | 0, _, _, _ => False
  | n + 1, x1, x2, S => ((30 ≤ x2 → post ((ms_a S) 4) S) ∧ (¬ (30 ≤ x2) → (vp_in ((x1 + 44) + x2) 2454 ∧ (vp_in (2424 + x2) 2454 ∧ ∀ S_2 : MS, S_2 = (ms_set_a S (upd (ms_a S) ((2424 + x2).toNatClampNeg) ((ms_a S) ((x1 + 44) + x2).toNatClampNeg))) → wM_undo_226 post n x1 (x2 + 1) S_2))))
def wM_undo_174 (post : Int32 → MS → Prop) (K145 : Int32 → Int32 → MS → Prop) : Nat → Int32 → Int32 → Int32 → MS → Prop
  | 0, _, _, _, _ => False
  | n + 1, x1, x2, x3, S => ((3 ≤ x3 → K145 x1 (x2 + 1) S) ∧ (¬ (3 ≤ x3) → (vp_in (x1 + 1) 2454 ∧ ((((ms_a S) (x1 + 1).toNatClampNeg) ≤ x2 → K145 x1 (x2 + 1) S) ∧ (¬ (((ms_a S) (x1 + 1).toNatClampNeg) ≤ x2) → (vp_in (((x1 + 29) + (3 * x2)) + x3) 2454 ∧ wM_lay x2 x3 ((ms_a S) (((x1 + 29) + (3 * x2)) + x3).toNatClampNeg) S (fun S_4 => wM_undo_174 post K145 n x1 x2 (x3 + 1) S_4)))))))
def wM_undo_145 (post : Int32 → MS → Prop) : Nat → Int32 → Int32 → MS → Prop
  | 0, _, _, _ => False
  | n + 1, x1, x2, S => ((((ms_a S) 1) ≤ x2 → ∃ k_ : Nat, wM_undo_226 post k_ x1 0 S) ∧ (¬ (((ms_a S) 1) ≤ x2) → (vp_in (x1 + 1) 2454 ∧ ((x2 < ((ms_a S) (x1 + 1).toNatClampNeg) → ∃ k_ : Nat, wM_undo_174 post (wM_undo_145 post n) k_ x1 x2 0 S) ∧ (¬ (x2 < ((ms_a S) (x1 + 1).toNatClampNeg)) → wM_arrive x2 S (fun S_4 => ∃ k_ : Nat, wM_undo_174 post (wM_undo_145 post n) k_ x1 x2 0 S_4))))))
def wM_undo_96 (post : Int32 → MS → Prop) (K69 : Int32 → Int32 → MS → Prop) : Nat → Int32 → Int32 → Int32 → MS → Prop
  | 0, _, _, _, _ => False
  | n + 1, x1, x2, x3, S => ((4 ≤ x3 → K69 x1 (x2 + 1) S) ∧ (¬ (4 ≤ x3) → (vp_in x1 2454 ∧ ((((ms_a S) x1.toNatClampNeg) ≤ x2 → K69 x1 (x2 + 1) S) ∧ (¬ (((ms_a S) x1.toNatClampNeg) ≤ x2) → (vp_in (((x1 + 5) + (4 * x2)) + x3) 2454 ∧ wM_put x2 x3 ((ms_a S) (((x1 + 5) + (4 * x2)) + x3).toNatClampNeg) S (fun S_4 => wM_undo_96 post K69 n x1 x2 (x3 + 1) S_4)))))))
def wM_undo_69 (post : Int32 → MS → Prop) : Nat → Int32 → Int32 → MS → Prop
  | 0, _, _, _ => False
  | n + 1, x1, x2, S => ((((ms_a S) 0) ≤ x2 → ∃ k_ : Nat, wM_undo_145 post k_ x1 0 S) ∧ (¬ (((ms_a S) 0) ≤ x2) → (vp_in x1 2454 ∧ ((x2 < ((ms_a S) x1.toNatClampNeg) → ∃ k_ : Nat, wM_undo_96 post (wM_undo_69 post n) k_ x1 x2 0 S) ∧ (¬ (x2 < ((ms_a S) x1.toNatClampNeg)) → wM_begin x2 S (fun S_4 => ∃ k_ : Nat, wM_undo_96 post (wM_undo_69 post n) k_ x1 x2 0 S_4))))))
def wM_undo_37 (post : Int32 → MS → Prop) : Nat → Int32 → Int32 → MS → Prop
  | 0, _, _, _ => False
  | n + 1, x1, x2, S => ((3 ≤ x2 → ∃ k_ : Nat, wM_undo_69 post k_ x1 0 S) ∧ (¬ (3 ≤ x2) → (vp_in ((x1 + 2) + x2) 2454 ∧ (vp_in (7 + x2) 2454 ∧ ∀ S_2 : MS, S_2 = (ms_set_a S (upd (ms_a S) ((7 + x2).toNatClampNeg) ((ms_a S) ((x1 + 2) + x2).toNatClampNeg))) → wM_undo_37 post n x1 (x2 + 1) S_2))))
def wM_undo (S : MS) (post : Int32 → MS → Prop) : Prop := ((((ms_a S) 4) = 0 → post (-1) S) ∧ (¬ (((ms_a S) 4) = 0) → (∀ S_2 : MS, S_2 = (ms_set_a S (upd (ms_a S) 4 (((ms_a S) 4) - 1))) → ∃ k_ : Nat, wM_undo_37 post k_ (204 + (74 * ((ms_a S_2) 4))) 0 S_2)))
set_option maxHeartbeats 4000000 in
set_option maxRecDepth 100000 in
theorem cM_undo (l : Launch) (D : va_G) (h : Nat → Nat) (cy : Nat → ClassId) (S : MS) (post : Int32 → MS → Prop) (hw : wM_undo S post) : k_Mi l yX12_undo wsX12_undo { frames := 2, cells := 0, slots := 0, locals := 44 } D (tyM cy) (wM h cy) [.ref (h 31)] S post := by
  intro sz
  refine Met.ofW (cc := cX12_undo) (maxL := 4) (ret := (some .int)) (by decide) rfl ?_
  intro p e s m args below meth c s₁ B hml hv
  obtain ⟨rfl, hsz, hP, hK, hD0⟩ := hv
  have hx := B.exec
  have hb := B.bytes
  have hr := B.returns
  have hts := atoms_spec (ws := wsX12_undo) B.pre
  have hown : s.vm.findClass RX12 = some m.cls := findClass_of_methodNamed B.named
  have hlocks := B.notSynchronized
  subst hsz
  have hD := hD0.self (sz := s.heap.size)
  generalize hAe : va_A (wM h cy S) s.heap.size = A at hD ⊢
  have hA : ∀ q : Nat, s.heap.size ≤ q → A q := fun q h => by rw [← hAe]; exact Or.inr h
  have hS : va_S A s.heap s.heap [] := va_S.rf
  have hin : ∀ w ∈ wsX120, w ∈ wsX12_undo := fun _ h => List.mem_cons_of_mem _ (List.mem_append_right _ h)
  have w7 := hts (.fieldLink RX12 7 "ClownsMournModel" "a" "[I") (List.mem_of_getElem? (i := 1) rfl)
  have hl := lv_entry ([.ref (h 31)]) (n := 4) (Nat.le_of_ble_eq_true rfl)
  rw [lg_entry_eq]
  generalize (lg_sl ([.ref (h 31)]) ++ List.replicate (4 - (lg_sl ([.ref (h 31)])).length) Slot.unset).toArray = ls at hl ⊢
  have hl : lv_has ls 4 [(0, .ref (h 31))] := hl
  unfold wM_undo at hw
  clear hD0
  have L_226 : ∀ (n226 : Nat) (x1 : Int32) (x2 : Int32) (S : MS) (H : Heap) (locs : List Loc) (ls : Array Slot), wM_undo_226 post n226 x1 x2 S → va_P D vwCl (wM h cy S) H → va_D A (wM h cy S) → va_S A s.heap H locs → lv_has ls 4 [(0, .ref (h 31)), (1, .int x1), (2, .int x2)] → W p l e (headSpec wsX12_undo { frames := 2, cells := 0, slots := 0, locals := 44 }).room s m (([.ref (h 31)] : List Value).toArray) below meth c H locs 0 0 (MQ below (va_Qi post (k_Post D (tyM cy) (wM h cy) A) A) (([.ref (h 31)] : List Value).toArray) s 0 0 A) (F0 m 226 ls []) := by
    intro n226
    induction n226 with
    | zero => intro x1 x2 S H locs ls hw; exact False.elim hw
    | succ n226 ih_226 =>
      intro x1 x2 S H locs ls hw hP hD hS hl
      unfold wM_undo_226 at hw
      refine lv_iload_n hx hb dX12_undo_226 rfl (lv_at hl 2 rfl) ?_
      refine lv_bipush (v := 30) hx hb dX12_undo_227 (by decide) ?_
      obtain ⟨hc_1t, hc_1f⟩ := hw
      refine lv_icmp_ge (tgt := 259) hx hb dX12_undo_229 (by decide) (fun c_1 => ?_) (fun c_1 => ?_)
      · have hw := hc_1t c_1
        clear hc_1t hc_1f
        refine lv_aload_n hx hb dX12_undo_259 rfl (lv_at hl 0 rfl) ?_
        refine va_get (D := D) (ci := 11) (v := .ref (h 0)) (C := RX12) (T := TX12) (N := 31) hx hb hts hin hown hK hP 0 rfl rfl 0 (by decide) w7 (fun _ h9 => h9) rfl dX12_undo_260 ?_
        refine lv_iconst (v := 4) hx hb dX12_undo_263 (by decide) ?_
        refine k_iald (f := (ms_a S)) (j := 4) hx hb hK hP 1 0 rfl rfl (by decide +kernel) rfl dX12_undo_264 ?_
        exact W.iret (v := (ms_a S) 4) hx hb hr (fun t ht hW => ⟨⟨(ms_a S) 4, S, rfl, hw, by rw [ht]; exact hP, va_K.moved hW.alike hK, hD⟩, hS.F ht⟩) hS.2.2 dX12_undo_265
      · have hw := hc_1f c_1
        clear hc_1t hc_1f
        refine lv_aload_n hx hb dX12_undo_232 rfl (lv_at hl 0 rfl) ?_
        refine va_get (D := D) (ci := 11) (v := .ref (h 0)) (C := RX12) (T := TX12) (N := 31) hx hb hts hin hown hK hP 0 rfl rfl 0 (by decide) w7 (fun _ h9 => h9) rfl dX12_undo_233 ?_
        refine lv_sipush (v := 2424) hx hb dX12_undo_236 (by decide) ?_
        refine lv_iload_n hx hb dX12_undo_239 rfl (lv_at hl 2 rfl) ?_
        refine lv_iadd hx hb dX12_undo_240 ?_
        refine lv_aload_n hx hb dX12_undo_241 rfl (lv_at hl 0 rfl) ?_
        refine va_get (D := D) (ci := 11) (v := .ref (h 0)) (C := RX12) (T := TX12) (N := 31) hx hb hts hin hown hK hP 0 rfl rfl 0 (by decide) w7 (fun _ h9 => h9) rfl dX12_undo_242 ?_
        refine lv_iload_n hx hb dX12_undo_245 rfl (lv_at hl 1 rfl) ?_
        refine lv_bipush (v := 44) hx hb dX12_undo_246 (by decide) ?_
        refine lv_iadd hx hb dX12_undo_248 ?_
        refine lv_iload_n hx hb dX12_undo_249 rfl (lv_at hl 2 rfl) ?_
        refine lv_iadd hx hb dX12_undo_250 ?_
        obtain ⟨hi_4, hw⟩ := hw
        refine va_iald (f := (ms_a S)) hx hb hK hP 1 0 rfl rfl hi_4 dX12_undo_251 ?_
        obtain ⟨hi_3, hw⟩ := hw
        refine va_iast (f := (ms_a S)) hx hb hK hP hD hS 1 0 rfl rfl hi_3 dX12_undo_252 (fun H locs hP hD hS => ?_)
        obtain ⟨S_2, eS_2⟩ : ∃ z : MS, z = (ms_set_a S (upd (ms_a S) ((2424 + x2).toNatClampNeg) ((ms_a S) ((x1 + 44) + x2).toNatClampNeg))) := ⟨_, rfl⟩
        have hw := hw S_2 eS_2
        have hP : va_P D vwCl (wM h cy S_2) H := by rw [eS_2, ← wMs_a]; exact hP
        have hD : va_D A (wM h cy S_2) := by rw [eS_2, ← wMs_a]; exact hD
        refine lv_iinc (v := x2 + 1) (lv' := [(2, .int (x2 + 1)), (0, .ref (h 31)), (1, .int x1)]) hx hb dX12_undo_253 hl (k := 2) rfl (k_inc (by decide)) (by decide) rfl (fun ls hl => ?_)
        refine lv_goto (tgt := 226) hx hb dX12_undo_256 (by decide) ?_
        exact ih_226 x1 (x2 + 1) S_2 _ _ _ hw hP hD hS (lv_sub hl [1, 2, 0] rfl)
  have L_145 : ∀ (n145 : Nat) (x1 : Int32) (x2 : Int32) (S : MS) (H : Heap) (locs : List Loc) (ls : Array Slot), wM_undo_145 post n145 x1 x2 S → va_P D vwCl (wM h cy S) H → va_D A (wM h cy S) → va_S A s.heap H locs → lv_has ls 4 [(0, .ref (h 31)), (1, .int x1), (2, .int x2)] → W p l e (headSpec wsX12_undo { frames := 2, cells := 0, slots := 0, locals := 44 }).room s m (([.ref (h 31)] : List Value).toArray) below meth c H locs 0 0 (MQ below (va_Qi post (k_Post D (tyM cy) (wM h cy) A) A) (([.ref (h 31)] : List Value).toArray) s 0 0 A) (F0 m 145 ls []) := by
    intro n145
    induction n145 with
    | zero => intro x1 x2 S H locs ls hw; exact False.elim hw
    | succ n145 ih_145 =>
      have L_174 : ∀ (n174 : Nat) (x1 : Int32) (x2 : Int32) (x3 : Int32) (S : MS) (H : Heap) (locs : List Loc) (ls : Array Slot), wM_undo_174 post (wM_undo_145 post n145) n174 x1 x2 x3 S → va_P D vwCl (wM h cy S) H → va_D A (wM h cy S) → va_S A s.heap H locs → lv_has ls 4 [(0, .ref (h 31)), (1, .int x1), (2, .int x2), (3, .int x3)] → W p l e (headSpec wsX12_undo { frames := 2, cells := 0, slots := 0, locals := 44 }).room s m (([.ref (h 31)] : List Value).toArray) below meth c H locs 0 0 (MQ below (va_Qi post (k_Post D (tyM cy) (wM h cy) A) A) (([.ref (h 31)] : List Value).toArray) s 0 0 A) (F0 m 174 ls []) := by
        intro n174
        induction n174 with
        | zero => intro x1 x2 x3 S H locs ls hw; exact False.elim hw
        | succ n174 ih_174 =>
          intro x1 x2 x3 S H locs ls hw hP hD hS hl
          unfold wM_undo_174 at hw
          refine lv_iload_n hx hb dX12_undo_174 rfl (lv_at hl 3 rfl) ?_
          refine lv_iconst (v := 3) hx hb dX12_undo_175 (by decide) ?_
          obtain ⟨hc_5t, hc_5f⟩ := hw
          refine lv_icmp_ge (tgt := 218) hx hb dX12_undo_176 (by decide) (fun c_5 => ?_) (fun c_5 => ?_)
          · have hw := hc_5t c_5
            clear hc_5t hc_5f
            refine lv_iinc (v := x2 + 1) (lv' := [(2, .int (x2 + 1)), (0, .ref (h 31)), (1, .int x1), (3, .int x3)]) hx hb dX12_undo_218 hl (k := 2) rfl (k_inc (by decide)) (by decide) rfl (fun ls hl => ?_)
            refine lv_goto (tgt := 145) hx hb dX12_undo_221 (by decide) ?_
            exact ih_145 x1 (x2 + 1) S _ _ _ hw hP hD hS (lv_sub hl [1, 2, 0] rfl)
          · have hw := hc_5f c_5
            clear hc_5t hc_5f
            refine lv_iload_n hx hb dX12_undo_179 rfl (lv_at hl 2 rfl) ?_
            refine lv_aload_n hx hb dX12_undo_180 rfl (lv_at hl 0 rfl) ?_
            refine va_get (D := D) (ci := 11) (v := .ref (h 0)) (C := RX12) (T := TX12) (N := 31) hx hb hts hin hown hK hP 0 rfl rfl 0 (by decide) w7 (fun _ h9 => h9) rfl dX12_undo_181 ?_
            refine lv_iload_n hx hb dX12_undo_184 rfl (lv_at hl 1 rfl) ?_
            refine lv_iconst (v := 1) hx hb dX12_undo_185 (by decide) ?_
            refine lv_iadd hx hb dX12_undo_186 ?_
            obtain ⟨hi_10, hw⟩ := hw
            refine va_iald (f := (ms_a S)) hx hb hK hP 1 0 rfl rfl hi_10 dX12_undo_187 ?_
            obtain ⟨hc_6t, hc_6f⟩ := hw
            refine lv_icmp_ge (tgt := 218) hx hb dX12_undo_188 (by decide) (fun c_6 => ?_) (fun c_6 => ?_)
            · have hw := hc_6t c_6
              clear hc_6t hc_6f
              refine lv_iinc (v := x2 + 1) (lv' := [(2, .int (x2 + 1)), (0, .ref (h 31)), (1, .int x1), (3, .int x3)]) hx hb dX12_undo_218 hl (k := 2) rfl (k_inc (by decide)) (by decide) rfl (fun ls hl => ?_)
              refine lv_goto (tgt := 145) hx hb dX12_undo_221 (by decide) ?_
              exact ih_145 x1 (x2 + 1) S _ _ _ hw hP hD hS (lv_sub hl [1, 2, 0] rfl)
            · have hw := hc_6f c_6
              clear hc_6t hc_6f
              refine lv_aload_n hx hb dX12_undo_191 rfl (lv_at hl 0 rfl) ?_
              refine lv_iload_n hx hb dX12_undo_192 rfl (lv_at hl 2 rfl) ?_
              refine lv_iload_n hx hb dX12_undo_193 rfl (lv_at hl 3 rfl) ?_
              refine lv_aload_n hx hb dX12_undo_194 rfl (lv_at hl 0 rfl) ?_
              refine va_get (D := D) (ci := 11) (v := .ref (h 0)) (C := RX12) (T := TX12) (N := 31) hx hb hts hin hown hK hP 0 rfl rfl 0 (by decide) w7 (fun _ h9 => h9) rfl dX12_undo_195 ?_
              refine lv_iload_n hx hb dX12_undo_198 rfl (lv_at hl 1 rfl) ?_
              refine lv_bipush (v := 29) hx hb dX12_undo_199 (by decide) ?_
              refine lv_iadd hx hb dX12_undo_201 ?_
              refine lv_iconst (v := 3) hx hb dX12_undo_202 (by decide) ?_
              refine lv_iload_n hx hb dX12_undo_203 rfl (lv_at hl 2 rfl) ?_
              refine lv_imul hx hb dX12_undo_204 ?_
              refine lv_iadd hx hb dX12_undo_205 ?_
              refine lv_iload_n hx hb dX12_undo_206 rfl (lv_at hl 3 rfl) ?_
              refine lv_iadd hx hb dX12_undo_207 ?_
              obtain ⟨hi_9, hw⟩ := hw
              refine va_iald (f := (ms_a S)) hx hb hK hP 1 0 rfl rfl hi_9 dX12_undo_208 ?_
              refine k_callVv (As := [.int x2, .int x3, .int ((ms_a S) (((x1 + 29) + (3 * x2)) + x3).toNatClampNeg)]) (rest := []) ⟨hx, hb, hml, hown, hts⟩ (cM_lay l D h cy _ _ _ _ _ hw) (cwV 3 hts gX12_undo_X12_lay rfl rfl rfl (by decide +kernel) ⟨Nat.le_of_ble_eq_true rfl, Nat.le_of_ble_eq_true rfl⟩) (va_recv hK hP (ci := 11) (q0 := 0) rfl rfl) hK hP hD hS hA rfl hl.1 rfl (Nat.le_of_ble_eq_true rfl) dX12_undo_209 ⟨Nat.zero_le _, Nat.zero_le _⟩ (fun S_8 H locs hw hP hD hS => ?_)
              refine lv_iinc (v := x3 + 1) (lv' := [(3, .int (x3 + 1)), (0, .ref (h 31)), (1, .int x1), (2, .int x2)]) hx hb dX12_undo_212 hl (k := 3) rfl (k_inc (by decide)) (by decide) rfl (fun ls hl => ?_)
              refine lv_goto (tgt := 174) hx hb dX12_undo_215 (by decide) ?_
              exact ih_174 x1 x2 (x3 + 1) S_8 _ _ _ hw hP hD hS (lv_sub hl [1, 2, 3, 0] rfl)
      intro x1 x2 S H locs ls hw hP hD hS hl
      unfold wM_undo_145 at hw
      refine lv_iload_n hx hb dX12_undo_145 rfl (lv_at hl 2 rfl) ?_
      refine lv_aload_n hx hb dX12_undo_146 rfl (lv_at hl 0 rfl) ?_
      refine va_get (D := D) (ci := 11) (v := .ref (h 0)) (C := RX12) (T := TX12) (N := 31) hx hb hts hin hown hK hP 0 rfl rfl 0 (by decide) w7 (fun _ h9 => h9) rfl dX12_undo_147 ?_
      refine lv_iconst (v := 1) hx hb dX12_undo_150 (by decide) ?_
      refine k_iald (f := (ms_a S)) (j := 1) hx hb hK hP 1 0 rfl rfl (by decide +kernel) rfl dX12_undo_151 ?_
      obtain ⟨hc_11t, hc_11f⟩ := hw
      refine lv_icmp_ge (tgt := 224) hx hb dX12_undo_152 (by decide) (fun c_11 => ?_) (fun c_11 => ?_)
      · have hw := hc_11t c_11
        clear hc_11t hc_11f
        refine lv_iconst (v := 0) hx hb dX12_undo_224 (by decide) ?_
        refine lv_istore_n (lv' := [(2, .int 0), (0, .ref (h 31)), (1, .int x1)]) hx hb dX12_undo_225 rfl hl (by decide) rfl (fun ls hl => ?_)
        obtain ⟨n_226, hw⟩ := hw
        exact L_226 n_226 x1 0 S _ _ _ hw hP hD hS (lv_sub hl [1, 2, 0] rfl)
      · have hw := hc_11f c_11
        clear hc_11t hc_11f
        refine lv_iload_n hx hb dX12_undo_155 rfl (lv_at hl 2 rfl) ?_
        refine lv_aload_n hx hb dX12_undo_156 rfl (lv_at hl 0 rfl) ?_
        refine va_get (D := D) (ci := 11) (v := .ref (h 0)) (C := RX12) (T := TX12) (N := 31) hx hb hts hin hown hK hP 0 rfl rfl 0 (by decide) w7 (fun _ h9 => h9) rfl dX12_undo_157 ?_
        refine lv_iload_n hx hb dX12_undo_160 rfl (lv_at hl 1 rfl) ?_
        refine lv_iconst (v := 1) hx hb dX12_undo_161 (by decide) ?_
        refine lv_iadd hx hb dX12_undo_162 ?_
        obtain ⟨hi_15, hw⟩ := hw
        refine va_iald (f := (ms_a S)) hx hb hK hP 1 0 rfl rfl hi_15 dX12_undo_163 ?_
        obtain ⟨hc_12t, hc_12f⟩ := hw
        refine lv_icmp_lt (tgt := 172) hx hb dX12_undo_164 (by decide) (fun c_12 => ?_) (fun c_12 => ?_)
        · have hw := hc_12t c_12
          clear hc_12t hc_12f
          refine lv_iconst (v := 0) hx hb dX12_undo_172 (by decide) ?_
          refine lv_istore_n (lv' := [(3, .int 0), (0, .ref (h 31)), (1, .int x1), (2, .int x2)]) hx hb dX12_undo_173 rfl hl (by decide) rfl (fun ls hl => ?_)
          obtain ⟨n_174, hw⟩ := hw
          exact L_174 n_174 x1 x2 0 S _ _ _ hw hP hD hS (lv_sub hl [1, 2, 3, 0] rfl)
        · have hw := hc_12f c_12
          clear hc_12t hc_12f
          refine lv_aload_n hx hb dX12_undo_167 rfl (lv_at hl 0 rfl) ?_
          refine lv_iload_n hx hb dX12_undo_168 rfl (lv_at hl 2 rfl) ?_
          refine k_callVv (As := [.int x2]) (rest := []) ⟨hx, hb, hml, hown, hts⟩ (cM_arrive l D h cy _ _ _ hw) (cwV 1 hts gX12_undo_X12_arrive rfl rfl rfl (by decide +kernel) ⟨Nat.le_of_ble_eq_true rfl, Nat.le_of_ble_eq_true rfl⟩) (va_recv hK hP (ci := 11) (q0 := 0) rfl rfl) hK hP hD hS hA rfl hl.1 rfl (Nat.le_of_ble_eq_true rfl) dX12_undo_169 ⟨Nat.zero_le _, Nat.zero_le _⟩ (fun S_14 H locs hw hP hD hS => ?_)
          refine lv_iconst (v := 0) hx hb dX12_undo_172 (by decide) ?_
          refine lv_istore_n (lv' := [(3, .int 0), (0, .ref (h 31)), (1, .int x1), (2, .int x2)]) hx hb dX12_undo_173 rfl hl (by decide) rfl (fun ls hl => ?_)
          obtain ⟨n_174, hw⟩ := hw
          exact L_174 n_174 x1 x2 0 S_14 _ _ _ hw hP hD hS (lv_sub hl [1, 2, 3, 0] rfl)
  have L_69 : ∀ (n69 : Nat) (x1 : Int32) (x2 : Int32) (S : MS) (H : Heap) (locs : List Loc) (ls : Array Slot), wM_undo_69 post n69 x1 x2 S → va_P D vwCl (wM h cy S) H → va_D A (wM h cy S) → va_S A s.heap H locs → lv_has ls 4 [(0, .ref (h 31)), (1, .int x1), (2, .int x2)] → W p l e (headSpec wsX12_undo { frames := 2, cells := 0, slots := 0, locals := 44 }).room s m (([.ref (h 31)] : List Value).toArray) below meth c H locs 0 0 (MQ below (va_Qi post (k_Post D (tyM cy) (wM h cy) A) A) (([.ref (h 31)] : List Value).toArray) s 0 0 A) (F0 m 69 ls []) := by
    intro n69
    induction n69 with
    | zero => intro x1 x2 S H locs ls hw; exact False.elim hw
    | succ n69 ih_69 =>
      have L_96 : ∀ (n96 : Nat) (x1 : Int32) (x2 : Int32) (x3 : Int32) (S : MS) (H : Heap) (locs : List Loc) (ls : Array Slot), wM_undo_96 post (wM_undo_69 post n69) n96 x1 x2 x3 S → va_P D vwCl (wM h cy S) H → va_D A (wM h cy S) → va_S A s.heap H locs → lv_has ls 4 [(0, .ref (h 31)), (1, .int x1), (2, .int x2), (3, .int x3)] → W p l e (headSpec wsX12_undo { frames := 2, cells := 0, slots := 0, locals := 44 }).room s m (([.ref (h 31)] : List Value).toArray) below meth c H locs 0 0 (MQ below (va_Qi post (k_Post D (tyM cy) (wM h cy) A) A) (([.ref (h 31)] : List Value).toArray) s 0 0 A) (F0 m 96 ls []) := by
        intro n96
        induction n96 with
        | zero => intro x1 x2 x3 S H locs ls hw; exact False.elim hw
        | succ n96 ih_96 =>
          intro x1 x2 x3 S H locs ls hw hP hD hS hl
          unfold wM_undo_96 at hw
          refine lv_iload_n hx hb dX12_undo_96 rfl (lv_at hl 3 rfl) ?_
          refine lv_iconst (v := 4) hx hb dX12_undo_97 (by decide) ?_
          obtain ⟨hc_16t, hc_16f⟩ := hw
          refine lv_icmp_ge (tgt := 137) hx hb dX12_undo_98 (by decide) (fun c_16 => ?_) (fun c_16 => ?_)
          · have hw := hc_16t c_16
            clear hc_16t hc_16f
            refine lv_iinc (v := x2 + 1) (lv' := [(2, .int (x2 + 1)), (0, .ref (h 31)), (1, .int x1), (3, .int x3)]) hx hb dX12_undo_137 hl (k := 2) rfl (k_inc (by decide)) (by decide) rfl (fun ls hl => ?_)
            refine lv_goto (tgt := 69) hx hb dX12_undo_140 (by decide) ?_
            exact ih_69 x1 (x2 + 1) S _ _ _ hw hP hD hS (lv_sub hl [1, 2, 0] rfl)
          · have hw := hc_16f c_16
            clear hc_16t hc_16f
            refine lv_iload_n hx hb dX12_undo_101 rfl (lv_at hl 2 rfl) ?_
            refine lv_aload_n hx hb dX12_undo_102 rfl (lv_at hl 0 rfl) ?_
            refine va_get (D := D) (ci := 11) (v := .ref (h 0)) (C := RX12) (T := TX12) (N := 31) hx hb hts hin hown hK hP 0 rfl rfl 0 (by decide) w7 (fun _ h9 => h9) rfl dX12_undo_103 ?_
            refine lv_iload_n hx hb dX12_undo_106 rfl (lv_at hl 1 rfl) ?_
            obtain ⟨hi_21, hw⟩ := hw
            refine va_iald (f := (ms_a S)) hx hb hK hP 1 0 rfl rfl hi_21 dX12_undo_107 ?_
            obtain ⟨hc_17t, hc_17f⟩ := hw
            refine lv_icmp_ge (tgt := 137) hx hb dX12_undo_108 (by decide) (fun c_17 => ?_) (fun c_17 => ?_)
            · have hw := hc_17t c_17
              clear hc_17t hc_17f
              refine lv_iinc (v := x2 + 1) (lv' := [(2, .int (x2 + 1)), (0, .ref (h 31)), (1, .int x1), (3, .int x3)]) hx hb dX12_undo_137 hl (k := 2) rfl (k_inc (by decide)) (by decide) rfl (fun ls hl => ?_)
              refine lv_goto (tgt := 69) hx hb dX12_undo_140 (by decide) ?_
              exact ih_69 x1 (x2 + 1) S _ _ _ hw hP hD hS (lv_sub hl [1, 2, 0] rfl)
            · have hw := hc_17f c_17
              clear hc_17t hc_17f
              refine lv_aload_n hx hb dX12_undo_111 rfl (lv_at hl 0 rfl) ?_
              refine lv_iload_n hx hb dX12_undo_112 rfl (lv_at hl 2 rfl) ?_
              refine lv_iload_n hx hb dX12_undo_113 rfl (lv_at hl 3 rfl) ?_
              refine lv_aload_n hx hb dX12_undo_114 rfl (lv_at hl 0 rfl) ?_
              refine va_get (D := D) (ci := 11) (v := .ref (h 0)) (C := RX12) (T := TX12) (N := 31) hx hb hts hin hown hK hP 0 rfl rfl 0 (by decide) w7 (fun _ h9 => h9) rfl dX12_undo_115 ?_
              refine lv_iload_n hx hb dX12_undo_118 rfl (lv_at hl 1 rfl) ?_
              refine lv_iconst (v := 5) hx hb dX12_undo_119 (by decide) ?_
              refine lv_iadd hx hb dX12_undo_120 ?_
              refine lv_iconst (v := 4) hx hb dX12_undo_121 (by decide) ?_
              refine lv_iload_n hx hb dX12_undo_122 rfl (lv_at hl 2 rfl) ?_
              refine lv_imul hx hb dX12_undo_123 ?_
              refine lv_iadd hx hb dX12_undo_124 ?_
              refine lv_iload_n hx hb dX12_undo_125 rfl (lv_at hl 3 rfl) ?_
              refine lv_iadd hx hb dX12_undo_126 ?_
              obtain ⟨hi_20, hw⟩ := hw
              refine va_iald (f := (ms_a S)) hx hb hK hP 1 0 rfl rfl hi_20 dX12_undo_127 ?_
              refine k_callVv (As := [.int x2, .int x3, .int ((ms_a S) (((x1 + 5) + (4 * x2)) + x3).toNatClampNeg)]) (rest := []) ⟨hx, hb, hml, hown, hts⟩ (cM_put l D h cy _ _ _ _ _ hw) (cwV 3 hts gX12_undo_X12_put rfl rfl rfl (by decide +kernel) ⟨Nat.le_of_ble_eq_true rfl, Nat.le_of_ble_eq_true rfl⟩) (va_recv hK hP (ci := 11) (q0 := 0) rfl rfl) hK hP hD hS hA rfl hl.1 rfl (Nat.le_of_ble_eq_true rfl) dX12_undo_128 ⟨Nat.zero_le _, Nat.zero_le _⟩ (fun S_19 H locs hw hP hD hS => ?_)
              refine lv_iinc (v := x3 + 1) (lv' := [(3, .int (x3 + 1)), (0, .ref (h 31)), (1, .int x1), (2, .int x2)]) hx hb dX12_undo_131 hl (k := 3) rfl (k_inc (by decide)) (by decide) rfl (fun ls hl => ?_)
              refine lv_goto (tgt := 96) hx hb dX12_undo_134 (by decide) ?_
              exact ih_96 x1 x2 (x3 + 1) S_19 _ _ _ hw hP hD hS (lv_sub hl [1, 2, 3, 0] rfl)
      intro x1 x2 S H locs ls hw hP hD hS hl
      unfold wM_undo_69 at hw
      refine lv_iload_n hx hb dX12_undo_69 rfl (lv_at hl 2 rfl) ?_
      refine lv_aload_n hx hb dX12_undo_70 rfl (lv_at hl 0 rfl) ?_
      refine va_get (D := D) (ci := 11) (v := .ref (h 0)) (C := RX12) (T := TX12) (N := 31) hx hb hts hin hown hK hP 0 rfl rfl 0 (by decide) w7 (fun _ h9 => h9) rfl dX12_undo_71 ?_
      refine lv_iconst (v := 0) hx hb dX12_undo_74 (by decide) ?_
      refine k_iald (f := (ms_a S)) (j := 0) hx hb hK hP 1 0 rfl rfl (by decide +kernel) rfl dX12_undo_75 ?_
      obtain ⟨hc_22t, hc_22f⟩ := hw
      refine lv_icmp_ge (tgt := 143) hx hb dX12_undo_76 (by decide) (fun c_22 => ?_) (fun c_22 => ?_)
      · have hw := hc_22t c_22
        clear hc_22t hc_22f
        refine lv_iconst (v := 0) hx hb dX12_undo_143 (by decide) ?_
        refine lv_istore_n (lv' := [(2, .int 0), (0, .ref (h 31)), (1, .int x1)]) hx hb dX12_undo_144 rfl hl (by decide) rfl (fun ls hl => ?_)
        obtain ⟨n_145, hw⟩ := hw
        exact L_145 n_145 x1 0 S _ _ _ hw hP hD hS (lv_sub hl [1, 2, 0] rfl)
      · have hw := hc_22f c_22
        clear hc_22t hc_22f
        refine lv_iload_n hx hb dX12_undo_79 rfl (lv_at hl 2 rfl) ?_
        refine lv_aload_n hx hb dX12_undo_80 rfl (lv_at hl 0 rfl) ?_
        refine va_get (D := D) (ci := 11) (v := .ref (h 0)) (C := RX12) (T := TX12) (N := 31) hx hb hts hin hown hK hP 0 rfl rfl 0 (by decide) w7 (fun _ h9 => h9) rfl dX12_undo_81 ?_
        refine lv_iload_n hx hb dX12_undo_84 rfl (lv_at hl 1 rfl) ?_
        obtain ⟨hi_26, hw⟩ := hw
        refine va_iald (f := (ms_a S)) hx hb hK hP 1 0 rfl rfl hi_26 dX12_undo_85 ?_
        obtain ⟨hc_23t, hc_23f⟩ := hw
        refine lv_icmp_lt (tgt := 94) hx hb dX12_undo_86 (by decide) (fun c_23 => ?_) (fun c_23 => ?_)
        · have hw := hc_23t c_23
          clear hc_23t hc_23f
          refine lv_iconst (v := 0) hx hb dX12_undo_94 (by decide) ?_
          refine lv_istore_n (lv' := [(3, .int 0), (0, .ref (h 31)), (1, .int x1), (2, .int x2)]) hx hb dX12_undo_95 rfl hl (by decide) rfl (fun ls hl => ?_)
          obtain ⟨n_96, hw⟩ := hw
          exact L_96 n_96 x1 x2 0 S _ _ _ hw hP hD hS (lv_sub hl [1, 2, 3, 0] rfl)
        · have hw := hc_23f c_23
          clear hc_23t hc_23f
          refine lv_aload_n hx hb dX12_undo_89 rfl (lv_at hl 0 rfl) ?_
          refine lv_iload_n hx hb dX12_undo_90 rfl (lv_at hl 2 rfl) ?_
          refine k_callVv (As := [.int x2]) (rest := []) ⟨hx, hb, hml, hown, hts⟩ (cM_begin l D h cy _ _ _ hw) (cwV 1 hts gX12_undo_X12_begin rfl rfl rfl (by decide +kernel) ⟨Nat.le_of_ble_eq_true rfl, Nat.le_of_ble_eq_true rfl⟩) (va_recv hK hP (ci := 11) (q0 := 0) rfl rfl) hK hP hD hS hA rfl hl.1 rfl (Nat.le_of_ble_eq_true rfl) dX12_undo_91 ⟨Nat.zero_le _, Nat.zero_le _⟩ (fun S_25 H locs hw hP hD hS => ?_)
          refine lv_iconst (v := 0) hx hb dX12_undo_94 (by decide) ?_
          refine lv_istore_n (lv' := [(3, .int 0), (0, .ref (h 31)), (1, .int x1), (2, .int x2)]) hx hb dX12_undo_95 rfl hl (by decide) rfl (fun ls hl => ?_)
          obtain ⟨n_96, hw⟩ := hw
          exact L_96 n_96 x1 x2 0 S_25 _ _ _ hw hP hD hS (lv_sub hl [1, 2, 3, 0] rfl)
  have L_37 : ∀ (n37 : Nat) (x1 : Int32) (x2 : Int32) (S : MS) (H : Heap) (locs : List Loc) (ls : Array Slot), wM_undo_37 post n37 x1 x2 S → va_P D vwCl (wM h cy S) H → va_D A (wM h cy S) → va_S A s.heap H locs → lv_has ls 4 [(0, .ref (h 31)), (1, .int x1), (2, .int x2)] → W p l e (headSpec wsX12_undo { frames := 2, cells := 0, slots := 0, locals := 44 }).room s m (([.ref (h 31)] : List Value).toArray) below meth c H locs 0 0 (MQ below (va_Qi post (k_Post D (tyM cy) (wM h cy) A) A) (([.ref (h 31)] : List Value).toArray) s 0 0 A) (F0 m 37 ls []) := by
    intro n37
    induction n37 with
    | zero => intro x1 x2 S H locs ls hw; exact False.elim hw
    | succ n37 ih_37 =>
      intro x1 x2 S H locs ls hw hP hD hS hl
      unfold wM_undo_37 at hw
      refine lv_iload_n hx hb dX12_undo_37 rfl (lv_at hl 2 rfl) ?_
      refine lv_iconst (v := 3) hx hb dX12_undo_38 (by decide) ?_
      obtain ⟨hc_27t, hc_27f⟩ := hw
      refine lv_icmp_ge (tgt := 67) hx hb dX12_undo_39 (by decide) (fun c_27 => ?_) (fun c_27 => ?_)
      · have hw := hc_27t c_27
        clear hc_27t hc_27f
        refine lv_iconst (v := 0) hx hb dX12_undo_67 (by decide) ?_
        refine lv_istore_n (lv' := [(2, .int 0), (0, .ref (h 31)), (1, .int x1)]) hx hb dX12_undo_68 rfl hl (by decide) rfl (fun ls hl => ?_)
        obtain ⟨n_69, hw⟩ := hw
        exact L_69 n_69 x1 0 S _ _ _ hw hP hD hS (lv_sub hl [1, 2, 0] rfl)
      · have hw := hc_27f c_27
        clear hc_27t hc_27f
        refine lv_aload_n hx hb dX12_undo_42 rfl (lv_at hl 0 rfl) ?_
        refine va_get (D := D) (ci := 11) (v := .ref (h 0)) (C := RX12) (T := TX12) (N := 31) hx hb hts hin hown hK hP 0 rfl rfl 0 (by decide) w7 (fun _ h9 => h9) rfl dX12_undo_43 ?_
        refine lv_bipush (v := 7) hx hb dX12_undo_46 (by decide) ?_
        refine lv_iload_n hx hb dX12_undo_48 rfl (lv_at hl 2 rfl) ?_
        refine lv_iadd hx hb dX12_undo_49 ?_
        refine lv_aload_n hx hb dX12_undo_50 rfl (lv_at hl 0 rfl) ?_
        refine va_get (D := D) (ci := 11) (v := .ref (h 0)) (C := RX12) (T := TX12) (N := 31) hx hb hts hin hown hK hP 0 rfl rfl 0 (by decide) w7 (fun _ h9 => h9) rfl dX12_undo_51 ?_
        refine lv_iload_n hx hb dX12_undo_54 rfl (lv_at hl 1 rfl) ?_
        refine lv_iconst (v := 2) hx hb dX12_undo_55 (by decide) ?_
        refine lv_iadd hx hb dX12_undo_56 ?_
        refine lv_iload_n hx hb dX12_undo_57 rfl (lv_at hl 2 rfl) ?_
        refine lv_iadd hx hb dX12_undo_58 ?_
        obtain ⟨hi_30, hw⟩ := hw
        refine va_iald (f := (ms_a S)) hx hb hK hP 1 0 rfl rfl hi_30 dX12_undo_59 ?_
        obtain ⟨hi_29, hw⟩ := hw
        refine va_iast (f := (ms_a S)) hx hb hK hP hD hS 1 0 rfl rfl hi_29 dX12_undo_60 (fun H locs hP hD hS => ?_)
        obtain ⟨S_28, eS_28⟩ : ∃ z : MS, z = (ms_set_a S (upd (ms_a S) ((7 + x2).toNatClampNeg) ((ms_a S) ((x1 + 2) + x2).toNatClampNeg))) := ⟨_, rfl⟩
        have hw := hw S_28 eS_28
        have hP : va_P D vwCl (wM h cy S_28) H := by rw [eS_28, ← wMs_a]; exact hP
        have hD : va_D A (wM h cy S_28) := by rw [eS_28, ← wMs_a]; exact hD
        refine lv_iinc (v := x2 + 1) (lv' := [(2, .int (x2 + 1)), (0, .ref (h 31)), (1, .int x1)]) hx hb dX12_undo_61 hl (k := 2) rfl (k_inc (by decide)) (by decide) rfl (fun ls hl => ?_)
        refine lv_goto (tgt := 37) hx hb dX12_undo_64 (by decide) ?_
        exact ih_37 x1 (x2 + 1) S_28 _ _ _ hw hP hD hS (lv_sub hl [1, 2, 0] rfl)
  refine lv_aload_n hx hb dX12_undo_0 rfl (lv_at hl 0 rfl) ?_
  refine va_get (D := D) (ci := 11) (v := .ref (h 0)) (C := RX12) (T := TX12) (N := 31) hx hb hts hin hown hK hP 0 rfl rfl 0 (by decide) w7 (fun _ h9 => h9) rfl dX12_undo_1 ?_
  refine lv_iconst (v := 4) hx hb dX12_undo_4 (by decide) ?_
  refine k_iald (f := (ms_a S)) (j := 4) hx hb hK hP 1 0 rfl rfl (by decide +kernel) rfl dX12_undo_5 ?_
  obtain ⟨hc_31t, hc_31f⟩ := hw
  refine lv_if_ne (tgt := 11) hx hb dX12_undo_6 (by decide) (fun c_31 => ?_) (fun c_31 => ?_)
  · have hw := hc_31f c_31
    clear hc_31t hc_31f
    refine lv_aload_n hx hb dX12_undo_11 rfl (lv_at hl 0 rfl) ?_
    refine va_get (D := D) (ci := 11) (v := .ref (h 0)) (C := RX12) (T := TX12) (N := 31) hx hb hts hin hown hK hP 0 rfl rfl 0 (by decide) w7 (fun _ h9 => h9) rfl dX12_undo_12 ?_
    refine lv_iconst (v := 4) hx hb dX12_undo_15 (by decide) ?_
    refine lv_dup2_11 hx hb dX12_undo_16 rfl rfl ?_
    refine k_iald (f := (ms_a S)) (j := 4) hx hb hK hP 1 0 rfl rfl (by decide +kernel) rfl dX12_undo_17 ?_
    refine lv_iconst (v := 1) hx hb dX12_undo_18 (by decide) ?_
    refine lv_isub hx hb dX12_undo_19 ?_
    refine k_iast (f := (ms_a S)) (j := 4) hx hb hK hP hD hS 1 0 rfl rfl (by decide +kernel) rfl dX12_undo_20 (fun H locs hP hD hS => ?_)
    obtain ⟨S_32, eS_32⟩ : ∃ z : MS, z = (ms_set_a S (upd (ms_a S) 4 (((ms_a S) 4) - 1))) := ⟨_, rfl⟩
    have hw := hw S_32 eS_32
    have hP : va_P D vwCl (wM h cy S_32) H := by rw [eS_32, ← wMs_a]; exact hP
    have hD : va_D A (wM h cy S_32) := by rw [eS_32, ← wMs_a]; exact hD
    refine lv_sipush (v := 204) hx hb dX12_undo_21 (by decide) ?_
    refine lv_bipush (v := 74) hx hb dX12_undo_24 (by decide) ?_
    refine lv_aload_n hx hb dX12_undo_26 rfl (lv_at hl 0 rfl) ?_
    refine va_get (D := D) (ci := 11) (v := .ref (h 0)) (C := RX12) (T := TX12) (N := 31) hx hb hts hin hown hK hP 0 rfl rfl 0 (by decide) w7 (fun _ h9 => h9) rfl dX12_undo_27 ?_
    refine lv_iconst (v := 4) hx hb dX12_undo_30 (by decide) ?_
    refine k_iald (f := (ms_a S_32)) (j := 4) hx hb hK hP 1 0 rfl rfl (by decide +kernel) rfl dX12_undo_31 ?_
    refine lv_imul hx hb dX12_undo_32 ?_
    refine lv_iadd hx hb dX12_undo_33 ?_
    refine lv_istore_n (lv' := [(1, .int (204 + (74 * ((ms_a S_32) 4)))), (0, .ref (h 31))]) hx hb dX12_undo_34 rfl hl (by decide) rfl (fun ls hl => ?_)
    refine lv_iconst (v := 0) hx hb dX12_undo_35 (by decide) ?_
    refine lv_istore_n (lv' := [(2, .int 0), (1, .int (204 + (74 * ((ms_a S_32) 4)))), (0, .ref (h 31))]) hx hb dX12_undo_36 rfl hl (by decide) rfl (fun ls hl => ?_)
    obtain ⟨n_37, hw⟩ := hw
    exact L_37 n_37 (204 + (74 * ((ms_a S_32) 4))) 0 S_32 _ _ _ hw hP hD hS (lv_sub hl [2, 1, 0] rfl)
  · have hw := hc_31t c_31
    clear hc_31t hc_31f
    refine lv_iconst (v := (-1)) hx hb dX12_undo_9 (by decide) ?_
    exact W.iret (v := (-1)) hx hb hr (fun t ht hW => ⟨⟨(-1), S, rfl, hw, by rw [ht]; exact hP, va_K.moved hW.alike hK, hD⟩, hS.F ht⟩) hS.2.2 dX12_undo_10
