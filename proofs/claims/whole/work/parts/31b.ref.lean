def wM_isOf (p1 : Int32) (S : MS) (post : Int32 → MS → Prop) : Prop := ((p1 < 6 → post 1 S) ∧ (¬ (p1 < 6) → ((11 ≤ p1 → (((ms_sort0 S) = 2 → post 1 S) ∧ (¬ ((ms_sort0 S) = 2) → post 0 S))) ∧ (¬ (11 ≤ p1) → (((ms_sort0 S) = 2 → post 0 S) ∧ (¬ ((ms_sort0 S) = 2) → post 1 S))))))
set_option maxHeartbeats 4000000 in
set_option maxRecDepth 100000 in
theorem cM_isOf (l : Launch) (D : va_G) (h : Nat → Nat) (cy : Nat → ClassId) (p1 : Int32) (S : MS) (post : Int32 → MS → Prop) (hw : wM_isOf p1 S post) : k_Mi l yX12_isOf wsX12_isOf { frames := 0, cells := 0, slots := 0, locals := 0 } D (tyM cy) (wM h cy) [.ref (h 31), .int p1] S post := by
  intro sz
  refine Met.ofW (cc := cX12_isOf) (maxL := 2) (ret := (some .boolean)) (by decide) rfl ?_
  intro p e s m args below meth c s₁ B hml hv
  obtain ⟨rfl, hsz, hP, hK, hD0⟩ := hv
  have hx := B.exec
  have hb := B.bytes
  have hr := B.returns
  have hts := atoms_spec (ws := wsX12_isOf) B.pre
  have hown : s.vm.findClass RX12 = some m.cls := findClass_of_methodNamed B.named
  have hlocks := B.notSynchronized
  subst hsz
  have hD := hD0.self (sz := s.heap.size)
  generalize hAe : va_A (wM h cy S) s.heap.size = A at hD ⊢
  have hA : ∀ q : Nat, s.heap.size ≤ q → A q := fun q h => by rw [← hAe]; exact Or.inr h
  have hS : va_S A s.heap s.heap [] := va_S.rf
  have hin : ∀ w ∈ wsX120, w ∈ wsX12_isOf := fun _ h => List.mem_cons_of_mem _ (List.mem_append_right _ h)
  have w161 := hts (.fieldLink RX12 161 "ClownsMournModel" "sort0" "I") (List.mem_of_getElem? (i := 1) rfl)
  have hl := lv_entry ([.ref (h 31), .int p1]) (n := 2) (Nat.le_of_ble_eq_true rfl)
  rw [lg_entry_eq]
  generalize (lg_sl ([.ref (h 31), .int p1]) ++ List.replicate (2 - (lg_sl ([.ref (h 31), .int p1])).length) Slot.unset).toArray = ls at hl ⊢
  have hl : lv_has ls 2 [(0, .ref (h 31)), (1, .int p1)] := hl
  unfold wM_isOf at hw
  clear hD0
  refine lv_iload_n hx hb dX12_isOf_0 rfl (lv_at hl 1 rfl) ?_
  refine lv_bipush (v := 6) hx hb dX12_isOf_1 (by decide) ?_
  obtain ⟨hc_1t, hc_1f⟩ := hw
  refine lv_icmp_lt (tgt := 31) hx hb dX12_isOf_3 (by decide) (fun c_1 => ?_) (fun c_1 => ?_)
  · have hw := hc_1t c_1
    clear hc_1t hc_1f
    refine lv_iconst (v := 1) hx hb dX12_isOf_31 (by decide) ?_
    refine lv_goto (tgt := 36) hx hb dX12_isOf_32 (by decide) ?_
    exact W.zret (v := 1) hx hb hr (by decide +kernel) (fun t ht hW => ⟨⟨1, S, rfl, hw, by rw [ht]; exact hP, va_K.moved hW.alike hK, hD⟩, hS.F ht⟩) hS.2.2 dX12_isOf_36
  · have hw := hc_1f c_1
    clear hc_1t hc_1f
    refine lv_iload_n hx hb dX12_isOf_6 rfl (lv_at hl 1 rfl) ?_
    refine lv_bipush (v := 11) hx hb dX12_isOf_7 (by decide) ?_
    obtain ⟨hc_2t, hc_2f⟩ := hw
    refine lv_icmp_ge (tgt := 23) hx hb dX12_isOf_9 (by decide) (fun c_2 => ?_) (fun c_2 => ?_)
    · have hw := hc_2t c_2
      clear hc_2t hc_2f
      refine lv_aload_n hx hb dX12_isOf_23 rfl (lv_at hl 0 rfl) ?_
      refine va_get (D := D) (ci := 11) (v := .int (ms_sort0 S)) (C := RX12) (T := TX12) (N := 31) hx hb hts hin hown hK hP 0 rfl rfl 14 (by decide) w161 (fun _ h9 => h9) rfl dX12_isOf_24 ?_
      refine lv_iconst (v := 2) hx hb dX12_isOf_27 (by decide) ?_
      obtain ⟨hc_3t, hc_3f⟩ := hw
      refine lv_icmp_ne (tgt := 35) hx hb dX12_isOf_28 (by decide) (fun c_3 => ?_) (fun c_3 => ?_)
      · have hw := hc_3f c_3
        clear hc_3t hc_3f
        refine lv_iconst (v := 0) hx hb dX12_isOf_35 (by decide) ?_
        exact W.zret (v := 0) hx hb hr (by decide +kernel) (fun t ht hW => ⟨⟨0, S, rfl, hw, by rw [ht]; exact hP, va_K.moved hW.alike hK, hD⟩, hS.F ht⟩) hS.2.2 dX12_isOf_36
      · have hw := hc_3t c_3
        clear hc_3t hc_3f
        refine lv_iconst (v := 1) hx hb dX12_isOf_31 (by decide) ?_
        refine lv_goto (tgt := 36) hx hb dX12_isOf_32 (by decide) ?_
        exact W.zret (v := 1) hx hb hr (by decide +kernel) (fun t ht hW => ⟨⟨1, S, rfl, hw, by rw [ht]; exact hP, va_K.moved hW.alike hK, hD⟩, hS.F ht⟩) hS.2.2 dX12_isOf_36
    · have hw := hc_2f c_2
      clear hc_2t hc_2f
      refine lv_aload_n hx hb dX12_isOf_12 rfl (lv_at hl 0 rfl) ?_
      refine va_get (D := D) (ci := 11) (v := .int (ms_sort0 S)) (C := RX12) (T := TX12) (N := 31) hx hb hts hin hown hK hP 0 rfl rfl 14 (by decide) w161 (fun _ h9 => h9) rfl dX12_isOf_13 ?_
      refine lv_iconst (v := 2) hx hb dX12_isOf_16 (by decide) ?_
      obtain ⟨hc_4t, hc_4f⟩ := hw
      refine lv_icmp_eq (tgt := 35) hx hb dX12_isOf_17 (by decide) (fun c_4 => ?_) (fun c_4 => ?_)
      · have hw := hc_4t c_4
        clear hc_4t hc_4f
        refine lv_iconst (v := 0) hx hb dX12_isOf_35 (by decide) ?_
        exact W.zret (v := 0) hx hb hr (by decide +kernel) (fun t ht hW => ⟨⟨0, S, rfl, hw, by rw [ht]; exact hP, va_K.moved hW.alike hK, hD⟩, hS.F ht⟩) hS.2.2 dX12_isOf_36
      · have hw := hc_4f c_4
        clear hc_4t hc_4f
        refine lv_goto (tgt := 31) hx hb dX12_isOf_20 (by decide) ?_
        refine lv_iconst (v := 1) hx hb dX12_isOf_31 (by decide) ?_
        refine lv_goto (tgt := 36) hx hb dX12_isOf_32 (by decide) ?_
        exact W.zret (v := 1) hx hb hr (by decide +kernel) (fun t ht hW => ⟨⟨1, S, rfl, hw, by rw [ht]; exact hP, va_K.moved hW.alike hK, hD⟩, hS.F ht⟩) hS.2.2 dX12_isOf_36
def wM_rank (p1 : Int32) (S : MS) (post : Int32 → MS → Prop) : Prop := ((p1 < 40 → ((p1 = 22 → post 1 S) ∧ (¬ (p1 = 22) → ((p1 = 21 → post 2 S) ∧ (¬ (p1 = 21) → ((p1 = 20 → post 3 S) ∧ (¬ (p1 = 20) → ((p1 < 10 → ((p1 = 5 → post 7 S) ∧ (¬ (p1 = 5) → ((p1 = 2 → post 7 S) ∧ (¬ (p1 = 2) → ((p1 = 4 → post 7 S) ∧ (¬ (p1 = 4) → ((p1 < 8 → post 5 S) ∧ (¬ (p1 < 8) → post 6 S))))))))) ∧ (¬ (p1 < 10) → post 4 S))))))))) ∧ (¬ (p1 < 40) → post 0 S))
set_option maxHeartbeats 4000000 in
set_option maxRecDepth 100000 in
theorem cM_rank (l : Launch) (D : va_G) (h : Nat → Nat) (cy : Nat → ClassId) (p1 : Int32) (S : MS) (post : Int32 → MS → Prop) (hw : wM_rank p1 S post) : k_Mi l yX12_rank wsX12_rank { frames := 0, cells := 0, slots := 0, locals := 0 } D (tyM cy) (wM h cy) [.int p1] S post := by
  intro sz
  refine Met.ofW (cc := cX12_rank) (maxL := 1) (ret := (some .int)) (by decide) rfl ?_
  intro p e s m args below meth c s₁ B hml hv
  obtain ⟨rfl, hsz, hP, hK, hD0⟩ := hv
  have hx := B.exec
  have hb := B.bytes
  have hr := B.returns
  have hts := atoms_spec (ws := wsX12_rank) B.pre
  have hown : s.vm.findClass RX12 = some m.cls := findClass_of_methodNamed B.named
  have hlocks := B.notSynchronized
  subst hsz
  have hD := hD0.self (sz := s.heap.size)
  generalize hAe : va_A (wM h cy S) s.heap.size = A at hD ⊢
  have hA : ∀ q : Nat, s.heap.size ≤ q → A q := fun q h => by rw [← hAe]; exact Or.inr h
  have hS : va_S A s.heap s.heap [] := va_S.rf
  have hl := lv_entry ([.int p1]) (n := 1) (Nat.le_of_ble_eq_true rfl)
  rw [lg_entry_eq]
  generalize (lg_sl ([.int p1]) ++ List.replicate (1 - (lg_sl ([.int p1])).length) Slot.unset).toArray = ls at hl ⊢
  have hl : lv_has ls 1 [(0, .int p1)] := hl
  unfold wM_rank at hw
  clear hD0
  refine lv_iload_n hx hb dX12_rank_0 rfl (lv_at hl 0 rfl) ?_
  refine lv_bipush (v := 40) hx hb dX12_rank_1 (by decide) ?_
  obtain ⟨hc_1t, hc_1f⟩ := hw
  refine lv_icmp_lt (tgt := 10) hx hb dX12_rank_3 (by decide) (fun c_1 => ?_) (fun c_1 => ?_)
  · have hw := hc_1t c_1
    clear hc_1t hc_1f
    refine lv_iload_n hx hb dX12_rank_10 rfl (lv_at hl 0 rfl) ?_
    refine lv_bipush (v := 22) hx hb dX12_rank_11 (by decide) ?_
    obtain ⟨hc_2t, hc_2f⟩ := hw
    refine lv_icmp_ne (tgt := 20) hx hb dX12_rank_13 (by decide) (fun c_2 => ?_) (fun c_2 => ?_)
    · have hw := hc_2f c_2
      clear hc_2t hc_2f
      refine lv_iload_n hx hb dX12_rank_20 rfl (lv_at hl 0 rfl) ?_
      refine lv_bipush (v := 21) hx hb dX12_rank_21 (by decide) ?_
      obtain ⟨hc_3t, hc_3f⟩ := hw
      refine lv_icmp_ne (tgt := 30) hx hb dX12_rank_23 (by decide) (fun c_3 => ?_) (fun c_3 => ?_)
      · have hw := hc_3f c_3
        clear hc_3t hc_3f
        refine lv_iload_n hx hb dX12_rank_30 rfl (lv_at hl 0 rfl) ?_
        refine lv_bipush (v := 20) hx hb dX12_rank_31 (by decide) ?_
        obtain ⟨hc_4t, hc_4f⟩ := hw
        refine lv_icmp_ne (tgt := 40) hx hb dX12_rank_33 (by decide) (fun c_4 => ?_) (fun c_4 => ?_)
        · have hw := hc_4f c_4
          clear hc_4t hc_4f
          refine lv_iload_n hx hb dX12_rank_40 rfl (lv_at hl 0 rfl) ?_
          refine lv_bipush (v := 10) hx hb dX12_rank_41 (by decide) ?_
          obtain ⟨hc_5t, hc_5f⟩ := hw
          refine lv_icmp_lt (tgt := 50) hx hb dX12_rank_43 (by decide) (fun c_5 => ?_) (fun c_5 => ?_)
          · have hw := hc_5t c_5
            clear hc_5t hc_5f
            refine lv_iload_n hx hb dX12_rank_50 rfl (lv_at hl 0 rfl) ?_
            refine lv_iconst (v := 5) hx hb dX12_rank_51 (by decide) ?_
            obtain ⟨hc_6t, hc_6f⟩ := hw
            refine lv_icmp_eq (tgt := 65) hx hb dX12_rank_52 (by decide) (fun c_6 => ?_) (fun c_6 => ?_)
            · have hw := hc_6t c_6
              clear hc_6t hc_6f
              refine lv_bipush (v := 7) hx hb dX12_rank_65 (by decide) ?_
              refine lv_goto (tgt := 82) hx hb dX12_rank_67 (by decide) ?_
              exact W.iret (v := 7) hx hb hr (fun t ht hW => ⟨⟨7, S, rfl, hw, by rw [ht]; exact hP, va_K.moved hW.alike hK, hD⟩, hS.F ht⟩) hS.2.2 dX12_rank_82
            · have hw := hc_6f c_6
              clear hc_6t hc_6f
              refine lv_iload_n hx hb dX12_rank_55 rfl (lv_at hl 0 rfl) ?_
              refine lv_iconst (v := 2) hx hb dX12_rank_56 (by decide) ?_
              obtain ⟨hc_7t, hc_7f⟩ := hw
              refine lv_icmp_eq (tgt := 65) hx hb dX12_rank_57 (by decide) (fun c_7 => ?_) (fun c_7 => ?_)
              · have hw := hc_7t c_7
                clear hc_7t hc_7f
                refine lv_bipush (v := 7) hx hb dX12_rank_65 (by decide) ?_
                refine lv_goto (tgt := 82) hx hb dX12_rank_67 (by decide) ?_
                exact W.iret (v := 7) hx hb hr (fun t ht hW => ⟨⟨7, S, rfl, hw, by rw [ht]; exact hP, va_K.moved hW.alike hK, hD⟩, hS.F ht⟩) hS.2.2 dX12_rank_82
              · have hw := hc_7f c_7
                clear hc_7t hc_7f
                refine lv_iload_n hx hb dX12_rank_60 rfl (lv_at hl 0 rfl) ?_
                refine lv_iconst (v := 4) hx hb dX12_rank_61 (by decide) ?_
                obtain ⟨hc_8t, hc_8f⟩ := hw
                refine lv_icmp_ne (tgt := 70) hx hb dX12_rank_62 (by decide) (fun c_8 => ?_) (fun c_8 => ?_)
                · have hw := hc_8f c_8
                  clear hc_8t hc_8f
                  refine lv_iload_n hx hb dX12_rank_70 rfl (lv_at hl 0 rfl) ?_
                  refine lv_bipush (v := 8) hx hb dX12_rank_71 (by decide) ?_
                  obtain ⟨hc_9t, hc_9f⟩ := hw
                  refine lv_icmp_lt (tgt := 81) hx hb dX12_rank_73 (by decide) (fun c_9 => ?_) (fun c_9 => ?_)
                  · have hw := hc_9t c_9
                    clear hc_9t hc_9f
                    refine lv_iconst (v := 5) hx hb dX12_rank_81 (by decide) ?_
                    exact W.iret (v := 5) hx hb hr (fun t ht hW => ⟨⟨5, S, rfl, hw, by rw [ht]; exact hP, va_K.moved hW.alike hK, hD⟩, hS.F ht⟩) hS.2.2 dX12_rank_82
                  · have hw := hc_9f c_9
                    clear hc_9t hc_9f
                    refine lv_bipush (v := 6) hx hb dX12_rank_76 (by decide) ?_
                    refine lv_goto (tgt := 82) hx hb dX12_rank_78 (by decide) ?_
                    exact W.iret (v := 6) hx hb hr (fun t ht hW => ⟨⟨6, S, rfl, hw, by rw [ht]; exact hP, va_K.moved hW.alike hK, hD⟩, hS.F ht⟩) hS.2.2 dX12_rank_82
                · have hw := hc_8t c_8
                  clear hc_8t hc_8f
                  refine lv_bipush (v := 7) hx hb dX12_rank_65 (by decide) ?_
                  refine lv_goto (tgt := 82) hx hb dX12_rank_67 (by decide) ?_
                  exact W.iret (v := 7) hx hb hr (fun t ht hW => ⟨⟨7, S, rfl, hw, by rw [ht]; exact hP, va_K.moved hW.alike hK, hD⟩, hS.F ht⟩) hS.2.2 dX12_rank_82
          · have hw := hc_5f c_5
            clear hc_5t hc_5f
            refine lv_iconst (v := 4) hx hb dX12_rank_46 (by decide) ?_
            refine lv_goto (tgt := 82) hx hb dX12_rank_47 (by decide) ?_
            exact W.iret (v := 4) hx hb hr (fun t ht hW => ⟨⟨4, S, rfl, hw, by rw [ht]; exact hP, va_K.moved hW.alike hK, hD⟩, hS.F ht⟩) hS.2.2 dX12_rank_82
        · have hw := hc_4t c_4
          clear hc_4t hc_4f
          refine lv_iconst (v := 3) hx hb dX12_rank_36 (by decide) ?_
          refine lv_goto (tgt := 82) hx hb dX12_rank_37 (by decide) ?_
          exact W.iret (v := 3) hx hb hr (fun t ht hW => ⟨⟨3, S, rfl, hw, by rw [ht]; exact hP, va_K.moved hW.alike hK, hD⟩, hS.F ht⟩) hS.2.2 dX12_rank_82
      · have hw := hc_3t c_3
        clear hc_3t hc_3f
        refine lv_iconst (v := 2) hx hb dX12_rank_26 (by decide) ?_
        refine lv_goto (tgt := 82) hx hb dX12_rank_27 (by decide) ?_
        exact W.iret (v := 2) hx hb hr (fun t ht hW => ⟨⟨2, S, rfl, hw, by rw [ht]; exact hP, va_K.moved hW.alike hK, hD⟩, hS.F ht⟩) hS.2.2 dX12_rank_82
    · have hw := hc_2t c_2
      clear hc_2t hc_2f
      refine lv_iconst (v := 1) hx hb dX12_rank_16 (by decide) ?_
      refine lv_goto (tgt := 82) hx hb dX12_rank_17 (by decide) ?_
      exact W.iret (v := 1) hx hb hr (fun t ht hW => ⟨⟨1, S, rfl, hw, by rw [ht]; exact hP, va_K.moved hW.alike hK, hD⟩, hS.F ht⟩) hS.2.2 dX12_rank_82
  · have hw := hc_1f c_1
    clear hc_1t hc_1f
    refine lv_iconst (v := 0) hx hb dX12_rank_6 (by decide) ?_
    refine lv_goto (tgt := 82) hx hb dX12_rank_7 (by decide) ?_
    exact W.iret (v := 0) hx hb hr (fun t ht hW => ⟨⟨0, S, rfl, hw, by rw [ht]; exact hP, va_K.moved hW.alike hK, hD⟩, hS.F ht⟩) hS.2.2 dX12_rank_82
def wM_settle_0 (post : MS → Prop) : Nat → Int32 → MS → Prop
  | 0, _, _ => False
  | n + 1, x1, S => (((ms_piled S) ≤ 0 → post S) ∧ (¬ ((ms_piled S) ≤ 0) → (vp_in ((ms_piled S) - 1) 160 ∧ wM_rank ((ms_pile S) ((ms_piled S) - 1).toNatClampNeg) S (fun r_2 S_3 => ((r_2 < x1 → post S_3) ∧ (¬ (r_2 < x1) → (∀ S_5 : MS, S_5 = (ms_set_piled S_3 ((ms_piled S_3) - 1)) → (vp_in (ms_piled S_5) 160 ∧ wM_emit ((ms_pile S_5) (ms_piled S_5).toNatClampNeg) 0 S_5 (fun S_7 => (vp_in (ms_piled S_7) 160 ∧ wM_rank ((ms_pile S_7) (ms_piled S_7).toNatClampNeg) S_7 (fun r_8 S_9 => ((r_8 = 7 → (∀ S_11 : MS, S_11 = (ms_set_opens S_9 ((ms_opens S_9) - 1)) → wM_settle_0 post n x1 S_11)) ∧ (¬ (r_8 = 7) → (vp_in (ms_piled S_9) 160 ∧ ((((ms_pile S_9) (ms_piled S_9).toNatClampNeg) = 20 → (∀ S_13 : MS, S_13 = (ms_set_opens S_9 ((ms_opens S_9) - 1)) → wM_settle_0 post n x1 S_13)) ∧ (¬ (((ms_pile S_9) (ms_piled S_9).toNatClampNeg) = 20) → wM_settle_0 post n x1 S_9))))))))))))))))
def wM_settle (p1 : Int32) (S : MS) (post : MS → Prop) : Prop := ∃ k_ : Nat, wM_settle_0 post k_ p1 S
set_option maxHeartbeats 4000000 in
set_option maxRecDepth 100000 in
theorem cM_settle (l : Launch) (D : va_G) (h : Nat → Nat) (cy : Nat → ClassId) (p1 : Int32) (S : MS) (post : MS → Prop) (hw : wM_settle p1 S post) : k_Mv l yX12_settle wsX12_settle { frames := 1, cells := 0, slots := 0, locals := 22 } D (tyM cy) (wM h cy) [.ref (h 31), .int p1] S post := by
  intro sz
  refine Met.ofW (cc := cX12_settle) (maxL := 2) (ret := none) (by decide) rfl ?_
  intro p e s m args below meth c s₁ B hml hv
  obtain ⟨rfl, hsz, hP, hK, hD0⟩ := hv
  have hx := B.exec
  have hb := B.bytes
  have hr := B.returns
  have hts := atoms_spec (ws := wsX12_settle) B.pre
  have hown : s.vm.findClass RX12 = some m.cls := findClass_of_methodNamed B.named
  have hlocks := B.notSynchronized
  subst hsz
  have hD := hD0.self (sz := s.heap.size)
  generalize hAe : va_A (wM h cy S) s.heap.size = A at hD ⊢
  have hA : ∀ q : Nat, s.heap.size ≤ q → A q := fun q h => by rw [← hAe]; exact Or.inr h
  have hS : va_S A s.heap s.heap [] := va_S.rf
  have hin : ∀ w ∈ wsX120, w ∈ wsX12_settle := fun _ h => List.mem_cons_of_mem _ (List.mem_append_right _ h)
  have w29 := hts (.fieldLink RX12 29 "ClownsMournModel" "pile" "[I") (List.mem_of_getElem? (i := 2) rfl)
  have w164 := hts (.fieldLink RX12 164 "ClownsMournModel" "piled" "I") (List.mem_of_getElem? (i := 1) rfl)
  have w174 := hts (.fieldLink RX12 174 "ClownsMournModel" "opens" "I") (List.mem_of_getElem? (i := 3) rfl)
  have hl := lv_entry ([.ref (h 31), .int p1]) (n := 2) (Nat.le_of_ble_eq_true rfl)
  rw [lg_entry_eq]
  generalize (lg_sl ([.ref (h 31), .int p1]) ++ List.replicate (2 - (lg_sl ([.ref (h 31), .int p1])).length) Slot.unset).toArray = ls at hl ⊢
  have hl : lv_has ls 2 [(0, .ref (h 31)), (1, .int p1)] := hl
  unfold wM_settle at hw
  clear hD0
  have L_0 : ∀ (n0 : Nat) (x1 : Int32) (S : MS) (H : Heap) (locs : List Loc) (ls : Array Slot), wM_settle_0 post n0 x1 S → va_P D vwCl (wM h cy S) H → va_D A (wM h cy S) → va_S A s.heap H locs → lv_has ls 2 [(0, .ref (h 31)), (1, .int x1)] → W p l e (headSpec wsX12_settle { frames := 1, cells := 0, slots := 0, locals := 22 }).room s m (([.ref (h 31), .int p1] : List Value).toArray) below meth c H locs 0 0 (MQ below (va_Qv post (k_Post D (tyM cy) (wM h cy) A) A) (([.ref (h 31), .int p1] : List Value).toArray) s 0 0 A) (F0 m 0 ls []) := by
    intro n0
    induction n0 with
    | zero => intro x1 S H locs ls hw; exact False.elim hw
    | succ n0 ih_0 =>
      intro x1 S H locs ls hw hP hD hS hl
      unfold wM_settle_0 at hw
      refine lv_aload_n hx hb dX12_settle_0 rfl (lv_at hl 0 rfl) ?_
      refine va_get (D := D) (ci := 11) (v := .int (ms_piled S)) (C := RX12) (T := TX12) (N := 31) hx hb hts hin hown hK hP 0 rfl rfl 16 (by decide) w164 (fun _ h9 => h9) rfl dX12_settle_1 ?_
      obtain ⟨hc_1t, hc_1f⟩ := hw
      refine lv_if_le (tgt := 93) hx hb dX12_settle_4 (by decide) (fun c_1 => ?_) (fun c_1 => ?_)
      · have hw := hc_1t c_1
        clear hc_1t hc_1f
        exact W.vret hx hb hr (fun t ht hW => ⟨⟨S, rfl, hw, by rw [ht]; exact hP, va_K.moved hW.alike hK, hD⟩, hS.F ht⟩) hS.2.2 dX12_settle_93
      · have hw := hc_1f c_1
        clear hc_1t hc_1f
        refine lv_aload_n hx hb dX12_settle_7 rfl (lv_at hl 0 rfl) ?_
        refine va_get (D := D) (ci := 11) (v := .ref (h 15)) (C := RX12) (T := TX12) (N := 31) hx hb hts hin hown hK hP 0 rfl rfl 15 (by decide) w29 (fun _ h9 => h9) rfl dX12_settle_8 ?_
        refine lv_aload_n hx hb dX12_settle_11 rfl (lv_at hl 0 rfl) ?_
        refine va_get (D := D) (ci := 11) (v := .int (ms_piled S)) (C := RX12) (T := TX12) (N := 31) hx hb hts hin hown hK hP 0 rfl rfl 16 (by decide) w164 (fun _ h9 => h9) rfl dX12_settle_12 ?_
        refine lv_iconst (v := 1) hx hb dX12_settle_15 (by decide) ?_
        refine lv_isub hx hb dX12_settle_16 ?_
        obtain ⟨hi_17, hw⟩ := hw
        refine va_iald (f := (ms_pile S)) hx hb hK hP 5 4 rfl rfl hi_17 dX12_settle_17 ?_
        refine k_callSi (As := [.int ((ms_pile S) ((ms_piled S) - 1).toNatClampNeg)]) (rest := []) ⟨hx, hb, hml, hown, hts⟩ (cM_rank l D h cy _ _ _ hw) (va_cwS 1 hts gX12_settle_X12_rank rfl rfl rfl (by decide +kernel) ⟨Nat.le_of_ble_eq_true rfl, Nat.le_of_ble_eq_true rfl⟩) hK hP hD hS hA rfl hl.1 rfl (Nat.le_of_ble_eq_true rfl) dX12_settle_18 ⟨Nat.zero_le _, Nat.zero_le _⟩ (fun r_2 S_3 H locs hw hP hD hS => ?_)
        refine lv_iload_n hx hb dX12_settle_21 rfl (lv_at hl 1 rfl) ?_
        obtain ⟨hc_4t, hc_4f⟩ := hw
        refine lv_icmp_lt (tgt := 93) hx hb dX12_settle_22 (by decide) (fun c_4 => ?_) (fun c_4 => ?_)
        · have hw := hc_4t c_4
          clear hc_4t hc_4f
          exact W.vret hx hb hr (fun t ht hW => ⟨⟨S_3, rfl, hw, by rw [ht]; exact hP, va_K.moved hW.alike hK, hD⟩, hS.F ht⟩) hS.2.2 dX12_settle_93
        · have hw := hc_4f c_4
          clear hc_4t hc_4f
          refine lv_aload_n hx hb dX12_settle_25 rfl (lv_at hl 0 rfl) ?_
          refine lv_dup hx hb dX12_settle_26 rfl ?_
          refine va_get (D := D) (ci := 11) (v := .int (ms_piled S_3)) (C := RX12) (T := TX12) (N := 31) hx hb hts hin hown hK hP 0 rfl rfl 16 (by decide) w164 (fun _ h9 => h9) rfl dX12_settle_27 ?_
          refine lv_iconst (v := 1) hx hb dX12_settle_30 (by decide) ?_
          refine lv_isub hx hb dX12_settle_31 ?_
          refine va_put (D := D) (ci := 11) (v := .int ((ms_piled S_3) - 1)) (ty := .int) (C := RX12) (T := TX12) (N := 31) hx hb hts hin tyX12 tyX12_ok nmX12 hown hK hP hD hS 0 rfl rfl 16 (by decide) w164 (fun _ h9 => h9) rfl (tyX12_ok 16 (by decide)) rfl rfl (Nat.le_of_ble_eq_true rfl) dX12_settle_32 (fun H locs hP hD hS => ?_)
          obtain ⟨S_5, eS_5⟩ : ∃ z : MS, z = (ms_set_piled S_3 ((ms_piled S_3) - 1)) := ⟨_, rfl⟩
          have hw := hw S_5 eS_5
          have hP : va_P D vwCl (wM h cy S_5) H := by rw [eS_5, ← wMp_piled]; exact hP
          have hD : va_D A (wM h cy S_5) := by rw [eS_5, ← wMp_piled]; exact hD
          refine lv_aload_n hx hb dX12_settle_35 rfl (lv_at hl 0 rfl) ?_
          refine lv_aload_n hx hb dX12_settle_36 rfl (lv_at hl 0 rfl) ?_
          refine va_get (D := D) (ci := 11) (v := .ref (h 15)) (C := RX12) (T := TX12) (N := 31) hx hb hts hin hown hK hP 0 rfl rfl 15 (by decide) w29 (fun _ h9 => h9) rfl dX12_settle_37 ?_
          refine lv_aload_n hx hb dX12_settle_40 rfl (lv_at hl 0 rfl) ?_
          refine va_get (D := D) (ci := 11) (v := .int (ms_piled S_5)) (C := RX12) (T := TX12) (N := 31) hx hb hts hin hown hK hP 0 rfl rfl 16 (by decide) w164 (fun _ h9 => h9) rfl dX12_settle_41 ?_
          obtain ⟨hi_16, hw⟩ := hw
          refine va_iald (f := (ms_pile S_5)) hx hb hK hP 5 4 rfl rfl hi_16 dX12_settle_44 ?_
          refine lv_iconst (v := 0) hx hb dX12_settle_45 (by decide) ?_
          refine k_callVv (As := [.int ((ms_pile S_5) (ms_piled S_5).toNatClampNeg), .int 0]) (rest := []) ⟨hx, hb, hml, hown, hts⟩ (cM_emit l D h cy _ _ _ _ hw) (cwV 2 hts gX12_settle_X12_emit rfl rfl rfl (by decide +kernel) ⟨Nat.le_of_ble_eq_true rfl, Nat.le_of_ble_eq_true rfl⟩) (va_recv hK hP (ci := 11) (q0 := 0) rfl rfl) hK hP hD hS hA rfl hl.1 rfl (Nat.le_of_ble_eq_true rfl) dX12_settle_46 ⟨Nat.zero_le _, Nat.zero_le _⟩ (fun S_7 H locs hw hP hD hS => ?_)
          refine lv_aload_n hx hb dX12_settle_49 rfl (lv_at hl 0 rfl) ?_
          refine va_get (D := D) (ci := 11) (v := .ref (h 15)) (C := RX12) (T := TX12) (N := 31) hx hb hts hin hown hK hP 0 rfl rfl 15 (by decide) w29 (fun _ h9 => h9) rfl dX12_settle_50 ?_
          refine lv_aload_n hx hb dX12_settle_53 rfl (lv_at hl 0 rfl) ?_
          refine va_get (D := D) (ci := 11) (v := .int (ms_piled S_7)) (C := RX12) (T := TX12) (N := 31) hx hb hts hin hown hK hP 0 rfl rfl 16 (by decide) w164 (fun _ h9 => h9) rfl dX12_settle_54 ?_
          obtain ⟨hi_15, hw⟩ := hw
          refine va_iald (f := (ms_pile S_7)) hx hb hK hP 5 4 rfl rfl hi_15 dX12_settle_57 ?_
          refine k_callSi (As := [.int ((ms_pile S_7) (ms_piled S_7).toNatClampNeg)]) (rest := []) ⟨hx, hb, hml, hown, hts⟩ (cM_rank l D h cy _ _ _ hw) (va_cwS 1 hts gX12_settle_X12_rank rfl rfl rfl (by decide +kernel) ⟨Nat.le_of_ble_eq_true rfl, Nat.le_of_ble_eq_true rfl⟩) hK hP hD hS hA rfl hl.1 rfl (Nat.le_of_ble_eq_true rfl) dX12_settle_58 ⟨Nat.zero_le _, Nat.zero_le _⟩ (fun r_8 S_9 H locs hw hP hD hS => ?_)
          refine lv_bipush (v := 7) hx hb dX12_settle_61 (by decide) ?_
          obtain ⟨hc_10t, hc_10f⟩ := hw
          refine lv_icmp_eq (tgt := 80) hx hb dX12_settle_63 (by decide) (fun c_10 => ?_) (fun c_10 => ?_)
          · have hw := hc_10t c_10
            clear hc_10t hc_10f
            refine lv_aload_n hx hb dX12_settle_80 rfl (lv_at hl 0 rfl) ?_
            refine lv_dup hx hb dX12_settle_81 rfl ?_
            refine va_get (D := D) (ci := 11) (v := .int (ms_opens S_9)) (C := RX12) (T := TX12) (N := 31) hx hb hts hin hown hK hP 0 rfl rfl 17 (by decide) w174 (fun _ h9 => h9) rfl dX12_settle_82 ?_
            refine lv_iconst (v := 1) hx hb dX12_settle_85 (by decide) ?_
            refine lv_isub hx hb dX12_settle_86 ?_
            refine va_put (D := D) (ci := 11) (v := .int ((ms_opens S_9) - 1)) (ty := .int) (C := RX12) (T := TX12) (N := 31) hx hb hts hin tyX12 tyX12_ok nmX12 hown hK hP hD hS 0 rfl rfl 17 (by decide) w174 (fun _ h9 => h9) rfl (tyX12_ok 17 (by decide)) rfl rfl (Nat.le_of_ble_eq_true rfl) dX12_settle_87 (fun H locs hP hD hS => ?_)
            obtain ⟨S_11, eS_11⟩ : ∃ z : MS, z = (ms_set_opens S_9 ((ms_opens S_9) - 1)) := ⟨_, rfl⟩
            have hw := hw S_11 eS_11
            have hP : va_P D vwCl (wM h cy S_11) H := by rw [eS_11, ← wMp_opens]; exact hP
            have hD : va_D A (wM h cy S_11) := by rw [eS_11, ← wMp_opens]; exact hD
            refine lv_goto (tgt := 0) hx hb dX12_settle_90 (by decide) ?_
            exact ih_0 x1 S_11 _ _ _ hw hP hD hS (lv_sub hl [0, 1] rfl)
          · have hw := hc_10f c_10
            clear hc_10t hc_10f
            refine lv_aload_n hx hb dX12_settle_66 rfl (lv_at hl 0 rfl) ?_
            refine va_get (D := D) (ci := 11) (v := .ref (h 15)) (C := RX12) (T := TX12) (N := 31) hx hb hts hin hown hK hP 0 rfl rfl 15 (by decide) w29 (fun _ h9 => h9) rfl dX12_settle_67 ?_
            refine lv_aload_n hx hb dX12_settle_70 rfl (lv_at hl 0 rfl) ?_
            refine va_get (D := D) (ci := 11) (v := .int (ms_piled S_9)) (C := RX12) (T := TX12) (N := 31) hx hb hts hin hown hK hP 0 rfl rfl 16 (by decide) w164 (fun _ h9 => h9) rfl dX12_settle_71 ?_
            obtain ⟨hi_14, hw⟩ := hw
            refine va_iald (f := (ms_pile S_9)) hx hb hK hP 5 4 rfl rfl hi_14 dX12_settle_74 ?_
            refine lv_bipush (v := 20) hx hb dX12_settle_75 (by decide) ?_
            obtain ⟨hc_12t, hc_12f⟩ := hw
            refine lv_icmp_ne (tgt := 0) hx hb dX12_settle_77 (by decide) (fun c_12 => ?_) (fun c_12 => ?_)
            · have hw := hc_12f c_12
              clear hc_12t hc_12f
              exact ih_0 x1 S_9 _ _ _ hw hP hD hS (lv_sub hl [0, 1] rfl)
            · have hw := hc_12t c_12
              clear hc_12t hc_12f
              refine lv_aload_n hx hb dX12_settle_80 rfl (lv_at hl 0 rfl) ?_
              refine lv_dup hx hb dX12_settle_81 rfl ?_
              refine va_get (D := D) (ci := 11) (v := .int (ms_opens S_9)) (C := RX12) (T := TX12) (N := 31) hx hb hts hin hown hK hP 0 rfl rfl 17 (by decide) w174 (fun _ h9 => h9) rfl dX12_settle_82 ?_
              refine lv_iconst (v := 1) hx hb dX12_settle_85 (by decide) ?_
              refine lv_isub hx hb dX12_settle_86 ?_
              refine va_put (D := D) (ci := 11) (v := .int ((ms_opens S_9) - 1)) (ty := .int) (C := RX12) (T := TX12) (N := 31) hx hb hts hin tyX12 tyX12_ok nmX12 hown hK hP hD hS 0 rfl rfl 17 (by decide) w174 (fun _ h9 => h9) rfl (tyX12_ok 17 (by decide)) rfl rfl (Nat.le_of_ble_eq_true rfl) dX12_settle_87 (fun H locs hP hD hS => ?_)
              obtain ⟨S_13, eS_13⟩ : ∃ z : MS, z = (ms_set_opens S_9 ((ms_opens S_9) - 1)) := ⟨_, rfl⟩
              have hw := hw S_13 eS_13
              have hP : va_P D vwCl (wM h cy S_13) H := by rw [eS_13, ← wMp_opens]; exact hP
              have hD : va_D A (wM h cy S_13) := by rw [eS_13, ← wMp_opens]; exact hD
              refine lv_goto (tgt := 0) hx hb dX12_settle_90 (by decide) ?_
              exact ih_0 x1 S_13 _ _ _ hw hP hD hS (lv_sub hl [0, 1] rfl)
  obtain ⟨n_0, hw⟩ := hw
  exact L_0 n_0 p1 S _ _ _ hw hP hD hS (lv_sub hl [0, 1] rfl)
def wM_openAt_7 (post : Int32 → MS → Prop) : Nat → Int32 → MS → Prop
  | 0, _, _ => False
  | n + 1, x1, S => ((x1 < 0 → post x1 S) ∧ (¬ (x1 < 0) → (vp_in x1 160 ∧ ((40 ≤ ((ms_pile S) x1.toNatClampNeg) → post x1 S) ∧ (¬ (40 ≤ ((ms_pile S) x1.toNatClampNeg)) → wM_openAt_7 post n (x1 + (-1)) S)))))
def wM_openAt (S : MS) (post : Int32 → MS → Prop) : Prop := ∃ k_ : Nat, wM_openAt_7 post k_ ((ms_piled S) - 1) S
set_option maxHeartbeats 4000000 in
set_option maxRecDepth 100000 in
theorem cM_openAt (l : Launch) (D : va_G) (h : Nat → Nat) (cy : Nat → ClassId) (S : MS) (post : Int32 → MS → Prop) (hw : wM_openAt S post) : k_Mi l yX12_openAt wsX12_openAt { frames := 0, cells := 0, slots := 0, locals := 0 } D (tyM cy) (wM h cy) [.ref (h 31)] S post := by
  intro sz
  refine Met.ofW (cc := cX12_openAt) (maxL := 2) (ret := (some .int)) (by decide) rfl ?_
  intro p e s m args below meth c s₁ B hml hv
  obtain ⟨rfl, hsz, hP, hK, hD0⟩ := hv
  have hx := B.exec
  have hb := B.bytes
  have hr := B.returns
  have hts := atoms_spec (ws := wsX12_openAt) B.pre
  have hown : s.vm.findClass RX12 = some m.cls := findClass_of_methodNamed B.named
  have hlocks := B.notSynchronized
  subst hsz
  have hD := hD0.self (sz := s.heap.size)
  generalize hAe : va_A (wM h cy S) s.heap.size = A at hD ⊢
  have hA : ∀ q : Nat, s.heap.size ≤ q → A q := fun q h => by rw [← hAe]; exact Or.inr h
  have hS : va_S A s.heap s.heap [] := va_S.rf
  have hin : ∀ w ∈ wsX120, w ∈ wsX12_openAt := fun _ h => List.mem_cons_of_mem _ (List.mem_append_right _ h)
  have w29 := hts (.fieldLink RX12 29 "ClownsMournModel" "pile" "[I") (List.mem_of_getElem? (i := 2) rfl)
  have w164 := hts (.fieldLink RX12 164 "ClownsMournModel" "piled" "I") (List.mem_of_getElem? (i := 1) rfl)
  have hl := lv_entry ([.ref (h 31)]) (n := 2) (Nat.le_of_ble_eq_true rfl)
  rw [lg_entry_eq]
  generalize (lg_sl ([.ref (h 31)]) ++ List.replicate (2 - (lg_sl ([.ref (h 31)])).length) Slot.unset).toArray = ls at hl ⊢
  have hl : lv_has ls 2 [(0, .ref (h 31))] := hl
  unfold wM_openAt at hw
  clear hD0
  have L_7 : ∀ (n7 : Nat) (x1 : Int32) (S : MS) (H : Heap) (locs : List Loc) (ls : Array Slot), wM_openAt_7 post n7 x1 S → va_P D vwCl (wM h cy S) H → va_D A (wM h cy S) → va_S A s.heap H locs → lv_has ls 2 [(0, .ref (h 31)), (1, .int x1)] → W p l e (headSpec wsX12_openAt { frames := 0, cells := 0, slots := 0, locals := 0 }).room s m (([.ref (h 31)] : List Value).toArray) below meth c H locs 0 0 (MQ below (va_Qi post (k_Post D (tyM cy) (wM h cy) A) A) (([.ref (h 31)] : List Value).toArray) s 0 0 A) (F0 m 7 ls []) := by
    intro n7
    induction n7 with
    | zero => intro x1 S H locs ls hw; exact False.elim hw
    | succ n7 ih_7 =>
      intro x1 S H locs ls hw hP hD hS hl
      unfold wM_openAt_7 at hw
      refine lv_iload_n hx hb dX12_openAt_7 rfl (lv_at hl 1 rfl) ?_
      obtain ⟨hc_1t, hc_1f⟩ := hw
      refine lv_if_lt (tgt := 28) hx hb dX12_openAt_8 (by decide) (fun c_1 => ?_) (fun c_1 => ?_)
      · have hw := hc_1t c_1
        clear hc_1t hc_1f
        refine lv_iload_n hx hb dX12_openAt_28 rfl (lv_at hl 1 rfl) ?_
        exact W.iret (v := x1) hx hb hr (fun t ht hW => ⟨⟨x1, S, rfl, hw, by rw [ht]; exact hP, va_K.moved hW.alike hK, hD⟩, hS.F ht⟩) hS.2.2 dX12_openAt_29
      · have hw := hc_1f c_1
        clear hc_1t hc_1f
        refine lv_aload_n hx hb dX12_openAt_11 rfl (lv_at hl 0 rfl) ?_
        refine va_get (D := D) (ci := 11) (v := .ref (h 15)) (C := RX12) (T := TX12) (N := 31) hx hb hts hin hown hK hP 0 rfl rfl 15 (by decide) w29 (fun _ h9 => h9) rfl dX12_openAt_12 ?_
        refine lv_iload_n hx hb dX12_openAt_15 rfl (lv_at hl 1 rfl) ?_
        obtain ⟨hi_3, hw⟩ := hw
        refine va_iald (f := (ms_pile S)) hx hb hK hP 5 4 rfl rfl hi_3 dX12_openAt_16 ?_
        refine lv_bipush (v := 40) hx hb dX12_openAt_17 (by decide) ?_
        obtain ⟨hc_2t, hc_2f⟩ := hw
        refine lv_icmp_ge (tgt := 28) hx hb dX12_openAt_19 (by decide) (fun c_2 => ?_) (fun c_2 => ?_)
        · have hw := hc_2t c_2
          clear hc_2t hc_2f
          refine lv_iload_n hx hb dX12_openAt_28 rfl (lv_at hl 1 rfl) ?_
          exact W.iret (v := x1) hx hb hr (fun t ht hW => ⟨⟨x1, S, rfl, hw, by rw [ht]; exact hP, va_K.moved hW.alike hK, hD⟩, hS.F ht⟩) hS.2.2 dX12_openAt_29
        · have hw := hc_2f c_2
          clear hc_2t hc_2f
          refine lv_iinc (v := x1 + (-1)) (lv' := [(1, .int (x1 + (-1))), (0, .ref (h 31))]) hx hb dX12_openAt_22 hl (k := 1) rfl (k_inc (by decide)) (by decide) rfl (fun ls hl => ?_)
          refine lv_goto (tgt := 7) hx hb dX12_openAt_25 (by decide) ?_
          exact ih_7 (x1 + (-1)) S _ _ _ hw hP hD hS (lv_sub hl [1, 0] rfl)
  refine lv_aload_n hx hb dX12_openAt_0 rfl (lv_at hl 0 rfl) ?_
  refine va_get (D := D) (ci := 11) (v := .int (ms_piled S)) (C := RX12) (T := TX12) (N := 31) hx hb hts hin hown hK hP 0 rfl rfl 16 (by decide) w164 (fun _ h9 => h9) rfl dX12_openAt_1 ?_
  refine lv_iconst (v := 1) hx hb dX12_openAt_4 (by decide) ?_
  refine lv_isub hx hb dX12_openAt_5 ?_
  refine lv_istore_n (lv' := [(1, .int ((ms_piled S) - 1)), (0, .ref (h 31))]) hx hb dX12_openAt_6 rfl hl (by decide) rfl (fun ls hl => ?_)
  obtain ⟨n_7, hw⟩ := hw
  exact L_7 n_7 ((ms_piled S) - 1) S _ _ _ hw hP hD hS (lv_sub hl [1, 0] rfl)
def wM_openNow (S : MS) (post : Int32 → MS → Prop) : Prop := wM_openAt S (fun r_1 S_2 => ((0 ≤ r_1 → wM_openAt S_2 (fun r_4 S_5 => (vp_in r_4 160 ∧ post ((ms_pile S_5) r_4.toNatClampNeg) S_5))) ∧ (¬ (0 ≤ r_1) → post (-1) S_2)))
set_option maxHeartbeats 4000000 in
set_option maxRecDepth 100000 in
theorem cM_openNow (l : Launch) (D : va_G) (h : Nat → Nat) (cy : Nat → ClassId) (S : MS) (post : Int32 → MS → Prop) (hw : wM_openNow S post) : k_Mi l yX12_openNow wsX12_openNow { frames := 1, cells := 0, slots := 0, locals := 21 } D (tyM cy) (wM h cy) [.ref (h 31)] S post := by
  intro sz
  refine Met.ofW (cc := cX12_openNow) (maxL := 1) (ret := (some .int)) (by decide) rfl ?_
  intro p e s m args below meth c s₁ B hml hv
  obtain ⟨rfl, hsz, hP, hK, hD0⟩ := hv
  have hx := B.exec
  have hb := B.bytes
  have hr := B.returns
  have hts := atoms_spec (ws := wsX12_openNow) B.pre
  have hown : s.vm.findClass RX12 = some m.cls := findClass_of_methodNamed B.named
  have hlocks := B.notSynchronized
  subst hsz
  have hD := hD0.self (sz := s.heap.size)
  generalize hAe : va_A (wM h cy S) s.heap.size = A at hD ⊢
  have hA : ∀ q : Nat, s.heap.size ≤ q → A q := fun q h => by rw [← hAe]; exact Or.inr h
  have hS : va_S A s.heap s.heap [] := va_S.rf
  have hin : ∀ w ∈ wsX120, w ∈ wsX12_openNow := fun _ h => List.mem_cons_of_mem _ (List.mem_append_right _ h)
  have w29 := hts (.fieldLink RX12 29 "ClownsMournModel" "pile" "[I") (List.mem_of_getElem? (i := 1) rfl)
  have hl := lv_entry ([.ref (h 31)]) (n := 1) (Nat.le_of_ble_eq_true rfl)
  rw [lg_entry_eq]
  generalize (lg_sl ([.ref (h 31)]) ++ List.replicate (1 - (lg_sl ([.ref (h 31)])).length) Slot.unset).toArray = ls at hl ⊢
  have hl : lv_has ls 1 [(0, .ref (h 31))] := hl
  unfold wM_openNow at hw
  clear hD0
  refine lv_aload_n hx hb dX12_openNow_0 rfl (lv_at hl 0 rfl) ?_
  refine k_callVi (As := []) (rest := []) ⟨hx, hb, hml, hown, hts⟩ (cM_openAt l D h cy _ _ hw) (cwV 0 hts gX12_openNow_X12_openAt rfl rfl rfl (by decide +kernel) ⟨Nat.le_of_ble_eq_true rfl, Nat.le_of_ble_eq_true rfl⟩) (va_recv hK hP (ci := 11) (q0 := 0) rfl rfl) hK hP hD hS hA rfl hl.1 rfl (Nat.le_of_ble_eq_true rfl) dX12_openNow_1 ⟨Nat.zero_le _, Nat.zero_le _⟩ (fun r_1 S_2 H locs hw hP hD hS => ?_)
  obtain ⟨hc_3t, hc_3f⟩ := hw
  refine lv_if_ge (tgt := 11) hx hb dX12_openNow_4 (by decide) (fun c_3 => ?_) (fun c_3 => ?_)
  · have hw := hc_3t c_3
    clear hc_3t hc_3f
    refine lv_aload_n hx hb dX12_openNow_11 rfl (lv_at hl 0 rfl) ?_
    refine va_get (D := D) (ci := 11) (v := .ref (h 15)) (C := RX12) (T := TX12) (N := 31) hx hb hts hin hown hK hP 0 rfl rfl 15 (by decide) w29 (fun _ h9 => h9) rfl dX12_openNow_12 ?_
    refine lv_aload_n hx hb dX12_openNow_15 rfl (lv_at hl 0 rfl) ?_
    refine k_callVi (As := []) (rest := [.ref (h 15)]) ⟨hx, hb, hml, hown, hts⟩ (cM_openAt l D h cy _ _ hw) (cwV 0 hts gX12_openNow_X12_openAt rfl rfl rfl (by decide +kernel) ⟨Nat.le_of_ble_eq_true rfl, Nat.le_of_ble_eq_true rfl⟩) (va_recv hK hP (ci := 11) (q0 := 0) rfl rfl) hK hP hD hS hA rfl hl.1 rfl (Nat.le_of_ble_eq_true rfl) dX12_openNow_16 ⟨Nat.zero_le _, Nat.zero_le _⟩ (fun r_4 S_5 H locs hw hP hD hS => ?_)
    obtain ⟨hi_6, hw⟩ := hw
    refine va_iald (f := (ms_pile S_5)) hx hb hK hP 5 4 rfl rfl hi_6 dX12_openNow_19 ?_
    exact W.iret (v := (ms_pile S_5) r_4.toNatClampNeg) hx hb hr (fun t ht hW => ⟨⟨(ms_pile S_5) r_4.toNatClampNeg, S_5, rfl, hw, by rw [ht]; exact hP, va_K.moved hW.alike hK, hD⟩, hS.F ht⟩) hS.2.2 dX12_openNow_20
  · have hw := hc_3f c_3
    clear hc_3t hc_3f
    refine lv_iconst (v := (-1)) hx hb dX12_openNow_7 (by decide) ?_
    refine lv_goto (tgt := 20) hx hb dX12_openNow_8 (by decide) ?_
    exact W.iret (v := (-1)) hx hb hr (fun t ht hW => ⟨⟨(-1), S_2, rfl, hw, by rw [ht]; exact hP, va_K.moved hW.alike hK, hD⟩, hS.F ht⟩) hS.2.2 dX12_openNow_20
def wM_isCompared_30 (post : Int32 → MS → Prop) (x1 : Int32) (S : MS) : Prop := ((x1 < 0 → post 0 S) ∧ (¬ (x1 < 0) → (vp_in x1 160 ∧ wM_rank ((ms_pile S) x1.toNatClampNeg) S (fun r_2 S_3 => ((r_2 = 4 → post 1 S_3) ∧ (¬ (r_2 = 4) → post 0 S_3))))))
def wM_isCompared_7 (post : Int32 → MS → Prop) : Nat → Int32 → MS → Prop
  | 0, _, _ => False
  | n + 1, x1, S => ((x1 < 0 → wM_isCompared_30 post x1 S) ∧ (¬ (x1 < 0) → (vp_in x1 160 ∧ wM_rank ((ms_pile S) x1.toNatClampNeg) S (fun r_2 S_3 => ((r_2 ≤ 4 → wM_isCompared_30 post x1 S_3) ∧ (¬ (r_2 ≤ 4) → wM_isCompared_7 post n (x1 + (-1)) S_3))))))
def wM_isCompared (S : MS) (post : Int32 → MS → Prop) : Prop := ∃ k_ : Nat, wM_isCompared_7 post k_ ((ms_piled S) - 1) S
set_option maxHeartbeats 4000000 in
set_option maxRecDepth 100000 in
theorem cM_isCompared (l : Launch) (D : va_G) (h : Nat → Nat) (cy : Nat → ClassId) (S : MS) (post : Int32 → MS → Prop) (hw : wM_isCompared S post) : k_Mi l yX12_isCompared wsX12_isCompared { frames := 1, cells := 0, slots := 0, locals := 20 } D (tyM cy) (wM h cy) [.ref (h 31)] S post := by
  intro sz
  refine Met.ofW (cc := cX12_isCompared) (maxL := 2) (ret := (some .boolean)) (by decide) rfl ?_
  intro p e s m args below meth c s₁ B hml hv
  obtain ⟨rfl, hsz, hP, hK, hD0⟩ := hv
  have hx := B.exec
  have hb := B.bytes
  have hr := B.returns
  have hts := atoms_spec (ws := wsX12_isCompared) B.pre
  have hown : s.vm.findClass RX12 = some m.cls := findClass_of_methodNamed B.named
  have hlocks := B.notSynchronized
  subst hsz
  have hD := hD0.self (sz := s.heap.size)
  generalize hAe : va_A (wM h cy S) s.heap.size = A at hD ⊢
  have hA : ∀ q : Nat, s.heap.size ≤ q → A q := fun q h => by rw [← hAe]; exact Or.inr h
  have hS : va_S A s.heap s.heap [] := va_S.rf
  have hin : ∀ w ∈ wsX120, w ∈ wsX12_isCompared := fun _ h => List.mem_cons_of_mem _ (List.mem_append_right _ h)
  have w29 := hts (.fieldLink RX12 29 "ClownsMournModel" "pile" "[I") (List.mem_of_getElem? (i := 2) rfl)
  have w164 := hts (.fieldLink RX12 164 "ClownsMournModel" "piled" "I") (List.mem_of_getElem? (i := 1) rfl)
  have hl := lv_entry ([.ref (h 31)]) (n := 2) (Nat.le_of_ble_eq_true rfl)
  rw [lg_entry_eq]
  generalize (lg_sl ([.ref (h 31)]) ++ List.replicate (2 - (lg_sl ([.ref (h 31)])).length) Slot.unset).toArray = ls at hl ⊢
  have hl : lv_has ls 2 [(0, .ref (h 31))] := hl
  unfold wM_isCompared at hw
  clear hD0
  have J_30 : ∀ (x1 : Int32) (S : MS) (H : Heap) (locs : List Loc) (ls : Array Slot), wM_isCompared_30 post x1 S → va_P D vwCl (wM h cy S) H → va_D A (wM h cy S) → va_S A s.heap H locs → lv_has ls 2 [(0, .ref (h 31)), (1, .int x1)] → W p l e (headSpec wsX12_isCompared { frames := 1, cells := 0, slots := 0, locals := 20 }).room s m (([.ref (h 31)] : List Value).toArray) below meth c H locs 0 0 (MQ below (va_Qi post (k_Post D (tyM cy) (wM h cy) A) A) (([.ref (h 31)] : List Value).toArray) s 0 0 A) (F0 m 30 ls []) := by
    intro x1 S H locs ls hw hP hD hS hl
    unfold wM_isCompared_30 at hw
    refine lv_iload_n hx hb dX12_isCompared_30 rfl (lv_at hl 1 rfl) ?_
    obtain ⟨hc_1t, hc_1f⟩ := hw
    refine lv_if_lt (tgt := 51) hx hb dX12_isCompared_31 (by decide) (fun c_1 => ?_) (fun c_1 => ?_)
    · have hw := hc_1t c_1
      clear hc_1t hc_1f
      refine lv_iconst (v := 0) hx hb dX12_isCompared_51 (by decide) ?_
      exact W.zret (v := 0) hx hb hr (by decide +kernel) (fun t ht hW => ⟨⟨0, S, rfl, hw, by rw [ht]; exact hP, va_K.moved hW.alike hK, hD⟩, hS.F ht⟩) hS.2.2 dX12_isCompared_52
    · have hw := hc_1f c_1
      clear hc_1t hc_1f
      refine lv_aload_n hx hb dX12_isCompared_34 rfl (lv_at hl 0 rfl) ?_
      refine va_get (D := D) (ci := 11) (v := .ref (h 15)) (C := RX12) (T := TX12) (N := 31) hx hb hts hin hown hK hP 0 rfl rfl 15 (by decide) w29 (fun _ h9 => h9) rfl dX12_isCompared_35 ?_
      refine lv_iload_n hx hb dX12_isCompared_38 rfl (lv_at hl 1 rfl) ?_
      obtain ⟨hi_5, hw⟩ := hw
      refine va_iald (f := (ms_pile S)) hx hb hK hP 5 4 rfl rfl hi_5 dX12_isCompared_39 ?_
      refine k_callSi (As := [.int ((ms_pile S) x1.toNatClampNeg)]) (rest := []) ⟨hx, hb, hml, hown, hts⟩ (cM_rank l D h cy _ _ _ hw) (va_cwS 1 hts gX12_isCompared_X12_rank rfl rfl rfl (by decide +kernel) ⟨Nat.le_of_ble_eq_true rfl, Nat.le_of_ble_eq_true rfl⟩) hK hP hD hS hA rfl hl.1 rfl (Nat.le_of_ble_eq_true rfl) dX12_isCompared_40 ⟨Nat.zero_le _, Nat.zero_le _⟩ (fun r_2 S_3 H locs hw hP hD hS => ?_)
      refine lv_iconst (v := 4) hx hb dX12_isCompared_43 (by decide) ?_
      obtain ⟨hc_4t, hc_4f⟩ := hw
      refine lv_icmp_ne (tgt := 51) hx hb dX12_isCompared_44 (by decide) (fun c_4 => ?_) (fun c_4 => ?_)
      · have hw := hc_4f c_4
        clear hc_4t hc_4f
        refine lv_iconst (v := 0) hx hb dX12_isCompared_51 (by decide) ?_
        exact W.zret (v := 0) hx hb hr (by decide +kernel) (fun t ht hW => ⟨⟨0, S_3, rfl, hw, by rw [ht]; exact hP, va_K.moved hW.alike hK, hD⟩, hS.F ht⟩) hS.2.2 dX12_isCompared_52
      · have hw := hc_4t c_4
        clear hc_4t hc_4f
        refine lv_iconst (v := 1) hx hb dX12_isCompared_47 (by decide) ?_
        refine lv_goto (tgt := 52) hx hb dX12_isCompared_48 (by decide) ?_
        exact W.zret (v := 1) hx hb hr (by decide +kernel) (fun t ht hW => ⟨⟨1, S_3, rfl, hw, by rw [ht]; exact hP, va_K.moved hW.alike hK, hD⟩, hS.F ht⟩) hS.2.2 dX12_isCompared_52
  have L_7 : ∀ (n7 : Nat) (x1 : Int32) (S : MS) (H : Heap) (locs : List Loc) (ls : Array Slot), wM_isCompared_7 post n7 x1 S → va_P D vwCl (wM h cy S) H → va_D A (wM h cy S) → va_S A s.heap H locs → lv_has ls 2 [(0, .ref (h 31)), (1, .int x1)] → W p l e (headSpec wsX12_isCompared { frames := 1, cells := 0, slots := 0, locals := 20 }).room s m (([.ref (h 31)] : List Value).toArray) below meth c H locs 0 0 (MQ below (va_Qi post (k_Post D (tyM cy) (wM h cy) A) A) (([.ref (h 31)] : List Value).toArray) s 0 0 A) (F0 m 7 ls []) := by
    intro n7
    induction n7 with
    | zero => intro x1 S H locs ls hw; exact False.elim hw
    | succ n7 ih_7 =>
      intro x1 S H locs ls hw hP hD hS hl
      unfold wM_isCompared_7 at hw
      refine lv_iload_n hx hb dX12_isCompared_7 rfl (lv_at hl 1 rfl) ?_
      obtain ⟨hc_6t, hc_6f⟩ := hw
      refine lv_if_lt (tgt := 30) hx hb dX12_isCompared_8 (by decide) (fun c_6 => ?_) (fun c_6 => ?_)
      · have hw := hc_6t c_6
        clear hc_6t hc_6f
        exact J_30 x1 S _ _ _ hw hP hD hS (lv_sub hl [0, 1] rfl)
      · have hw := hc_6f c_6
        clear hc_6t hc_6f
        refine lv_aload_n hx hb dX12_isCompared_11 rfl (lv_at hl 0 rfl) ?_
        refine va_get (D := D) (ci := 11) (v := .ref (h 15)) (C := RX12) (T := TX12) (N := 31) hx hb hts hin hown hK hP 0 rfl rfl 15 (by decide) w29 (fun _ h9 => h9) rfl dX12_isCompared_12 ?_
        refine lv_iload_n hx hb dX12_isCompared_15 rfl (lv_at hl 1 rfl) ?_
        obtain ⟨hi_10, hw⟩ := hw
        refine va_iald (f := (ms_pile S)) hx hb hK hP 5 4 rfl rfl hi_10 dX12_isCompared_16 ?_
        refine k_callSi (As := [.int ((ms_pile S) x1.toNatClampNeg)]) (rest := []) ⟨hx, hb, hml, hown, hts⟩ (cM_rank l D h cy _ _ _ hw) (va_cwS 1 hts gX12_isCompared_X12_rank rfl rfl rfl (by decide +kernel) ⟨Nat.le_of_ble_eq_true rfl, Nat.le_of_ble_eq_true rfl⟩) hK hP hD hS hA rfl hl.1 rfl (Nat.le_of_ble_eq_true rfl) dX12_isCompared_17 ⟨Nat.zero_le _, Nat.zero_le _⟩ (fun r_7 S_8 H locs hw hP hD hS => ?_)
        refine lv_iconst (v := 4) hx hb dX12_isCompared_20 (by decide) ?_
        obtain ⟨hc_9t, hc_9f⟩ := hw
        refine lv_icmp_le (tgt := 30) hx hb dX12_isCompared_21 (by decide) (fun c_9 => ?_) (fun c_9 => ?_)
        · have hw := hc_9t c_9
          clear hc_9t hc_9f
          exact J_30 x1 S_8 _ _ _ hw hP hD hS (lv_sub hl [0, 1] rfl)
        · have hw := hc_9f c_9
          clear hc_9t hc_9f
          refine lv_iinc (v := x1 + (-1)) (lv' := [(1, .int (x1 + (-1))), (0, .ref (h 31))]) hx hb dX12_isCompared_24 hl (k := 1) rfl (k_inc (by decide)) (by decide) rfl (fun ls hl => ?_)
          refine lv_goto (tgt := 7) hx hb dX12_isCompared_27 (by decide) ?_
          exact ih_7 (x1 + (-1)) S_8 _ _ _ hw hP hD hS (lv_sub hl [1, 0] rfl)
  refine lv_aload_n hx hb dX12_isCompared_0 rfl (lv_at hl 0 rfl) ?_
  refine va_get (D := D) (ci := 11) (v := .int (ms_piled S)) (C := RX12) (T := TX12) (N := 31) hx hb hts hin hown hK hP 0 rfl rfl 16 (by decide) w164 (fun _ h9 => h9) rfl dX12_isCompared_1 ?_
  refine lv_iconst (v := 1) hx hb dX12_isCompared_4 (by decide) ?_
  refine lv_isub hx hb dX12_isCompared_5 ?_
  refine lv_istore_n (lv' := [(1, .int ((ms_piled S) - 1)), (0, .ref (h 31))]) hx hb dX12_isCompared_6 rfl hl (by decide) rfl (fun ls hl => ?_)
  obtain ⟨n_7, hw⟩ := hw
  exact L_7 n_7 ((ms_piled S) - 1) S _ _ _ hw hP hD hS (lv_sub hl [1, 0] rfl)
def wM_isAskAhead (S : MS) (post : Int32 → MS → Prop) : Prop := wM_openNow S (fun r_1 S_2 => ((r_1 = 43 → (vp_in ((ms_piled S_2) - 1) 160 ∧ ((40 ≤ ((ms_pile S_2) ((ms_piled S_2) - 1).toNatClampNeg) → post 1 S_2) ∧ (¬ (40 ≤ ((ms_pile S_2) ((ms_piled S_2) - 1).toNatClampNeg)) → (vp_in ((ms_piled S_2) - 1) 160 ∧ wM_rank ((ms_pile S_2) ((ms_piled S_2) - 1).toNatClampNeg) S_2 (fun r_5 S_6 => wM_isIn r_5 1 3 S_6 (fun r_7 S_8 => ((r_7 = 0 → post 0 S_8) ∧ (¬ (r_7 = 0) → post 1 S_8))))))))) ∧ (¬ (r_1 = 43) → post 0 S_2)))
set_option maxHeartbeats 4000000 in
set_option maxRecDepth 100000 in
theorem cM_isAskAhead (l : Launch) (D : va_G) (h : Nat → Nat) (cy : Nat → ClassId) (S : MS) (post : Int32 → MS → Prop) (hw : wM_isAskAhead S post) : k_Mi l yX12_isAskAhead wsX12_isAskAhead { frames := 2, cells := 0, slots := 0, locals := 41 } D (tyM cy) (wM h cy) [.ref (h 31)] S post := by
  intro sz
  refine Met.ofW (cc := cX12_isAskAhead) (maxL := 1) (ret := (some .boolean)) (by decide) rfl ?_
  intro p e s m args below meth c s₁ B hml hv
  obtain ⟨rfl, hsz, hP, hK, hD0⟩ := hv
  have hx := B.exec
  have hb := B.bytes
  have hr := B.returns
  have hts := atoms_spec (ws := wsX12_isAskAhead) B.pre
  have hown : s.vm.findClass RX12 = some m.cls := findClass_of_methodNamed B.named
  have hlocks := B.notSynchronized
  subst hsz
  have hD := hD0.self (sz := s.heap.size)
  generalize hAe : va_A (wM h cy S) s.heap.size = A at hD ⊢
  have hA : ∀ q : Nat, s.heap.size ≤ q → A q := fun q h => by rw [← hAe]; exact Or.inr h
  have hS : va_S A s.heap s.heap [] := va_S.rf
  have hin : ∀ w ∈ wsX120, w ∈ wsX12_isAskAhead := fun _ h => List.mem_cons_of_mem _ (List.mem_append_right _ h)
  have w29 := hts (.fieldLink RX12 29 "ClownsMournModel" "pile" "[I") (List.mem_of_getElem? (i := 1) rfl)
  have w164 := hts (.fieldLink RX12 164 "ClownsMournModel" "piled" "I") (List.mem_of_getElem? (i := 2) rfl)
  have hl := lv_entry ([.ref (h 31)]) (n := 1) (Nat.le_of_ble_eq_true rfl)
  rw [lg_entry_eq]
  generalize (lg_sl ([.ref (h 31)]) ++ List.replicate (1 - (lg_sl ([.ref (h 31)])).length) Slot.unset).toArray = ls at hl ⊢
  have hl : lv_has ls 1 [(0, .ref (h 31))] := hl
  unfold wM_isAskAhead at hw
  clear hD0
  refine lv_aload_n hx hb dX12_isAskAhead_0 rfl (lv_at hl 0 rfl) ?_
  refine k_callVi (As := []) (rest := []) ⟨hx, hb, hml, hown, hts⟩ (cM_openNow l D h cy _ _ hw) (cwV 0 hts gX12_isAskAhead_X12_openNow rfl rfl rfl (by decide +kernel) ⟨Nat.le_of_ble_eq_true rfl, Nat.le_of_ble_eq_true rfl⟩) (va_recv hK hP (ci := 11) (q0 := 0) rfl rfl) hK hP hD hS hA rfl hl.1 rfl (Nat.le_of_ble_eq_true rfl) dX12_isAskAhead_1 ⟨Nat.zero_le _, Nat.zero_le _⟩ (fun r_1 S_2 H locs hw hP hD hS => ?_)
  refine lv_bipush (v := 43) hx hb dX12_isAskAhead_4 (by decide) ?_
  obtain ⟨hc_3t, hc_3f⟩ := hw
  refine lv_icmp_ne (tgt := 51) hx hb dX12_isAskAhead_6 (by decide) (fun c_3 => ?_) (fun c_3 => ?_)
  · have hw := hc_3f c_3
    clear hc_3t hc_3f
    refine lv_iconst (v := 0) hx hb dX12_isAskAhead_51 (by decide) ?_
    exact W.zret (v := 0) hx hb hr (by decide +kernel) (fun t ht hW => ⟨⟨0, S_2, rfl, hw, by rw [ht]; exact hP, va_K.moved hW.alike hK, hD⟩, hS.F ht⟩) hS.2.2 dX12_isAskAhead_52
  · have hw := hc_3t c_3
    clear hc_3t hc_3f
    refine lv_aload_n hx hb dX12_isAskAhead_9 rfl (lv_at hl 0 rfl) ?_
    refine va_get (D := D) (ci := 11) (v := .ref (h 15)) (C := RX12) (T := TX12) (N := 31) hx hb hts hin hown hK hP 0 rfl rfl 15 (by decide) w29 (fun _ h9 => h9) rfl dX12_isAskAhead_10 ?_
    refine lv_aload_n hx hb dX12_isAskAhead_13 rfl (lv_at hl 0 rfl) ?_
    refine va_get (D := D) (ci := 11) (v := .int (ms_piled S_2)) (C := RX12) (T := TX12) (N := 31) hx hb hts hin hown hK hP 0 rfl rfl 16 (by decide) w164 (fun _ h9 => h9) rfl dX12_isAskAhead_14 ?_
    refine lv_iconst (v := 1) hx hb dX12_isAskAhead_17 (by decide) ?_
    refine lv_isub hx hb dX12_isAskAhead_18 ?_
    obtain ⟨hi_11, hw⟩ := hw
    refine va_iald (f := (ms_pile S_2)) hx hb hK hP 5 4 rfl rfl hi_11 dX12_isAskAhead_19 ?_
    refine lv_bipush (v := 40) hx hb dX12_isAskAhead_20 (by decide) ?_
    obtain ⟨hc_4t, hc_4f⟩ := hw
    refine lv_icmp_ge (tgt := 47) hx hb dX12_isAskAhead_22 (by decide) (fun c_4 => ?_) (fun c_4 => ?_)
    · have hw := hc_4t c_4
      clear hc_4t hc_4f
      refine lv_iconst (v := 1) hx hb dX12_isAskAhead_47 (by decide) ?_
      refine lv_goto (tgt := 52) hx hb dX12_isAskAhead_48 (by decide) ?_
      exact W.zret (v := 1) hx hb hr (by decide +kernel) (fun t ht hW => ⟨⟨1, S_2, rfl, hw, by rw [ht]; exact hP, va_K.moved hW.alike hK, hD⟩, hS.F ht⟩) hS.2.2 dX12_isAskAhead_52
    · have hw := hc_4f c_4
      clear hc_4t hc_4f
      refine lv_aload_n hx hb dX12_isAskAhead_25 rfl (lv_at hl 0 rfl) ?_
      refine va_get (D := D) (ci := 11) (v := .ref (h 15)) (C := RX12) (T := TX12) (N := 31) hx hb hts hin hown hK hP 0 rfl rfl 15 (by decide) w29 (fun _ h9 => h9) rfl dX12_isAskAhead_26 ?_
      refine lv_aload_n hx hb dX12_isAskAhead_29 rfl (lv_at hl 0 rfl) ?_
      refine va_get (D := D) (ci := 11) (v := .int (ms_piled S_2)) (C := RX12) (T := TX12) (N := 31) hx hb hts hin hown hK hP 0 rfl rfl 16 (by decide) w164 (fun _ h9 => h9) rfl dX12_isAskAhead_30 ?_
      refine lv_iconst (v := 1) hx hb dX12_isAskAhead_33 (by decide) ?_
      refine lv_isub hx hb dX12_isAskAhead_34 ?_
      obtain ⟨hi_10, hw⟩ := hw
      refine va_iald (f := (ms_pile S_2)) hx hb hK hP 5 4 rfl rfl hi_10 dX12_isAskAhead_35 ?_
      refine k_callSi (As := [.int ((ms_pile S_2) ((ms_piled S_2) - 1).toNatClampNeg)]) (rest := []) ⟨hx, hb, hml, hown, hts⟩ (cM_rank l D h cy _ _ _ hw) (va_cwS 1 hts gX12_isAskAhead_X12_rank rfl rfl rfl (by decide +kernel) ⟨Nat.le_of_ble_eq_true rfl, Nat.le_of_ble_eq_true rfl⟩) hK hP hD hS hA rfl hl.1 rfl (Nat.le_of_ble_eq_true rfl) dX12_isAskAhead_36 ⟨Nat.zero_le _, Nat.zero_le _⟩ (fun r_5 S_6 H locs hw hP hD hS => ?_)
      refine lv_iconst (v := 1) hx hb dX12_isAskAhead_39 (by decide) ?_
      refine lv_iconst (v := 3) hx hb dX12_isAskAhead_40 (by decide) ?_
      refine k_callSi (As := [.int r_5, .int 1, .int 3]) (rest := []) ⟨hx, hb, hml, hown, hts⟩ (cM_isIn l D h cy _ _ _ _ _ hw) (va_cwS 3 hts gX12_isAskAhead_X12_isIn rfl rfl rfl (by decide +kernel) ⟨Nat.le_of_ble_eq_true rfl, Nat.le_of_ble_eq_true rfl⟩) hK hP hD hS hA rfl hl.1 rfl (Nat.le_of_ble_eq_true rfl) dX12_isAskAhead_41 ⟨Nat.zero_le _, Nat.zero_le _⟩ (fun r_7 S_8 H locs hw hP hD hS => ?_)
      obtain ⟨hc_9t, hc_9f⟩ := hw
      refine lv_if_eq (tgt := 51) hx hb dX12_isAskAhead_44 (by decide) (fun c_9 => ?_) (fun c_9 => ?_)
      · have hw := hc_9t c_9
        clear hc_9t hc_9f
        refine lv_iconst (v := 0) hx hb dX12_isAskAhead_51 (by decide) ?_
        exact W.zret (v := 0) hx hb hr (by decide +kernel) (fun t ht hW => ⟨⟨0, S_8, rfl, hw, by rw [ht]; exact hP, va_K.moved hW.alike hK, hD⟩, hS.F ht⟩) hS.2.2 dX12_isAskAhead_52
      · have hw := hc_9f c_9
        clear hc_9t hc_9f
        refine lv_iconst (v := 1) hx hb dX12_isAskAhead_47 (by decide) ?_
        refine lv_goto (tgt := 52) hx hb dX12_isAskAhead_48 (by decide) ?_
        exact W.zret (v := 1) hx hb hr (by decide +kernel) (fun t ht hW => ⟨⟨1, S_8, rfl, hw, by rw [ht]; exact hP, va_K.moved hW.alike hK, hD⟩, hS.F ht⟩) hS.2.2 dX12_isAskAhead_52
def wM_opened (p1 : Int32) (S : MS) (post : Int32 → MS → Prop) : Prop := (((ms_opens S) = 8 → post 3 S) ∧ (¬ ((ms_opens S) = 8) → (∀ S_2 : MS, S_2 = (ms_set_opens S ((ms_opens S) + 1)) → (vp_in (ms_piled S_2) 160 ∧ ∀ S_3 : MS, S_3 = (ms_set_pile S_2 (upd (ms_pile S_2) ((ms_piled S_2).toNatClampNeg) p1)) → (∀ S_4 : MS, S_4 = (ms_set_piled S_3 ((ms_piled S_3) + 1)) → wM_nextToken S_4 (fun S_6 => post 0 S_6))))))
set_option maxHeartbeats 4000000 in
set_option maxRecDepth 100000 in
theorem cM_opened (l : Launch) (D : va_G) (h : Nat → Nat) (cy : Nat → ClassId) (p1 : Int32) (S : MS) (post : Int32 → MS → Prop) (hw : wM_opened p1 S post) : k_Mi l yX12_opened wsX12_opened { frames := 2, cells := 0, slots := 0, locals := 42 } D (tyM cy) (wM h cy) [.ref (h 31), .int p1] S post := by
  intro sz
  refine Met.ofW (cc := cX12_opened) (maxL := 2) (ret := (some .int)) (by decide) rfl ?_
  intro p e s m args below meth c s₁ B hml hv
  obtain ⟨rfl, hsz, hP, hK, hD0⟩ := hv
  have hx := B.exec
  have hb := B.bytes
  have hr := B.returns
  have hts := atoms_spec (ws := wsX12_opened) B.pre
  have hown : s.vm.findClass RX12 = some m.cls := findClass_of_methodNamed B.named
  have hlocks := B.notSynchronized
  subst hsz
  have hD := hD0.self (sz := s.heap.size)
  generalize hAe : va_A (wM h cy S) s.heap.size = A at hD ⊢
  have hA : ∀ q : Nat, s.heap.size ≤ q → A q := fun q h => by rw [← hAe]; exact Or.inr h
  have hS : va_S A s.heap s.heap [] := va_S.rf
  have hin : ∀ w ∈ wsX120, w ∈ wsX12_opened := fun _ h => List.mem_cons_of_mem _ (List.mem_append_right _ h)
  have w29 := hts (.fieldLink RX12 29 "ClownsMournModel" "pile" "[I") (List.mem_of_getElem? (i := 2) rfl)
  have w164 := hts (.fieldLink RX12 164 "ClownsMournModel" "piled" "I") (List.mem_of_getElem? (i := 3) rfl)
  have w174 := hts (.fieldLink RX12 174 "ClownsMournModel" "opens" "I") (List.mem_of_getElem? (i := 1) rfl)
  have hl := lv_entry ([.ref (h 31), .int p1]) (n := 2) (Nat.le_of_ble_eq_true rfl)
  rw [lg_entry_eq]
  generalize (lg_sl ([.ref (h 31), .int p1]) ++ List.replicate (2 - (lg_sl ([.ref (h 31), .int p1])).length) Slot.unset).toArray = ls at hl ⊢
  have hl : lv_has ls 2 [(0, .ref (h 31)), (1, .int p1)] := hl
  unfold wM_opened at hw
  clear hD0
  refine lv_aload_n hx hb dX12_opened_0 rfl (lv_at hl 0 rfl) ?_
  refine va_get (D := D) (ci := 11) (v := .int (ms_opens S)) (C := RX12) (T := TX12) (N := 31) hx hb hts hin hown hK hP 0 rfl rfl 17 (by decide) w174 (fun _ h9 => h9) rfl dX12_opened_1 ?_
  refine lv_bipush (v := 8) hx hb dX12_opened_4 (by decide) ?_
  obtain ⟨hc_1t, hc_1f⟩ := hw
  refine lv_icmp_ne (tgt := 11) hx hb dX12_opened_6 (by decide) (fun c_1 => ?_) (fun c_1 => ?_)
  · have hw := hc_1f c_1
    clear hc_1t hc_1f
    refine lv_aload_n hx hb dX12_opened_11 rfl (lv_at hl 0 rfl) ?_
    refine lv_dup hx hb dX12_opened_12 rfl ?_
    refine va_get (D := D) (ci := 11) (v := .int (ms_opens S)) (C := RX12) (T := TX12) (N := 31) hx hb hts hin hown hK hP 0 rfl rfl 17 (by decide) w174 (fun _ h9 => h9) rfl dX12_opened_13 ?_
    refine lv_iconst (v := 1) hx hb dX12_opened_16 (by decide) ?_
    refine lv_iadd hx hb dX12_opened_17 ?_
    refine va_put (D := D) (ci := 11) (v := .int ((ms_opens S) + 1)) (ty := .int) (C := RX12) (T := TX12) (N := 31) hx hb hts hin tyX12 tyX12_ok nmX12 hown hK hP hD hS 0 rfl rfl 17 (by decide) w174 (fun _ h9 => h9) rfl (tyX12_ok 17 (by decide)) rfl rfl (Nat.le_of_ble_eq_true rfl) dX12_opened_18 (fun H locs hP hD hS => ?_)
    obtain ⟨S_2, eS_2⟩ : ∃ z : MS, z = (ms_set_opens S ((ms_opens S) + 1)) := ⟨_, rfl⟩
    have hw := hw S_2 eS_2
    have hP : va_P D vwCl (wM h cy S_2) H := by rw [eS_2, ← wMp_opens]; exact hP
    have hD : va_D A (wM h cy S_2) := by rw [eS_2, ← wMp_opens]; exact hD
    refine lv_aload_n hx hb dX12_opened_21 rfl (lv_at hl 0 rfl) ?_
    refine va_get (D := D) (ci := 11) (v := .ref (h 15)) (C := RX12) (T := TX12) (N := 31) hx hb hts hin hown hK hP 0 rfl rfl 15 (by decide) w29 (fun _ h9 => h9) rfl dX12_opened_22 ?_
    refine lv_aload_n hx hb dX12_opened_25 rfl (lv_at hl 0 rfl) ?_
    refine va_get (D := D) (ci := 11) (v := .int (ms_piled S_2)) (C := RX12) (T := TX12) (N := 31) hx hb hts hin hown hK hP 0 rfl rfl 16 (by decide) w164 (fun _ h9 => h9) rfl dX12_opened_26 ?_
    refine lv_iload_n hx hb dX12_opened_29 rfl (lv_at hl 1 rfl) ?_
    obtain ⟨hi_7, hw⟩ := hw
    refine va_iast (f := (ms_pile S_2)) hx hb hK hP hD hS 5 4 rfl rfl hi_7 dX12_opened_30 (fun H locs hP hD hS => ?_)
    obtain ⟨S_3, eS_3⟩ : ∃ z : MS, z = (ms_set_pile S_2 (upd (ms_pile S_2) ((ms_piled S_2).toNatClampNeg) p1)) := ⟨_, rfl⟩
    have hw := hw S_3 eS_3
    have hP : va_P D vwCl (wM h cy S_3) H := by rw [eS_3, ← wMs_pile]; exact hP
    have hD : va_D A (wM h cy S_3) := by rw [eS_3, ← wMs_pile]; exact hD
    refine lv_aload_n hx hb dX12_opened_31 rfl (lv_at hl 0 rfl) ?_
    refine lv_dup hx hb dX12_opened_32 rfl ?_
    refine va_get (D := D) (ci := 11) (v := .int (ms_piled S_3)) (C := RX12) (T := TX12) (N := 31) hx hb hts hin hown hK hP 0 rfl rfl 16 (by decide) w164 (fun _ h9 => h9) rfl dX12_opened_33 ?_
    refine lv_iconst (v := 1) hx hb dX12_opened_36 (by decide) ?_
    refine lv_iadd hx hb dX12_opened_37 ?_
    refine va_put (D := D) (ci := 11) (v := .int ((ms_piled S_3) + 1)) (ty := .int) (C := RX12) (T := TX12) (N := 31) hx hb hts hin tyX12 tyX12_ok nmX12 hown hK hP hD hS 0 rfl rfl 16 (by decide) w164 (fun _ h9 => h9) rfl (tyX12_ok 16 (by decide)) rfl rfl (Nat.le_of_ble_eq_true rfl) dX12_opened_38 (fun H locs hP hD hS => ?_)
    obtain ⟨S_4, eS_4⟩ : ∃ z : MS, z = (ms_set_piled S_3 ((ms_piled S_3) + 1)) := ⟨_, rfl⟩
    have hw := hw S_4 eS_4
    have hP : va_P D vwCl (wM h cy S_4) H := by rw [eS_4, ← wMp_piled]; exact hP
    have hD : va_D A (wM h cy S_4) := by rw [eS_4, ← wMp_piled]; exact hD
    refine lv_aload_n hx hb dX12_opened_41 rfl (lv_at hl 0 rfl) ?_
    refine k_callVv (As := []) (rest := []) ⟨hx, hb, hml, hown, hts⟩ (cM_nextToken l D h cy _ _ hw) (cwV 0 hts gX12_opened_X12_nextToken rfl rfl rfl (by decide +kernel) ⟨Nat.le_of_ble_eq_true rfl, Nat.le_of_ble_eq_true rfl⟩) (va_recv hK hP (ci := 11) (q0 := 0) rfl rfl) hK hP hD hS hA rfl hl.1 rfl (Nat.le_of_ble_eq_true rfl) dX12_opened_42 ⟨Nat.zero_le _, Nat.zero_le _⟩ (fun S_6 H locs hw hP hD hS => ?_)
    refine lv_iconst (v := 0) hx hb dX12_opened_45 (by decide) ?_
    exact W.iret (v := 0) hx hb hr (fun t ht hW => ⟨⟨0, S_6, rfl, hw, by rw [ht]; exact hP, va_K.moved hW.alike hK, hD⟩, hS.F ht⟩) hS.2.2 dX12_opened_46
  · have hw := hc_1t c_1
    clear hc_1t hc_1f
    refine lv_iconst (v := 3) hx hb dX12_opened_9 (by decide) ?_
    exact W.iret (v := 3) hx hb hr (fun t ht hW => ⟨⟨3, S, rfl, hw, by rw [ht]; exact hP, va_K.moved hW.alike hK, hD⟩, hS.F ht⟩) hS.2.2 dX12_opened_10
def wM_endOne_76 (post : Int32 → MS → Prop) (x1 : Int32) (t1 : Int64) (S : MS) : Prop := wM_isWord t1 S (fun r_1 S_2 => ((r_1 = 0 → post 1 S_2) ∧ (¬ (r_1 = 0) → wM_nextToken S_2 (fun S_5 => ((x1 = 41 → (vp_in ((ms_piled S_5) - 1) 160 ∧ ∀ S_10 : MS, S_10 = (ms_set_pile S_5 (upd (ms_pile S_5) (((ms_piled S_5) - 1).toNatClampNeg) 42)) → (∀ S_11 : MS, S_11 = (ms_set_isWhole S_10 0) → post 0 S_11))) ∧ (¬ (x1 = 41) → (vp_in ((ms_piled S_5) - 1) 160 ∧ ∀ S_7 : MS, S_7 = (ms_set_pile S_5 (upd (ms_pile S_5) (((ms_piled S_5) - 1).toNatClampNeg) 4)) → (∀ S_8 : MS, S_8 = (ms_set_isWhole S_7 0) → post 0 S_8))))))))
def wM_endOne_48 (post : Int32 → MS → Prop) (x1 : Int32) (S : MS) : Prop := ((x1 = 41 → wM_w4 102 114 111 109 S (fun r_4 S_5 => wM_endOne_76 post x1 r_4 S_5)) ∧ (¬ (x1 = 41) → wM_w2 116 111 S (fun r_2 S_3 => wM_endOne_76 post x1 r_2 S_3)))
def wM_endOne_33 (post : Int32 → MS → Prop) (t0 : Int32) (S : MS) : Prop := ((t0 = 41 → wM_endOne_48 post t0 S) ∧ (¬ (t0 = 41) → ((t0 = 42 → wM_endOne_48 post t0 S) ∧ (¬ (t0 = 42) → post 0 S))))
def wM_endOne (S : MS) (post : Int32 → MS → Prop) : Prop := wM_settle 7 S (fun S_2 => (∀ S_3 : MS, S_3 = (ms_set_isWhole S_2 1) → (((ms_piled S_3) = 0 → wM_endOne_33 post (-1) S_3) ∧ (¬ ((ms_piled S_3) = 0) → (vp_in ((ms_piled S_3) - 1) 160 ∧ wM_endOne_33 post ((ms_pile S_3) ((ms_piled S_3) - 1).toNatClampNeg) S_3)))))
set_option maxHeartbeats 4000000 in
set_option maxRecDepth 100000 in
theorem cM_endOne (l : Launch) (D : va_G) (h : Nat → Nat) (cy : Nat → ClassId) (S : MS) (post : Int32 → MS → Prop) (hw : wM_endOne S post) : k_Mi l yX12_endOne wsX12_endOne { frames := 3, cells := 0, slots := 0, locals := 66 } D (tyM cy) (wM h cy) [.ref (h 31)] S post := by
  intro sz
  refine Met.ofW (cc := cX12_endOne) (maxL := 2) (ret := (some .int)) (by decide) rfl ?_
  intro p e s m args below meth c s₁ B hml hv
  obtain ⟨rfl, hsz, hP, hK, hD0⟩ := hv
  have hx := B.exec
  have hb := B.bytes
  have hr := B.returns
  have hts := atoms_spec (ws := wsX12_endOne) B.pre
  have hown : s.vm.findClass RX12 = some m.cls := findClass_of_methodNamed B.named
  have hlocks := B.notSynchronized
  subst hsz
  have hD := hD0.self (sz := s.heap.size)
  generalize hAe : va_A (wM h cy S) s.heap.size = A at hD ⊢
  have hA : ∀ q : Nat, s.heap.size ≤ q → A q := fun q h => by rw [← hAe]; exact Or.inr h
  have hS : va_S A s.heap s.heap [] := va_S.rf
  have hin : ∀ w ∈ wsX120, w ∈ wsX12_endOne := fun _ h => List.mem_cons_of_mem _ (List.mem_append_right _ h)
  have w29 := hts (.fieldLink RX12 29 "ClownsMournModel" "pile" "[I") (List.mem_of_getElem? (i := 3) rfl)
  have w164 := hts (.fieldLink RX12 164 "ClownsMournModel" "piled" "I") (List.mem_of_getElem? (i := 2) rfl)
  have w209 := hts (.fieldLink RX12 209 "ClownsMournModel" "isWhole" "Z") (List.mem_of_getElem? (i := 1) rfl)
  have hl := lv_entry ([.ref (h 31)]) (n := 2) (Nat.le_of_ble_eq_true rfl)
  rw [lg_entry_eq]
  generalize (lg_sl ([.ref (h 31)]) ++ List.replicate (2 - (lg_sl ([.ref (h 31)])).length) Slot.unset).toArray = ls at hl ⊢
  have hl : lv_has ls 2 [(0, .ref (h 31))] := hl
  unfold wM_endOne at hw
  clear hD0
  have J_76 : ∀ (x1 : Int32) (t1 : Int64) (S : MS) (H : Heap) (locs : List Loc) (ls : Array Slot), wM_endOne_76 post x1 t1 S → va_P D vwCl (wM h cy S) H → va_D A (wM h cy S) → va_S A s.heap H locs → lv_has ls 2 [(0, .ref (h 31)), (1, .int x1)] → W p l e (headSpec wsX12_endOne { frames := 3, cells := 0, slots := 0, locals := 66 }).room s m (([.ref (h 31)] : List Value).toArray) below meth c H locs 0 0 (MQ below (va_Qi post (k_Post D (tyM cy) (wM h cy) A) A) (([.ref (h 31)] : List Value).toArray) s 0 0 A) (F0 m 76 ls [.long t1, .ref (h 31)]) := by
    intro x1 t1 S H locs ls hw hP hD hS hl
    unfold wM_endOne_76 at hw
    refine k_callVi (As := [.long t1]) (rest := []) ⟨hx, hb, hml, hown, hts⟩ (cM_isWord l D h cy _ _ _ hw) (cwV 1 hts gX12_endOne_X12_isWord rfl rfl rfl (by decide +kernel) ⟨Nat.le_of_ble_eq_true rfl, Nat.le_of_ble_eq_true rfl⟩) (va_recv hK hP (ci := 11) (q0 := 0) rfl rfl) hK hP hD hS hA rfl hl.1 rfl (Nat.le_of_ble_eq_true rfl) dX12_endOne_76 ⟨Nat.zero_le _, Nat.zero_le _⟩ (fun r_1 S_2 H locs hw hP hD hS => ?_)
    obtain ⟨hc_3t, hc_3f⟩ := hw
    refine lv_if_ne (tgt := 84) hx hb dX12_endOne_79 (by decide) (fun c_3 => ?_) (fun c_3 => ?_)
    · have hw := hc_3f c_3
      clear hc_3t hc_3f
      refine lv_aload_n hx hb dX12_endOne_84 rfl (lv_at hl 0 rfl) ?_
      refine k_callVv (As := []) (rest := []) ⟨hx, hb, hml, hown, hts⟩ (cM_nextToken l D h cy _ _ hw) (cwV 0 hts gX12_endOne_X12_nextToken rfl rfl rfl (by decide +kernel) ⟨Nat.le_of_ble_eq_true rfl, Nat.le_of_ble_eq_true rfl⟩) (va_recv hK hP (ci := 11) (q0 := 0) rfl rfl) hK hP hD hS hA rfl hl.1 rfl (Nat.le_of_ble_eq_true rfl) dX12_endOne_85 ⟨Nat.zero_le _, Nat.zero_le _⟩ (fun S_5 H locs hw hP hD hS => ?_)
      refine lv_aload_n hx hb dX12_endOne_88 rfl (lv_at hl 0 rfl) ?_
      refine va_get (D := D) (ci := 11) (v := .ref (h 15)) (C := RX12) (T := TX12) (N := 31) hx hb hts hin hown hK hP 0 rfl rfl 15 (by decide) w29 (fun _ h9 => h9) rfl dX12_endOne_89 ?_
      refine lv_aload_n hx hb dX12_endOne_92 rfl (lv_at hl 0 rfl) ?_
      refine va_get (D := D) (ci := 11) (v := .int (ms_piled S_5)) (C := RX12) (T := TX12) (N := 31) hx hb hts hin hown hK hP 0 rfl rfl 16 (by decide) w164 (fun _ h9 => h9) rfl dX12_endOne_93 ?_
      refine lv_iconst (v := 1) hx hb dX12_endOne_96 (by decide) ?_
      refine lv_isub hx hb dX12_endOne_97 ?_
      refine lv_iload_n hx hb dX12_endOne_98 rfl (lv_at hl 1 rfl) ?_
      refine lv_bipush (v := 41) hx hb dX12_endOne_99 (by decide) ?_
      obtain ⟨hc_6t, hc_6f⟩ := hw
      refine lv_icmp_ne (tgt := 109) hx hb dX12_endOne_101 (by decide) (fun c_6 => ?_) (fun c_6 => ?_)
      · have hw := hc_6f c_6
        clear hc_6t hc_6f
        refine lv_iconst (v := 4) hx hb dX12_endOne_109 (by decide) ?_
        obtain ⟨hi_9, hw⟩ := hw
        refine va_iast (f := (ms_pile S_5)) hx hb hK hP hD hS 5 4 rfl rfl hi_9 dX12_endOne_110 (fun H locs hP hD hS => ?_)
        obtain ⟨S_7, eS_7⟩ : ∃ z : MS, z = (ms_set_pile S_5 (upd (ms_pile S_5) (((ms_piled S_5) - 1).toNatClampNeg) 4)) := ⟨_, rfl⟩
        have hw := hw S_7 eS_7
        have hP : va_P D vwCl (wM h cy S_7) H := by rw [eS_7, ← wMs_pile]; exact hP
        have hD : va_D A (wM h cy S_7) := by rw [eS_7, ← wMs_pile]; exact hD
        refine lv_aload_n hx hb dX12_endOne_111 rfl (lv_at hl 0 rfl) ?_
        refine lv_iconst (v := 0) hx hb dX12_endOne_112 (by decide) ?_
        refine va_put (D := D) (ci := 11) (v := .int 0) (ty := .boolean) (C := RX12) (T := TX12) (N := 31) hx hb hts hin tyX12 tyX12_ok nmX12 hown hK hP hD hS 0 rfl rfl 18 (by decide) w209 (fun _ h9 => h9) rfl (tyX12_ok 18 (by decide)) (by decide +kernel) (by decide +kernel) (Nat.le_of_ble_eq_true rfl) dX12_endOne_113 (fun H locs hP hD hS => ?_)
        obtain ⟨S_8, eS_8⟩ : ∃ z : MS, z = (ms_set_isWhole S_7 0) := ⟨_, rfl⟩
        have hw := hw S_8 eS_8
        have hP : va_P D vwCl (wM h cy S_8) H := by rw [eS_8, ← wMp_isWhole]; exact hP
        have hD : va_D A (wM h cy S_8) := by rw [eS_8, ← wMp_isWhole]; exact hD
        refine lv_iconst (v := 0) hx hb dX12_endOne_116 (by decide) ?_
        exact W.iret (v := 0) hx hb hr (fun t ht hW => ⟨⟨0, S_8, rfl, hw, by rw [ht]; exact hP, va_K.moved hW.alike hK, hD⟩, hS.F ht⟩) hS.2.2 dX12_endOne_117
      · have hw := hc_6t c_6
        clear hc_6t hc_6f
        refine lv_bipush (v := 42) hx hb dX12_endOne_104 (by decide) ?_
        refine lv_goto (tgt := 110) hx hb dX12_endOne_106 (by decide) ?_
        obtain ⟨hi_12, hw⟩ := hw
        refine va_iast (f := (ms_pile S_5)) hx hb hK hP hD hS 5 4 rfl rfl hi_12 dX12_endOne_110 (fun H locs hP hD hS => ?_)
        obtain ⟨S_10, eS_10⟩ : ∃ z : MS, z = (ms_set_pile S_5 (upd (ms_pile S_5) (((ms_piled S_5) - 1).toNatClampNeg) 42)) := ⟨_, rfl⟩
        have hw := hw S_10 eS_10
        have hP : va_P D vwCl (wM h cy S_10) H := by rw [eS_10, ← wMs_pile]; exact hP
        have hD : va_D A (wM h cy S_10) := by rw [eS_10, ← wMs_pile]; exact hD
        refine lv_aload_n hx hb dX12_endOne_111 rfl (lv_at hl 0 rfl) ?_
        refine lv_iconst (v := 0) hx hb dX12_endOne_112 (by decide) ?_
        refine va_put (D := D) (ci := 11) (v := .int 0) (ty := .boolean) (C := RX12) (T := TX12) (N := 31) hx hb hts hin tyX12 tyX12_ok nmX12 hown hK hP hD hS 0 rfl rfl 18 (by decide) w209 (fun _ h9 => h9) rfl (tyX12_ok 18 (by decide)) (by decide +kernel) (by decide +kernel) (Nat.le_of_ble_eq_true rfl) dX12_endOne_113 (fun H locs hP hD hS => ?_)
        obtain ⟨S_11, eS_11⟩ : ∃ z : MS, z = (ms_set_isWhole S_10 0) := ⟨_, rfl⟩
        have hw := hw S_11 eS_11
        have hP : va_P D vwCl (wM h cy S_11) H := by rw [eS_11, ← wMp_isWhole]; exact hP
        have hD : va_D A (wM h cy S_11) := by rw [eS_11, ← wMp_isWhole]; exact hD
        refine lv_iconst (v := 0) hx hb dX12_endOne_116 (by decide) ?_
        exact W.iret (v := 0) hx hb hr (fun t ht hW => ⟨⟨0, S_11, rfl, hw, by rw [ht]; exact hP, va_K.moved hW.alike hK, hD⟩, hS.F ht⟩) hS.2.2 dX12_endOne_117
    · have hw := hc_3t c_3
      clear hc_3t hc_3f
      refine lv_iconst (v := 1) hx hb dX12_endOne_82 (by decide) ?_
      exact W.iret (v := 1) hx hb hr (fun t ht hW => ⟨⟨1, S_2, rfl, hw, by rw [ht]; exact hP, va_K.moved hW.alike hK, hD⟩, hS.F ht⟩) hS.2.2 dX12_endOne_83
  have J_48 : ∀ (x1 : Int32) (S : MS) (H : Heap) (locs : List Loc) (ls : Array Slot), wM_endOne_48 post x1 S → va_P D vwCl (wM h cy S) H → va_D A (wM h cy S) → va_S A s.heap H locs → lv_has ls 2 [(0, .ref (h 31)), (1, .int x1)] → W p l e (headSpec wsX12_endOne { frames := 3, cells := 0, slots := 0, locals := 66 }).room s m (([.ref (h 31)] : List Value).toArray) below meth c H locs 0 0 (MQ below (va_Qi post (k_Post D (tyM cy) (wM h cy) A) A) (([.ref (h 31)] : List Value).toArray) s 0 0 A) (F0 m 48 ls []) := by
    intro x1 S H locs ls hw hP hD hS hl
    unfold wM_endOne_48 at hw
    refine lv_aload_n hx hb dX12_endOne_48 rfl (lv_at hl 0 rfl) ?_
    refine lv_iload_n hx hb dX12_endOne_49 rfl (lv_at hl 1 rfl) ?_
    refine lv_bipush (v := 41) hx hb dX12_endOne_50 (by decide) ?_
    obtain ⟨hc_13t, hc_13f⟩ := hw
    refine lv_icmp_ne (tgt := 69) hx hb dX12_endOne_52 (by decide) (fun c_13 => ?_) (fun c_13 => ?_)
    · have hw := hc_13f c_13
      clear hc_13t hc_13f
      refine lv_bipush (v := 116) hx hb dX12_endOne_69 (by decide) ?_
      refine lv_bipush (v := 111) hx hb dX12_endOne_71 (by decide) ?_
      refine k_callSl (As := [.int 116, .int 111]) (rest := [.ref (h 31)]) ⟨hx, hb, hml, hown, hts⟩ (cM_w2 l D h cy _ _ _ _ hw) (va_cwS 2 hts gX12_endOne_X12_w2 rfl rfl rfl (by decide +kernel) ⟨Nat.le_of_ble_eq_true rfl, Nat.le_of_ble_eq_true rfl⟩) hK hP hD hS hA rfl hl.1 rfl (Nat.le_of_ble_eq_true rfl) dX12_endOne_73 ⟨Nat.zero_le _, Nat.zero_le _⟩ (fun r_14 S_15 H locs hw hP hD hS => ?_)
      exact J_76 x1 r_14 S_15 _ _ _ hw hP hD hS (lv_sub hl [0, 1] rfl)
    · have hw := hc_13t c_13
      clear hc_13t hc_13f
      refine lv_bipush (v := 102) hx hb dX12_endOne_55 (by decide) ?_
      refine lv_bipush (v := 114) hx hb dX12_endOne_57 (by decide) ?_
      refine lv_bipush (v := 111) hx hb dX12_endOne_59 (by decide) ?_
      refine lv_bipush (v := 109) hx hb dX12_endOne_61 (by decide) ?_
      refine k_callSl (As := [.int 102, .int 114, .int 111, .int 109]) (rest := [.ref (h 31)]) ⟨hx, hb, hml, hown, hts⟩ (cM_w4 l D h cy _ _ _ _ _ _ hw) (va_cwS 4 hts gX12_endOne_X12_w4 rfl rfl rfl (by decide +kernel) ⟨Nat.le_of_ble_eq_true rfl, Nat.le_of_ble_eq_true rfl⟩) hK hP hD hS hA rfl hl.1 rfl (Nat.le_of_ble_eq_true rfl) dX12_endOne_63 ⟨Nat.zero_le _, Nat.zero_le _⟩ (fun r_16 S_17 H locs hw hP hD hS => ?_)
      refine lv_goto (tgt := 76) hx hb dX12_endOne_66 (by decide) ?_
      exact J_76 x1 r_16 S_17 _ _ _ hw hP hD hS (lv_sub hl [0, 1] rfl)
  have J_33 : ∀ (t0 : Int32) (S : MS) (H : Heap) (locs : List Loc) (ls : Array Slot), wM_endOne_33 post t0 S → va_P D vwCl (wM h cy S) H → va_D A (wM h cy S) → va_S A s.heap H locs → lv_has ls 2 [(0, .ref (h 31))] → W p l e (headSpec wsX12_endOne { frames := 3, cells := 0, slots := 0, locals := 66 }).room s m (([.ref (h 31)] : List Value).toArray) below meth c H locs 0 0 (MQ below (va_Qi post (k_Post D (tyM cy) (wM h cy) A) A) (([.ref (h 31)] : List Value).toArray) s 0 0 A) (F0 m 33 ls [.int t0]) := by
    intro t0 S H locs ls hw hP hD hS hl
    unfold wM_endOne_33 at hw
    refine lv_istore_n (lv' := [(1, .int t0), (0, .ref (h 31))]) hx hb dX12_endOne_33 rfl hl (by decide) rfl (fun ls hl => ?_)
    refine lv_iload_n hx hb dX12_endOne_34 rfl (lv_at hl 0 rfl) ?_
    refine lv_bipush (v := 41) hx hb dX12_endOne_35 (by decide) ?_
    obtain ⟨hc_18t, hc_18f⟩ := hw
    refine lv_icmp_eq (tgt := 48) hx hb dX12_endOne_37 (by decide) (fun c_18 => ?_) (fun c_18 => ?_)
    · have hw := hc_18t c_18
      clear hc_18t hc_18f
      exact J_48 t0 S _ _ _ hw hP hD hS (lv_sub hl [1, 0] rfl)
    · have hw := hc_18f c_18
      clear hc_18t hc_18f
      refine lv_iload_n hx hb dX12_endOne_40 rfl (lv_at hl 0 rfl) ?_
      refine lv_bipush (v := 42) hx hb dX12_endOne_41 (by decide) ?_
      obtain ⟨hc_19t, hc_19f⟩ := hw
      refine lv_icmp_eq (tgt := 48) hx hb dX12_endOne_43 (by decide) (fun c_19 => ?_) (fun c_19 => ?_)
      · have hw := hc_19t c_19
        clear hc_19t hc_19f
        exact J_48 t0 S _ _ _ hw hP hD hS (lv_sub hl [1, 0] rfl)
      · have hw := hc_19f c_19
        clear hc_19t hc_19f
        refine lv_iconst (v := 0) hx hb dX12_endOne_46 (by decide) ?_
        exact W.iret (v := 0) hx hb hr (fun t ht hW => ⟨⟨0, S, rfl, hw, by rw [ht]; exact hP, va_K.moved hW.alike hK, hD⟩, hS.F ht⟩) hS.2.2 dX12_endOne_47
  refine lv_aload_n hx hb dX12_endOne_0 rfl (lv_at hl 0 rfl) ?_
  refine lv_bipush (v := 7) hx hb dX12_endOne_1 (by decide) ?_
  refine k_callVv (As := [.int 7]) (rest := []) ⟨hx, hb, hml, hown, hts⟩ (cM_settle l D h cy _ _ _ hw) (cwV 1 hts gX12_endOne_X12_settle rfl rfl rfl (by decide +kernel) ⟨Nat.le_of_ble_eq_true rfl, Nat.le_of_ble_eq_true rfl⟩) (va_recv hK hP (ci := 11) (q0 := 0) rfl rfl) hK hP hD hS hA rfl hl.1 rfl (Nat.le_of_ble_eq_true rfl) dX12_endOne_3 ⟨Nat.zero_le _, Nat.zero_le _⟩ (fun S_21 H locs hw hP hD hS => ?_)
  refine lv_aload_n hx hb dX12_endOne_6 rfl (lv_at hl 0 rfl) ?_
  refine lv_iconst (v := 1) hx hb dX12_endOne_7 (by decide) ?_
  refine va_put (D := D) (ci := 11) (v := .int 1) (ty := .boolean) (C := RX12) (T := TX12) (N := 31) hx hb hts hin tyX12 tyX12_ok nmX12 hown hK hP hD hS 0 rfl rfl 18 (by decide) w209 (fun _ h9 => h9) rfl (tyX12_ok 18 (by decide)) (by decide +kernel) (by decide +kernel) (Nat.le_of_ble_eq_true rfl) dX12_endOne_8 (fun H locs hP hD hS => ?_)
  obtain ⟨S_22, eS_22⟩ : ∃ z : MS, z = (ms_set_isWhole S_21 1) := ⟨_, rfl⟩
  have hw := hw S_22 eS_22
  have hP : va_P D vwCl (wM h cy S_22) H := by rw [eS_22, ← wMp_isWhole]; exact hP
  have hD : va_D A (wM h cy S_22) := by rw [eS_22, ← wMp_isWhole]; exact hD
  refine lv_aload_n hx hb dX12_endOne_11 rfl (lv_at hl 0 rfl) ?_
  refine va_get (D := D) (ci := 11) (v := .int (ms_piled S_22)) (C := RX12) (T := TX12) (N := 31) hx hb hts hin hown hK hP 0 rfl rfl 16 (by decide) w164 (fun _ h9 => h9) rfl dX12_endOne_12 ?_
  obtain ⟨hc_23t, hc_23f⟩ := hw
  refine lv_if_ne (tgt := 22) hx hb dX12_endOne_15 (by decide) (fun c_23 => ?_) (fun c_23 => ?_)
  · have hw := hc_23f c_23
    clear hc_23t hc_23f
    refine lv_aload_n hx hb dX12_endOne_22 rfl (lv_at hl 0 rfl) ?_
    refine va_get (D := D) (ci := 11) (v := .ref (h 15)) (C := RX12) (T := TX12) (N := 31) hx hb hts hin hown hK hP 0 rfl rfl 15 (by decide) w29 (fun _ h9 => h9) rfl dX12_endOne_23 ?_
    refine lv_aload_n hx hb dX12_endOne_26 rfl (lv_at hl 0 rfl) ?_
    refine va_get (D := D) (ci := 11) (v := .int (ms_piled S_22)) (C := RX12) (T := TX12) (N := 31) hx hb hts hin hown hK hP 0 rfl rfl 16 (by decide) w164 (fun _ h9 => h9) rfl dX12_endOne_27 ?_
    refine lv_iconst (v := 1) hx hb dX12_endOne_30 (by decide) ?_
    refine lv_isub hx hb dX12_endOne_31 ?_
    obtain ⟨hi_24, hw⟩ := hw
    refine va_iald (f := (ms_pile S_22)) hx hb hK hP 5 4 rfl rfl hi_24 dX12_endOne_32 ?_
    exact J_33 ((ms_pile S_22) ((ms_piled S_22) - 1).toNatClampNeg) S_22 _ _ _ hw hP hD hS (lv_sub hl [0] rfl)
  · have hw := hc_23t c_23
    clear hc_23t hc_23f
    refine lv_iconst (v := (-1)) hx hb dX12_endOne_18 (by decide) ?_
    refine lv_goto (tgt := 33) hx hb dX12_endOne_19 (by decide) ?_
    exact J_33 (-1) S_22 _ _ _ hw hP hD hS (lv_sub hl [0] rfl)
def wM_beginOne_81 (post : Int32 → MS → Prop) (t1 : Int32) (t2 : Int32) (S : MS) : Prop := wM_emit t1 t2 S (fun S_2 => wM_nextToken S_2 (fun S_4 => wM_endOne S_4 (fun r_5 S_6 => post r_5 S_6)))
def wM_beginOne_51 (post : Int32 → MS → Prop) (x1 : Int32) (S : MS) : Prop := (((ms_token S) = 1 → (((ms_token S) = 1 → wM_beginOne_81 post 0 (ms_number S) S) ∧ (¬ ((ms_token S) = 1) → wM_beginOne_81 post 0 x1 S))) ∧ (¬ ((ms_token S) = 1) → (((ms_token S) = 1 → wM_beginOne_81 post 1 (ms_number S) S) ∧ (¬ ((ms_token S) = 1) → wM_beginOne_81 post 1 x1 S))))
def wM_beginOne_39 (post : Int32 → MS → Prop) (x1 : Int32) (S : MS) : Prop := (((ms_token S) = 1 → wM_beginOne_51 post x1 S) ∧ (¬ ((ms_token S) = 1) → ((x1 < 0 → (((ms_token S) = 40 → wM_opened 40 S (fun r_38 S_39 => post r_38 S_39)) ∧ (¬ ((ms_token S) = 40) → (((ms_token S) = 45 → wM_opened 5 S (fun r_36 S_37 => post r_36 S_37)) ∧ (¬ ((ms_token S) = 45) → wM_w4 104 111 108 100 S (fun r_5 S_6 => wM_isWord r_5 S_6 (fun r_7 S_8 => ((r_7 = 0 → wM_w5 109 111 111 100 115 S_8 (fun r_10 S_11 => wM_isWord r_10 S_11 (fun r_12 S_13 => ((r_12 = 0 → wM_w2 105 102 S_13 (fun r_15 S_16 => wM_isWord r_15 S_16 (fun r_17 S_18 => ((r_17 = 0 → wM_w3 110 111 116 S_18 (fun r_20 S_21 => wM_isWord r_20 S_21 (fun r_22 S_23 => ((r_22 = 0 → post 1 S_23) ∧ (¬ (r_22 = 0) → wM_isAskAhead S_23 (fun r_25 S_26 => ((r_25 = 0 → post 1 S_26) ∧ (¬ (r_25 = 0) → wM_opened 20 S_26 (fun r_28 S_29 => post r_28 S_29))))))))) ∧ (¬ (r_17 = 0) → wM_opened 43 S_18 (fun r_30 S_31 => post r_30 S_31)))))) ∧ (¬ (r_12 = 0) → wM_opened 2 S_13 (fun r_32 S_33 => post r_32 S_33)))))) ∧ (¬ (r_7 = 0) → wM_opened 41 S_8 (fun r_34 S_35 => post r_34 S_35)))))))))) ∧ (¬ (x1 < 0) → wM_beginOne_51 post x1 S))))
def wM_beginOne_20 (post : Int32 → MS → Prop) (S : MS) : Prop := wM_nameOf S (fun r_1 S_2 => ((r_1 < 0 → wM_beginOne_39 post r_1 S_2) ∧ (¬ (r_1 < 0) → wM_isOf r_1 S_2 (fun r_4 S_5 => ((r_4 = 0 → post 5 S_5) ∧ (¬ (r_4 = 0) → wM_beginOne_39 post r_1 S_5))))))
def wM_beginOne (S : MS) (post : Int32 → MS → Prop) : Prop := (((ms_token S) = 1 → (((ms_number S) ≤ 9999 → wM_beginOne_20 post S) ∧ (¬ ((ms_number S) ≤ 9999) → post 2 S))) ∧ (¬ ((ms_token S) = 1) → wM_beginOne_20 post S))
set_option maxHeartbeats 4000000 in
set_option maxRecDepth 100000 in
theorem cM_beginOne (l : Launch) (D : va_G) (h : Nat → Nat) (cy : Nat → ClassId) (S : MS) (post : Int32 → MS → Prop) (hw : wM_beginOne S post) : k_Mi l yX12_beginOne wsX12_beginOne { frames := 5, cells := 0, slots := 0, locals := 110 } D (tyM cy) (wM h cy) [.ref (h 31)] S post := by
  intro sz
  refine Met.ofW (cc := cX12_beginOne) (maxL := 2) (ret := (some .int)) (by decide) rfl ?_
  intro p e s m args below meth c s₁ B hml hv
  obtain ⟨rfl, hsz, hP, hK, hD0⟩ := hv
  have hx := B.exec
  have hb := B.bytes
  have hr := B.returns
  have hts := atoms_spec (ws := wsX12_beginOne) B.pre
  have hown : s.vm.findClass RX12 = some m.cls := findClass_of_methodNamed B.named
  have hlocks := B.notSynchronized
  subst hsz
  have hD := hD0.self (sz := s.heap.size)
  generalize hAe : va_A (wM h cy S) s.heap.size = A at hD ⊢
  have hA : ∀ q : Nat, s.heap.size ≤ q → A q := fun q h => by rw [← hAe]; exact Or.inr h
  have hS : va_S A s.heap s.heap [] := va_S.rf
  have hin : ∀ w ∈ wsX120, w ∈ wsX12_beginOne := fun _ h => List.mem_cons_of_mem _ (List.mem_append_right _ h)
  have w113 := hts (.fieldLink RX12 113 "ClownsMournModel" "token" "I") (List.mem_of_getElem? (i := 1) rfl)
  have w119 := hts (.fieldLink RX12 119 "ClownsMournModel" "number" "I") (List.mem_of_getElem? (i := 2) rfl)
  have hl := lv_entry ([.ref (h 31)]) (n := 2) (Nat.le_of_ble_eq_true rfl)
  rw [lg_entry_eq]
  generalize (lg_sl ([.ref (h 31)]) ++ List.replicate (2 - (lg_sl ([.ref (h 31)])).length) Slot.unset).toArray = ls at hl ⊢
  have hl : lv_has ls 2 [(0, .ref (h 31))] := hl
  unfold wM_beginOne at hw
  clear hD0
  have J_81 : ∀ (t1 : Int32) (t2 : Int32) (S : MS) (H : Heap) (locs : List Loc) (ls : Array Slot), wM_beginOne_81 post t1 t2 S → va_P D vwCl (wM h cy S) H → va_D A (wM h cy S) → va_S A s.heap H locs → lv_has ls 2 [(0, .ref (h 31))] → W p l e (headSpec wsX12_beginOne { frames := 5, cells := 0, slots := 0, locals := 110 }).room s m (([.ref (h 31)] : List Value).toArray) below meth c H locs 0 0 (MQ below (va_Qi post (k_Post D (tyM cy) (wM h cy) A) A) (([.ref (h 31)] : List Value).toArray) s 0 0 A) (F0 m 81 ls [.int t2, .int t1, .ref (h 31)]) := by
    intro t1 t2 S H locs ls hw hP hD hS hl
    unfold wM_beginOne_81 at hw
    refine k_callVv (As := [.int t1, .int t2]) (rest := []) ⟨hx, hb, hml, hown, hts⟩ (cM_emit l D h cy _ _ _ _ hw) (cwV 2 hts gX12_beginOne_X12_emit rfl rfl rfl (by decide +kernel) ⟨Nat.le_of_ble_eq_true rfl, Nat.le_of_ble_eq_true rfl⟩) (va_recv hK hP (ci := 11) (q0 := 0) rfl rfl) hK hP hD hS hA rfl hl.1 rfl (Nat.le_of_ble_eq_true rfl) dX12_beginOne_81 ⟨Nat.zero_le _, Nat.zero_le _⟩ (fun S_2 H locs hw hP hD hS => ?_)
    refine lv_aload_n hx hb dX12_beginOne_84 rfl (lv_at hl 0 rfl) ?_
    refine k_callVv (As := []) (rest := []) ⟨hx, hb, hml, hown, hts⟩ (cM_nextToken l D h cy _ _ hw) (cwV 0 hts gX12_beginOne_X12_nextToken rfl rfl rfl (by decide +kernel) ⟨Nat.le_of_ble_eq_true rfl, Nat.le_of_ble_eq_true rfl⟩) (va_recv hK hP (ci := 11) (q0 := 0) rfl rfl) hK hP hD hS hA rfl hl.1 rfl (Nat.le_of_ble_eq_true rfl) dX12_beginOne_85 ⟨Nat.zero_le _, Nat.zero_le _⟩ (fun S_4 H locs hw hP hD hS => ?_)
    refine lv_aload_n hx hb dX12_beginOne_88 rfl (lv_at hl 0 rfl) ?_
    refine k_callVi (As := []) (rest := []) ⟨hx, hb, hml, hown, hts⟩ (cM_endOne l D h cy _ _ hw) (cwV 0 hts gX12_beginOne_X12_endOne rfl rfl rfl (by decide +kernel) ⟨Nat.le_of_ble_eq_true rfl, Nat.le_of_ble_eq_true rfl⟩) (va_recv hK hP (ci := 11) (q0 := 0) rfl rfl) hK hP hD hS hA rfl hl.1 rfl (Nat.le_of_ble_eq_true rfl) dX12_beginOne_89 ⟨Nat.zero_le _, Nat.zero_le _⟩ (fun r_5 S_6 H locs hw hP hD hS => ?_)
    exact W.iret (v := r_5) hx hb hr (fun t ht hW => ⟨⟨r_5, S_6, rfl, hw, by rw [ht]; exact hP, va_K.moved hW.alike hK, hD⟩, hS.F ht⟩) hS.2.2 dX12_beginOne_92
  have J_51 : ∀ (x1 : Int32) (S : MS) (H : Heap) (locs : List Loc) (ls : Array Slot), wM_beginOne_51 post x1 S → va_P D vwCl (wM h cy S) H → va_D A (wM h cy S) → va_S A s.heap H locs → lv_has ls 2 [(0, .ref (h 31)), (1, .int x1)] → W p l e (headSpec wsX12_beginOne { frames := 5, cells := 0, slots := 0, locals := 110 }).room s m (([.ref (h 31)] : List Value).toArray) below meth c H locs 0 0 (MQ below (va_Qi post (k_Post D (tyM cy) (wM h cy) A) A) (([.ref (h 31)] : List Value).toArray) s 0 0 A) (F0 m 51 ls []) := by
    intro x1 S H locs ls hw hP hD hS hl
    unfold wM_beginOne_51 at hw
    refine lv_aload_n hx hb dX12_beginOne_51 rfl (lv_at hl 0 rfl) ?_
    refine lv_aload_n hx hb dX12_beginOne_52 rfl (lv_at hl 0 rfl) ?_
    refine va_get (D := D) (ci := 11) (v := .int (ms_token S)) (C := RX12) (T := TX12) (N := 31) hx hb hts hin hown hK hP 0 rfl rfl 9 (by decide) w113 (fun _ h9 => h9) rfl dX12_beginOne_53 ?_
    refine lv_iconst (v := 1) hx hb dX12_beginOne_56 (by decide) ?_
    obtain ⟨hc_7t, hc_7f⟩ := hw
    refine lv_icmp_ne (tgt := 64) hx hb dX12_beginOne_57 (by decide) (fun c_7 => ?_) (fun c_7 => ?_)
    · have hw := hc_7f c_7
      clear hc_7t hc_7f
      refine lv_iconst (v := 1) hx hb dX12_beginOne_64 (by decide) ?_
      refine lv_aload_n hx hb dX12_beginOne_65 rfl (lv_at hl 0 rfl) ?_
      refine va_get (D := D) (ci := 11) (v := .int (ms_token S)) (C := RX12) (T := TX12) (N := 31) hx hb hts hin hown hK hP 0 rfl rfl 9 (by decide) w113 (fun _ h9 => h9) rfl dX12_beginOne_66 ?_
      refine lv_iconst (v := 1) hx hb dX12_beginOne_69 (by decide) ?_
      obtain ⟨hc_8t, hc_8f⟩ := hw
      refine lv_icmp_ne (tgt := 80) hx hb dX12_beginOne_70 (by decide) (fun c_8 => ?_) (fun c_8 => ?_)
      · have hw := hc_8f c_8
        clear hc_8t hc_8f
        refine lv_iload_n hx hb dX12_beginOne_80 rfl (lv_at hl 1 rfl) ?_
        exact J_81 1 x1 S _ _ _ hw hP hD hS (lv_sub hl [0] rfl)
      · have hw := hc_8t c_8
        clear hc_8t hc_8f
        refine lv_aload_n hx hb dX12_beginOne_73 rfl (lv_at hl 0 rfl) ?_
        refine va_get (D := D) (ci := 11) (v := .int (ms_number S)) (C := RX12) (T := TX12) (N := 31) hx hb hts hin hown hK hP 0 rfl rfl 10 (by decide) w119 (fun _ h9 => h9) rfl dX12_beginOne_74 ?_
        refine lv_goto (tgt := 81) hx hb dX12_beginOne_77 (by decide) ?_
        exact J_81 1 (ms_number S) S _ _ _ hw hP hD hS (lv_sub hl [0] rfl)
    · have hw := hc_7t c_7
      clear hc_7t hc_7f
      refine lv_iconst (v := 0) hx hb dX12_beginOne_60 (by decide) ?_
      refine lv_goto (tgt := 65) hx hb dX12_beginOne_61 (by decide) ?_
      refine lv_aload_n hx hb dX12_beginOne_65 rfl (lv_at hl 0 rfl) ?_
      refine va_get (D := D) (ci := 11) (v := .int (ms_token S)) (C := RX12) (T := TX12) (N := 31) hx hb hts hin hown hK hP 0 rfl rfl 9 (by decide) w113 (fun _ h9 => h9) rfl dX12_beginOne_66 ?_
      refine lv_iconst (v := 1) hx hb dX12_beginOne_69 (by decide) ?_
      obtain ⟨hc_9t, hc_9f⟩ := hw
      refine lv_icmp_ne (tgt := 80) hx hb dX12_beginOne_70 (by decide) (fun c_9 => ?_) (fun c_9 => ?_)
      · have hw := hc_9f c_9
        clear hc_9t hc_9f
        refine lv_iload_n hx hb dX12_beginOne_80 rfl (lv_at hl 1 rfl) ?_
        exact J_81 0 x1 S _ _ _ hw hP hD hS (lv_sub hl [0] rfl)
      · have hw := hc_9t c_9
        clear hc_9t hc_9f
        refine lv_aload_n hx hb dX12_beginOne_73 rfl (lv_at hl 0 rfl) ?_
        refine va_get (D := D) (ci := 11) (v := .int (ms_number S)) (C := RX12) (T := TX12) (N := 31) hx hb hts hin hown hK hP 0 rfl rfl 10 (by decide) w119 (fun _ h9 => h9) rfl dX12_beginOne_74 ?_
        refine lv_goto (tgt := 81) hx hb dX12_beginOne_77 (by decide) ?_
        exact J_81 0 (ms_number S) S _ _ _ hw hP hD hS (lv_sub hl [0] rfl)
  have J_39 : ∀ (x1 : Int32) (S : MS) (H : Heap) (locs : List Loc) (ls : Array Slot), wM_beginOne_39 post x1 S → va_P D vwCl (wM h cy S) H → va_D A (wM h cy S) → va_S A s.heap H locs → lv_has ls 2 [(0, .ref (h 31)), (1, .int x1)] → W p l e (headSpec wsX12_beginOne { frames := 5, cells := 0, slots := 0, locals := 110 }).room s m (([.ref (h 31)] : List Value).toArray) below meth c H locs 0 0 (MQ below (va_Qi post (k_Post D (tyM cy) (wM h cy) A) A) (([.ref (h 31)] : List Value).toArray) s 0 0 A) (F0 m 39 ls []) := by
    intro x1 S H locs ls hw hP hD hS hl
    unfold wM_beginOne_39 at hw
    refine lv_aload_n hx hb dX12_beginOne_39 rfl (lv_at hl 0 rfl) ?_
    refine va_get (D := D) (ci := 11) (v := .int (ms_token S)) (C := RX12) (T := TX12) (N := 31) hx hb hts hin hown hK hP 0 rfl rfl 9 (by decide) w113 (fun _ h9 => h9) rfl dX12_beginOne_40 ?_
    refine lv_iconst (v := 1) hx hb dX12_beginOne_43 (by decide) ?_
    obtain ⟨hc_10t, hc_10f⟩ := hw
    refine lv_icmp_eq (tgt := 51) hx hb dX12_beginOne_44 (by decide) (fun c_10 => ?_) (fun c_10 => ?_)
    · have hw := hc_10t c_10
      clear hc_10t hc_10f
      exact J_51 x1 S _ _ _ hw hP hD hS (lv_sub hl [0, 1] rfl)
    · have hw := hc_10f c_10
      clear hc_10t hc_10f
      refine lv_iload_n hx hb dX12_beginOne_47 rfl (lv_at hl 1 rfl) ?_
      obtain ⟨hc_11t, hc_11f⟩ := hw
      refine lv_if_lt (tgt := 93) hx hb dX12_beginOne_48 (by decide) (fun c_11 => ?_) (fun c_11 => ?_)
      · have hw := hc_11t c_11
        clear hc_11t hc_11f
        refine lv_aload_n hx hb dX12_beginOne_93 rfl (lv_at hl 0 rfl) ?_
        refine va_get (D := D) (ci := 11) (v := .int (ms_token S)) (C := RX12) (T := TX12) (N := 31) hx hb hts hin hown hK hP 0 rfl rfl 9 (by decide) w113 (fun _ h9 => h9) rfl dX12_beginOne_94 ?_
        refine lv_bipush (v := 40) hx hb dX12_beginOne_97 (by decide) ?_
        obtain ⟨hc_12t, hc_12f⟩ := hw
        refine lv_icmp_ne (tgt := 109) hx hb dX12_beginOne_99 (by decide) (fun c_12 => ?_) (fun c_12 => ?_)
        · have hw := hc_12f c_12
          clear hc_12t hc_12f
          refine lv_aload_n hx hb dX12_beginOne_109 rfl (lv_at hl 0 rfl) ?_
          refine va_get (D := D) (ci := 11) (v := .int (ms_token S)) (C := RX12) (T := TX12) (N := 31) hx hb hts hin hown hK hP 0 rfl rfl 9 (by decide) w113 (fun _ h9 => h9) rfl dX12_beginOne_110 ?_
          refine lv_bipush (v := 45) hx hb dX12_beginOne_113 (by decide) ?_
          obtain ⟨hc_13t, hc_13f⟩ := hw
          refine lv_icmp_ne (tgt := 124) hx hb dX12_beginOne_115 (by decide) (fun c_13 => ?_) (fun c_13 => ?_)
          · have hw := hc_13f c_13
            clear hc_13t hc_13f
            refine lv_aload_n hx hb dX12_beginOne_124 rfl (lv_at hl 0 rfl) ?_
            refine lv_bipush (v := 104) hx hb dX12_beginOne_125 (by decide) ?_
            refine lv_bipush (v := 111) hx hb dX12_beginOne_127 (by decide) ?_
            refine lv_bipush (v := 108) hx hb dX12_beginOne_129 (by decide) ?_
            refine lv_bipush (v := 100) hx hb dX12_beginOne_131 (by decide) ?_
            refine k_callSl (As := [.int 104, .int 111, .int 108, .int 100]) (rest := [.ref (h 31)]) ⟨hx, hb, hml, hown, hts⟩ (cM_w4 l D h cy _ _ _ _ _ _ hw) (va_cwS 4 hts gX12_beginOne_X12_w4 rfl rfl rfl (by decide +kernel) ⟨Nat.le_of_ble_eq_true rfl, Nat.le_of_ble_eq_true rfl⟩) hK hP hD hS hA rfl hl.1 rfl (Nat.le_of_ble_eq_true rfl) dX12_beginOne_133 ⟨Nat.zero_le _, Nat.zero_le _⟩ (fun r_14 S_15 H locs hw hP hD hS => ?_)
            refine k_callVi (As := [.long r_14]) (rest := []) ⟨hx, hb, hml, hown, hts⟩ (cM_isWord l D h cy _ _ _ hw) (cwV 1 hts gX12_beginOne_X12_isWord rfl rfl rfl (by decide +kernel) ⟨Nat.le_of_ble_eq_true rfl, Nat.le_of_ble_eq_true rfl⟩) (va_recv hK hP (ci := 11) (q0 := 0) rfl rfl) hK hP hD hS hA rfl hl.1 rfl (Nat.le_of_ble_eq_true rfl) dX12_beginOne_136 ⟨Nat.zero_le _, Nat.zero_le _⟩ (fun r_16 S_17 H locs hw hP hD hS => ?_)
            obtain ⟨hc_18t, hc_18f⟩ := hw
            refine lv_if_eq (tgt := 149) hx hb dX12_beginOne_139 (by decide) (fun c_18 => ?_) (fun c_18 => ?_)
            · have hw := hc_18t c_18
              clear hc_18t hc_18f
              refine lv_aload_n hx hb dX12_beginOne_149 rfl (lv_at hl 0 rfl) ?_
              refine lv_bipush (v := 109) hx hb dX12_beginOne_150 (by decide) ?_
              refine lv_bipush (v := 111) hx hb dX12_beginOne_152 (by decide) ?_
              refine lv_bipush (v := 111) hx hb dX12_beginOne_154 (by decide) ?_
              refine lv_bipush (v := 100) hx hb dX12_beginOne_156 (by decide) ?_
              refine lv_bipush (v := 115) hx hb dX12_beginOne_158 (by decide) ?_
              refine k_callSl (As := [.int 109, .int 111, .int 111, .int 100, .int 115]) (rest := [.ref (h 31)]) ⟨hx, hb, hml, hown, hts⟩ (cM_w5 l D h cy _ _ _ _ _ _ _ hw) (va_cwS 5 hts gX12_beginOne_X12_w5 rfl rfl rfl (by decide +kernel) ⟨Nat.le_of_ble_eq_true rfl, Nat.le_of_ble_eq_true rfl⟩) hK hP hD hS hA rfl hl.1 rfl (Nat.le_of_ble_eq_true rfl) dX12_beginOne_160 ⟨Nat.zero_le _, Nat.zero_le _⟩ (fun r_19 S_20 H locs hw hP hD hS => ?_)
              refine k_callVi (As := [.long r_19]) (rest := []) ⟨hx, hb, hml, hown, hts⟩ (cM_isWord l D h cy _ _ _ hw) (cwV 1 hts gX12_beginOne_X12_isWord rfl rfl rfl (by decide +kernel) ⟨Nat.le_of_ble_eq_true rfl, Nat.le_of_ble_eq_true rfl⟩) (va_recv hK hP (ci := 11) (q0 := 0) rfl rfl) hK hP hD hS hA rfl hl.1 rfl (Nat.le_of_ble_eq_true rfl) dX12_beginOne_163 ⟨Nat.zero_le _, Nat.zero_le _⟩ (fun r_21 S_22 H locs hw hP hD hS => ?_)
              obtain ⟨hc_23t, hc_23f⟩ := hw
              refine lv_if_eq (tgt := 175) hx hb dX12_beginOne_166 (by decide) (fun c_23 => ?_) (fun c_23 => ?_)
              · have hw := hc_23t c_23
                clear hc_23t hc_23f
                refine lv_aload_n hx hb dX12_beginOne_175 rfl (lv_at hl 0 rfl) ?_
                refine lv_bipush (v := 105) hx hb dX12_beginOne_176 (by decide) ?_
                refine lv_bipush (v := 102) hx hb dX12_beginOne_178 (by decide) ?_
                refine k_callSl (As := [.int 105, .int 102]) (rest := [.ref (h 31)]) ⟨hx, hb, hml, hown, hts⟩ (cM_w2 l D h cy _ _ _ _ hw) (va_cwS 2 hts gX12_beginOne_X12_w2 rfl rfl rfl (by decide +kernel) ⟨Nat.le_of_ble_eq_true rfl, Nat.le_of_ble_eq_true rfl⟩) hK hP hD hS hA rfl hl.1 rfl (Nat.le_of_ble_eq_true rfl) dX12_beginOne_180 ⟨Nat.zero_le _, Nat.zero_le _⟩ (fun r_24 S_25 H locs hw hP hD hS => ?_)
                refine k_callVi (As := [.long r_24]) (rest := []) ⟨hx, hb, hml, hown, hts⟩ (cM_isWord l D h cy _ _ _ hw) (cwV 1 hts gX12_beginOne_X12_isWord rfl rfl rfl (by decide +kernel) ⟨Nat.le_of_ble_eq_true rfl, Nat.le_of_ble_eq_true rfl⟩) (va_recv hK hP (ci := 11) (q0 := 0) rfl rfl) hK hP hD hS hA rfl hl.1 rfl (Nat.le_of_ble_eq_true rfl) dX12_beginOne_183 ⟨Nat.zero_le _, Nat.zero_le _⟩ (fun r_26 S_27 H locs hw hP hD hS => ?_)
                obtain ⟨hc_28t, hc_28f⟩ := hw
                refine lv_if_eq (tgt := 196) hx hb dX12_beginOne_186 (by decide) (fun c_28 => ?_) (fun c_28 => ?_)
                · have hw := hc_28t c_28
                  clear hc_28t hc_28f
                  refine lv_aload_n hx hb dX12_beginOne_196 rfl (lv_at hl 0 rfl) ?_
                  refine lv_bipush (v := 110) hx hb dX12_beginOne_197 (by decide) ?_
                  refine lv_bipush (v := 111) hx hb dX12_beginOne_199 (by decide) ?_
                  refine lv_bipush (v := 116) hx hb dX12_beginOne_201 (by decide) ?_
                  refine k_callSl (As := [.int 110, .int 111, .int 116]) (rest := [.ref (h 31)]) ⟨hx, hb, hml, hown, hts⟩ (cM_w3 l D h cy _ _ _ _ _ hw) (va_cwS 3 hts gX12_beginOne_X12_w3 rfl rfl rfl (by decide +kernel) ⟨Nat.le_of_ble_eq_true rfl, Nat.le_of_ble_eq_true rfl⟩) hK hP hD hS hA rfl hl.1 rfl (Nat.le_of_ble_eq_true rfl) dX12_beginOne_203 ⟨Nat.zero_le _, Nat.zero_le _⟩ (fun r_29 S_30 H locs hw hP hD hS => ?_)
                  refine k_callVi (As := [.long r_29]) (rest := []) ⟨hx, hb, hml, hown, hts⟩ (cM_isWord l D h cy _ _ _ hw) (cwV 1 hts gX12_beginOne_X12_isWord rfl rfl rfl (by decide +kernel) ⟨Nat.le_of_ble_eq_true rfl, Nat.le_of_ble_eq_true rfl⟩) (va_recv hK hP (ci := 11) (q0 := 0) rfl rfl) hK hP hD hS hA rfl hl.1 rfl (Nat.le_of_ble_eq_true rfl) dX12_beginOne_206 ⟨Nat.zero_le _, Nat.zero_le _⟩ (fun r_31 S_32 H locs hw hP hD hS => ?_)
                  obtain ⟨hc_33t, hc_33f⟩ := hw
                  refine lv_if_eq (tgt := 228) hx hb dX12_beginOne_209 (by decide) (fun c_33 => ?_) (fun c_33 => ?_)
                  · have hw := hc_33t c_33
                    clear hc_33t hc_33f
                    refine lv_iconst (v := 1) hx hb dX12_beginOne_228 (by decide) ?_
                    exact W.iret (v := 1) hx hb hr (fun t ht hW => ⟨⟨1, S_32, rfl, hw, by rw [ht]; exact hP, va_K.moved hW.alike hK, hD⟩, hS.F ht⟩) hS.2.2 dX12_beginOne_229
                  · have hw := hc_33f c_33
                    clear hc_33t hc_33f
                    refine lv_aload_n hx hb dX12_beginOne_212 rfl (lv_at hl 0 rfl) ?_
                    refine k_callVi (As := []) (rest := []) ⟨hx, hb, hml, hown, hts⟩ (cM_isAskAhead l D h cy _ _ hw) (cwV 0 hts gX12_beginOne_X12_isAskAhead rfl rfl rfl (by decide +kernel) ⟨Nat.le_of_ble_eq_true rfl, Nat.le_of_ble_eq_true rfl⟩) (va_recv hK hP (ci := 11) (q0 := 0) rfl rfl) hK hP hD hS hA rfl hl.1 rfl (Nat.le_of_ble_eq_true rfl) dX12_beginOne_213 ⟨Nat.zero_le _, Nat.zero_le _⟩ (fun r_34 S_35 H locs hw hP hD hS => ?_)
                    obtain ⟨hc_36t, hc_36f⟩ := hw
                    refine lv_if_eq (tgt := 228) hx hb dX12_beginOne_216 (by decide) (fun c_36 => ?_) (fun c_36 => ?_)
                    · have hw := hc_36t c_36
                      clear hc_36t hc_36f
                      refine lv_iconst (v := 1) hx hb dX12_beginOne_228 (by decide) ?_
                      exact W.iret (v := 1) hx hb hr (fun t ht hW => ⟨⟨1, S_35, rfl, hw, by rw [ht]; exact hP, va_K.moved hW.alike hK, hD⟩, hS.F ht⟩) hS.2.2 dX12_beginOne_229
                    · have hw := hc_36f c_36
                      clear hc_36t hc_36f
                      refine lv_aload_n hx hb dX12_beginOne_219 rfl (lv_at hl 0 rfl) ?_
                      refine lv_bipush (v := 20) hx hb dX12_beginOne_220 (by decide) ?_
                      refine k_callVi (As := [.int 20]) (rest := []) ⟨hx, hb, hml, hown, hts⟩ (cM_opened l D h cy _ _ _ hw) (cwV 1 hts gX12_beginOne_X12_opened rfl rfl rfl (by decide +kernel) ⟨Nat.le_of_ble_eq_true rfl, Nat.le_of_ble_eq_true rfl⟩) (va_recv hK hP (ci := 11) (q0 := 0) rfl rfl) hK hP hD hS hA rfl hl.1 rfl (Nat.le_of_ble_eq_true rfl) dX12_beginOne_222 ⟨Nat.zero_le _, Nat.zero_le _⟩ (fun r_37 S_38 H locs hw hP hD hS => ?_)
                      refine lv_goto (tgt := 229) hx hb dX12_beginOne_225 (by decide) ?_
                      exact W.iret (v := r_37) hx hb hr (fun t ht hW => ⟨⟨r_37, S_38, rfl, hw, by rw [ht]; exact hP, va_K.moved hW.alike hK, hD⟩, hS.F ht⟩) hS.2.2 dX12_beginOne_229
                · have hw := hc_28f c_28
                  clear hc_28t hc_28f
                  refine lv_aload_n hx hb dX12_beginOne_189 rfl (lv_at hl 0 rfl) ?_
                  refine lv_bipush (v := 43) hx hb dX12_beginOne_190 (by decide) ?_
                  refine k_callVi (As := [.int 43]) (rest := []) ⟨hx, hb, hml, hown, hts⟩ (cM_opened l D h cy _ _ _ hw) (cwV 1 hts gX12_beginOne_X12_opened rfl rfl rfl (by decide +kernel) ⟨Nat.le_of_ble_eq_true rfl, Nat.le_of_ble_eq_true rfl⟩) (va_recv hK hP (ci := 11) (q0 := 0) rfl rfl) hK hP hD hS hA rfl hl.1 rfl (Nat.le_of_ble_eq_true rfl) dX12_beginOne_192 ⟨Nat.zero_le _, Nat.zero_le _⟩ (fun r_39 S_40 H locs hw hP hD hS => ?_)
                  exact W.iret (v := r_39) hx hb hr (fun t ht hW => ⟨⟨r_39, S_40, rfl, hw, by rw [ht]; exact hP, va_K.moved hW.alike hK, hD⟩, hS.F ht⟩) hS.2.2 dX12_beginOne_195
              · have hw := hc_23f c_23
                clear hc_23t hc_23f
                refine lv_aload_n hx hb dX12_beginOne_169 rfl (lv_at hl 0 rfl) ?_
                refine lv_iconst (v := 2) hx hb dX12_beginOne_170 (by decide) ?_
                refine k_callVi (As := [.int 2]) (rest := []) ⟨hx, hb, hml, hown, hts⟩ (cM_opened l D h cy _ _ _ hw) (cwV 1 hts gX12_beginOne_X12_opened rfl rfl rfl (by decide +kernel) ⟨Nat.le_of_ble_eq_true rfl, Nat.le_of_ble_eq_true rfl⟩) (va_recv hK hP (ci := 11) (q0 := 0) rfl rfl) hK hP hD hS hA rfl hl.1 rfl (Nat.le_of_ble_eq_true rfl) dX12_beginOne_171 ⟨Nat.zero_le _, Nat.zero_le _⟩ (fun r_41 S_42 H locs hw hP hD hS => ?_)
                exact W.iret (v := r_41) hx hb hr (fun t ht hW => ⟨⟨r_41, S_42, rfl, hw, by rw [ht]; exact hP, va_K.moved hW.alike hK, hD⟩, hS.F ht⟩) hS.2.2 dX12_beginOne_174
            · have hw := hc_18f c_18
              clear hc_18t hc_18f
              refine lv_aload_n hx hb dX12_beginOne_142 rfl (lv_at hl 0 rfl) ?_
              refine lv_bipush (v := 41) hx hb dX12_beginOne_143 (by decide) ?_
              refine k_callVi (As := [.int 41]) (rest := []) ⟨hx, hb, hml, hown, hts⟩ (cM_opened l D h cy _ _ _ hw) (cwV 1 hts gX12_beginOne_X12_opened rfl rfl rfl (by decide +kernel) ⟨Nat.le_of_ble_eq_true rfl, Nat.le_of_ble_eq_true rfl⟩) (va_recv hK hP (ci := 11) (q0 := 0) rfl rfl) hK hP hD hS hA rfl hl.1 rfl (Nat.le_of_ble_eq_true rfl) dX12_beginOne_145 ⟨Nat.zero_le _, Nat.zero_le _⟩ (fun r_43 S_44 H locs hw hP hD hS => ?_)
              exact W.iret (v := r_43) hx hb hr (fun t ht hW => ⟨⟨r_43, S_44, rfl, hw, by rw [ht]; exact hP, va_K.moved hW.alike hK, hD⟩, hS.F ht⟩) hS.2.2 dX12_beginOne_148
          · have hw := hc_13t c_13
            clear hc_13t hc_13f
            refine lv_aload_n hx hb dX12_beginOne_118 rfl (lv_at hl 0 rfl) ?_
            refine lv_iconst (v := 5) hx hb dX12_beginOne_119 (by decide) ?_
            refine k_callVi (As := [.int 5]) (rest := []) ⟨hx, hb, hml, hown, hts⟩ (cM_opened l D h cy _ _ _ hw) (cwV 1 hts gX12_beginOne_X12_opened rfl rfl rfl (by decide +kernel) ⟨Nat.le_of_ble_eq_true rfl, Nat.le_of_ble_eq_true rfl⟩) (va_recv hK hP (ci := 11) (q0 := 0) rfl rfl) hK hP hD hS hA rfl hl.1 rfl (Nat.le_of_ble_eq_true rfl) dX12_beginOne_120 ⟨Nat.zero_le _, Nat.zero_le _⟩ (fun r_45 S_46 H locs hw hP hD hS => ?_)
            exact W.iret (v := r_45) hx hb hr (fun t ht hW => ⟨⟨r_45, S_46, rfl, hw, by rw [ht]; exact hP, va_K.moved hW.alike hK, hD⟩, hS.F ht⟩) hS.2.2 dX12_beginOne_123
        · have hw := hc_12t c_12
          clear hc_12t hc_12f
          refine lv_aload_n hx hb dX12_beginOne_102 rfl (lv_at hl 0 rfl) ?_
          refine lv_bipush (v := 40) hx hb dX12_beginOne_103 (by decide) ?_
          refine k_callVi (As := [.int 40]) (rest := []) ⟨hx, hb, hml, hown, hts⟩ (cM_opened l D h cy _ _ _ hw) (cwV 1 hts gX12_beginOne_X12_opened rfl rfl rfl (by decide +kernel) ⟨Nat.le_of_ble_eq_true rfl, Nat.le_of_ble_eq_true rfl⟩) (va_recv hK hP (ci := 11) (q0 := 0) rfl rfl) hK hP hD hS hA rfl hl.1 rfl (Nat.le_of_ble_eq_true rfl) dX12_beginOne_105 ⟨Nat.zero_le _, Nat.zero_le _⟩ (fun r_47 S_48 H locs hw hP hD hS => ?_)
          exact W.iret (v := r_47) hx hb hr (fun t ht hW => ⟨⟨r_47, S_48, rfl, hw, by rw [ht]; exact hP, va_K.moved hW.alike hK, hD⟩, hS.F ht⟩) hS.2.2 dX12_beginOne_108
      · have hw := hc_11f c_11
        clear hc_11t hc_11f
        exact J_51 x1 S _ _ _ hw hP hD hS (lv_sub hl [0, 1] rfl)
  have J_20 : ∀ (S : MS) (H : Heap) (locs : List Loc) (ls : Array Slot), wM_beginOne_20 post S → va_P D vwCl (wM h cy S) H → va_D A (wM h cy S) → va_S A s.heap H locs → lv_has ls 2 [(0, .ref (h 31))] → W p l e (headSpec wsX12_beginOne { frames := 5, cells := 0, slots := 0, locals := 110 }).room s m (([.ref (h 31)] : List Value).toArray) below meth c H locs 0 0 (MQ below (va_Qi post (k_Post D (tyM cy) (wM h cy) A) A) (([.ref (h 31)] : List Value).toArray) s 0 0 A) (F0 m 20 ls []) := by
    intro S H locs ls hw hP hD hS hl
    unfold wM_beginOne_20 at hw
    refine lv_aload_n hx hb dX12_beginOne_20 rfl (lv_at hl 0 rfl) ?_
    refine k_callVi (As := []) (rest := []) ⟨hx, hb, hml, hown, hts⟩ (cM_nameOf l D h cy _ _ hw) (cwV 0 hts gX12_beginOne_X12_nameOf rfl rfl rfl (by decide +kernel) ⟨Nat.le_of_ble_eq_true rfl, Nat.le_of_ble_eq_true rfl⟩) (va_recv hK hP (ci := 11) (q0 := 0) rfl rfl) hK hP hD hS hA rfl hl.1 rfl (Nat.le_of_ble_eq_true rfl) dX12_beginOne_21 ⟨Nat.zero_le _, Nat.zero_le _⟩ (fun r_49 S_50 H locs hw hP hD hS => ?_)
    refine lv_istore_n (lv' := [(1, .int r_49), (0, .ref (h 31))]) hx hb dX12_beginOne_24 rfl hl (by decide) rfl (fun ls hl => ?_)
    refine lv_iload_n hx hb dX12_beginOne_25 rfl (lv_at hl 0 rfl) ?_
    obtain ⟨hc_51t, hc_51f⟩ := hw
    refine lv_if_lt (tgt := 39) hx hb dX12_beginOne_26 (by decide) (fun c_51 => ?_) (fun c_51 => ?_)
    · have hw := hc_51t c_51
      clear hc_51t hc_51f
      exact J_39 r_49 S_50 _ _ _ hw hP hD hS (lv_sub hl [1, 0] rfl)
    · have hw := hc_51f c_51
      clear hc_51t hc_51f
      refine lv_aload_n hx hb dX12_beginOne_29 rfl (lv_at hl 1 rfl) ?_
      refine lv_iload_n hx hb dX12_beginOne_30 rfl (lv_at hl 0 rfl) ?_
      refine k_callVi (As := [.int r_49]) (rest := []) ⟨hx, hb, hml, hown, hts⟩ (cM_isOf l D h cy _ _ _ hw) (cwV 1 hts gX12_beginOne_X12_isOf rfl rfl rfl (by decide +kernel) ⟨Nat.le_of_ble_eq_true rfl, Nat.le_of_ble_eq_true rfl⟩) (va_recv hK hP (ci := 11) (q0 := 0) rfl rfl) hK hP hD hS hA rfl hl.1 rfl (Nat.le_of_ble_eq_true rfl) dX12_beginOne_31 ⟨Nat.zero_le _, Nat.zero_le _⟩ (fun r_52 S_53 H locs hw hP hD hS => ?_)
      obtain ⟨hc_54t, hc_54f⟩ := hw
      refine lv_if_ne (tgt := 39) hx hb dX12_beginOne_34 (by decide) (fun c_54 => ?_) (fun c_54 => ?_)
      · have hw := hc_54f c_54
        clear hc_54t hc_54f
        exact J_39 r_49 S_53 _ _ _ hw hP hD hS (lv_sub hl [1, 0] rfl)
      · have hw := hc_54t c_54
        clear hc_54t hc_54f
        refine lv_iconst (v := 5) hx hb dX12_beginOne_37 (by decide) ?_
        exact W.iret (v := 5) hx hb hr (fun t ht hW => ⟨⟨5, S_53, rfl, hw, by rw [ht]; exact hP, va_K.moved hW.alike hK, hD⟩, hS.F ht⟩) hS.2.2 dX12_beginOne_38
  refine lv_aload_n hx hb dX12_beginOne_0 rfl (lv_at hl 0 rfl) ?_
  refine va_get (D := D) (ci := 11) (v := .int (ms_token S)) (C := RX12) (T := TX12) (N := 31) hx hb hts hin hown hK hP 0 rfl rfl 9 (by decide) w113 (fun _ h9 => h9) rfl dX12_beginOne_1 ?_
  refine lv_iconst (v := 1) hx hb dX12_beginOne_4 (by decide) ?_
  obtain ⟨hc_55t, hc_55f⟩ := hw
  refine lv_icmp_ne (tgt := 20) hx hb dX12_beginOne_5 (by decide) (fun c_55 => ?_) (fun c_55 => ?_)
  · have hw := hc_55f c_55
    clear hc_55t hc_55f
    exact J_20 S _ _ _ hw hP hD hS (lv_sub hl [0] rfl)
  · have hw := hc_55t c_55
    clear hc_55t hc_55f
    refine lv_aload_n hx hb dX12_beginOne_8 rfl (lv_at hl 0 rfl) ?_
    refine va_get (D := D) (ci := 11) (v := .int (ms_number S)) (C := RX12) (T := TX12) (N := 31) hx hb hts hin hown hK hP 0 rfl rfl 10 (by decide) w119 (fun _ h9 => h9) rfl dX12_beginOne_9 ?_
    refine lv_sipush (v := 9999) hx hb dX12_beginOne_12 (by decide) ?_
    obtain ⟨hc_56t, hc_56f⟩ := hw
    refine lv_icmp_le (tgt := 20) hx hb dX12_beginOne_15 (by decide) (fun c_56 => ?_) (fun c_56 => ?_)
    · have hw := hc_56t c_56
      clear hc_56t hc_56f
      exact J_20 S _ _ _ hw hP hD hS (lv_sub hl [0] rfl)
    · have hw := hc_56f c_56
      clear hc_56t hc_56f
      refine lv_iconst (v := 2) hx hb dX12_beginOne_18 (by decide) ?_
      exact W.iret (v := 2) hx hb hr (fun t ht hW => ⟨⟨2, S, rfl, hw, by rw [ht]; exact hP, va_K.moved hW.alike hK, hD⟩, hS.F ht⟩) hS.2.2 dX12_beginOne_19
def wM_compareOf (S : MS) (post : Int32 → MS → Prop) : Prop := (((ms_token S) = 60 → post 10 S) ∧ (¬ ((ms_token S) = 60) → (((ms_token S) = 4 → post 11 S) ∧ (¬ ((ms_token S) = 4) → (((ms_token S) = 62 → post 12 S) ∧ (¬ ((ms_token S) = 62) → (((ms_token S) = 5 → post 13 S) ∧ (¬ ((ms_token S) = 5) → (((ms_token S) = 61 → post 14 S) ∧ (¬ ((ms_token S) = 61) → (((ms_token S) = 35 → post 15 S) ∧ (¬ ((ms_token S) = 35) → post (-1) S))))))))))))
set_option maxHeartbeats 4000000 in
set_option maxRecDepth 100000 in
theorem cM_compareOf (l : Launch) (D : va_G) (h : Nat → Nat) (cy : Nat → ClassId) (S : MS) (post : Int32 → MS → Prop) (hw : wM_compareOf S post) : k_Mi l yX12_compareOf wsX12_compareOf { frames := 0, cells := 0, slots := 0, locals := 0 } D (tyM cy) (wM h cy) [.ref (h 31)] S post := by
  intro sz
  refine Met.ofW (cc := cX12_compareOf) (maxL := 1) (ret := (some .int)) (by decide) rfl ?_
  intro p e s m args below meth c s₁ B hml hv
  obtain ⟨rfl, hsz, hP, hK, hD0⟩ := hv
  have hx := B.exec
  have hb := B.bytes
  have hr := B.returns
  have hts := atoms_spec (ws := wsX12_compareOf) B.pre
  have hown : s.vm.findClass RX12 = some m.cls := findClass_of_methodNamed B.named
  have hlocks := B.notSynchronized
  subst hsz
  have hD := hD0.self (sz := s.heap.size)
  generalize hAe : va_A (wM h cy S) s.heap.size = A at hD ⊢
  have hA : ∀ q : Nat, s.heap.size ≤ q → A q := fun q h => by rw [← hAe]; exact Or.inr h
  have hS : va_S A s.heap s.heap [] := va_S.rf
  have hin : ∀ w ∈ wsX120, w ∈ wsX12_compareOf := fun _ h => List.mem_cons_of_mem _ (List.mem_append_right _ h)
  have w113 := hts (.fieldLink RX12 113 "ClownsMournModel" "token" "I") (List.mem_of_getElem? (i := 1) rfl)
  have hl := lv_entry ([.ref (h 31)]) (n := 1) (Nat.le_of_ble_eq_true rfl)
  rw [lg_entry_eq]
  generalize (lg_sl ([.ref (h 31)]) ++ List.replicate (1 - (lg_sl ([.ref (h 31)])).length) Slot.unset).toArray = ls at hl ⊢
  have hl : lv_has ls 1 [(0, .ref (h 31))] := hl
  unfold wM_compareOf at hw
  clear hD0
  refine lv_aload_n hx hb dX12_compareOf_0 rfl (lv_at hl 0 rfl) ?_
  refine va_get (D := D) (ci := 11) (v := .int (ms_token S)) (C := RX12) (T := TX12) (N := 31) hx hb hts hin hown hK hP 0 rfl rfl 9 (by decide) w113 (fun _ h9 => h9) rfl dX12_compareOf_1 ?_
  refine lv_bipush (v := 60) hx hb dX12_compareOf_4 (by decide) ?_
  obtain ⟨hc_1t, hc_1f⟩ := hw
  refine lv_icmp_ne (tgt := 14) hx hb dX12_compareOf_6 (by decide) (fun c_1 => ?_) (fun c_1 => ?_)
  · have hw := hc_1f c_1
    clear hc_1t hc_1f
    refine lv_aload_n hx hb dX12_compareOf_14 rfl (lv_at hl 0 rfl) ?_
    refine va_get (D := D) (ci := 11) (v := .int (ms_token S)) (C := RX12) (T := TX12) (N := 31) hx hb hts hin hown hK hP 0 rfl rfl 9 (by decide) w113 (fun _ h9 => h9) rfl dX12_compareOf_15 ?_
    refine lv_iconst (v := 4) hx hb dX12_compareOf_18 (by decide) ?_
    obtain ⟨hc_2t, hc_2f⟩ := hw
    refine lv_icmp_ne (tgt := 27) hx hb dX12_compareOf_19 (by decide) (fun c_2 => ?_) (fun c_2 => ?_)
    · have hw := hc_2f c_2
      clear hc_2t hc_2f
      refine lv_aload_n hx hb dX12_compareOf_27 rfl (lv_at hl 0 rfl) ?_
      refine va_get (D := D) (ci := 11) (v := .int (ms_token S)) (C := RX12) (T := TX12) (N := 31) hx hb hts hin hown hK hP 0 rfl rfl 9 (by decide) w113 (fun _ h9 => h9) rfl dX12_compareOf_28 ?_
      refine lv_bipush (v := 62) hx hb dX12_compareOf_31 (by decide) ?_
      obtain ⟨hc_3t, hc_3f⟩ := hw
      refine lv_icmp_ne (tgt := 41) hx hb dX12_compareOf_33 (by decide) (fun c_3 => ?_) (fun c_3 => ?_)
      · have hw := hc_3f c_3
        clear hc_3t hc_3f
        refine lv_aload_n hx hb dX12_compareOf_41 rfl (lv_at hl 0 rfl) ?_
        refine va_get (D := D) (ci := 11) (v := .int (ms_token S)) (C := RX12) (T := TX12) (N := 31) hx hb hts hin hown hK hP 0 rfl rfl 9 (by decide) w113 (fun _ h9 => h9) rfl dX12_compareOf_42 ?_
        refine lv_iconst (v := 5) hx hb dX12_compareOf_45 (by decide) ?_
        obtain ⟨hc_4t, hc_4f⟩ := hw
        refine lv_icmp_ne (tgt := 54) hx hb dX12_compareOf_46 (by decide) (fun c_4 => ?_) (fun c_4 => ?_)
        · have hw := hc_4f c_4
          clear hc_4t hc_4f
          refine lv_aload_n hx hb dX12_compareOf_54 rfl (lv_at hl 0 rfl) ?_
          refine va_get (D := D) (ci := 11) (v := .int (ms_token S)) (C := RX12) (T := TX12) (N := 31) hx hb hts hin hown hK hP 0 rfl rfl 9 (by decide) w113 (fun _ h9 => h9) rfl dX12_compareOf_55 ?_
          refine lv_bipush (v := 61) hx hb dX12_compareOf_58 (by decide) ?_
          obtain ⟨hc_5t, hc_5f⟩ := hw
          refine lv_icmp_ne (tgt := 68) hx hb dX12_compareOf_60 (by decide) (fun c_5 => ?_) (fun c_5 => ?_)
          · have hw := hc_5f c_5
            clear hc_5t hc_5f
            refine lv_aload_n hx hb dX12_compareOf_68 rfl (lv_at hl 0 rfl) ?_
            refine va_get (D := D) (ci := 11) (v := .int (ms_token S)) (C := RX12) (T := TX12) (N := 31) hx hb hts hin hown hK hP 0 rfl rfl 9 (by decide) w113 (fun _ h9 => h9) rfl dX12_compareOf_69 ?_
            refine lv_bipush (v := 35) hx hb dX12_compareOf_72 (by decide) ?_
            obtain ⟨hc_6t, hc_6f⟩ := hw
            refine lv_icmp_ne (tgt := 82) hx hb dX12_compareOf_74 (by decide) (fun c_6 => ?_) (fun c_6 => ?_)
            · have hw := hc_6f c_6
              clear hc_6t hc_6f
              refine lv_iconst (v := (-1)) hx hb dX12_compareOf_82 (by decide) ?_
              exact W.iret (v := (-1)) hx hb hr (fun t ht hW => ⟨⟨(-1), S, rfl, hw, by rw [ht]; exact hP, va_K.moved hW.alike hK, hD⟩, hS.F ht⟩) hS.2.2 dX12_compareOf_83
            · have hw := hc_6t c_6
              clear hc_6t hc_6f
              refine lv_bipush (v := 15) hx hb dX12_compareOf_77 (by decide) ?_
              refine lv_goto (tgt := 83) hx hb dX12_compareOf_79 (by decide) ?_
              exact W.iret (v := 15) hx hb hr (fun t ht hW => ⟨⟨15, S, rfl, hw, by rw [ht]; exact hP, va_K.moved hW.alike hK, hD⟩, hS.F ht⟩) hS.2.2 dX12_compareOf_83
          · have hw := hc_5t c_5
            clear hc_5t hc_5f
            refine lv_bipush (v := 14) hx hb dX12_compareOf_63 (by decide) ?_
            refine lv_goto (tgt := 83) hx hb dX12_compareOf_65 (by decide) ?_
            exact W.iret (v := 14) hx hb hr (fun t ht hW => ⟨⟨14, S, rfl, hw, by rw [ht]; exact hP, va_K.moved hW.alike hK, hD⟩, hS.F ht⟩) hS.2.2 dX12_compareOf_83
        · have hw := hc_4t c_4
          clear hc_4t hc_4f
          refine lv_bipush (v := 13) hx hb dX12_compareOf_49 (by decide) ?_
          refine lv_goto (tgt := 83) hx hb dX12_compareOf_51 (by decide) ?_
          exact W.iret (v := 13) hx hb hr (fun t ht hW => ⟨⟨13, S, rfl, hw, by rw [ht]; exact hP, va_K.moved hW.alike hK, hD⟩, hS.F ht⟩) hS.2.2 dX12_compareOf_83
      · have hw := hc_3t c_3
        clear hc_3t hc_3f
        refine lv_bipush (v := 12) hx hb dX12_compareOf_36 (by decide) ?_
        refine lv_goto (tgt := 83) hx hb dX12_compareOf_38 (by decide) ?_
        exact W.iret (v := 12) hx hb hr (fun t ht hW => ⟨⟨12, S, rfl, hw, by rw [ht]; exact hP, va_K.moved hW.alike hK, hD⟩, hS.F ht⟩) hS.2.2 dX12_compareOf_83
    · have hw := hc_2t c_2
      clear hc_2t hc_2f
      refine lv_bipush (v := 11) hx hb dX12_compareOf_22 (by decide) ?_
      refine lv_goto (tgt := 83) hx hb dX12_compareOf_24 (by decide) ?_
      exact W.iret (v := 11) hx hb hr (fun t ht hW => ⟨⟨11, S, rfl, hw, by rw [ht]; exact hP, va_K.moved hW.alike hK, hD⟩, hS.F ht⟩) hS.2.2 dX12_compareOf_83
  · have hw := hc_1t c_1
    clear hc_1t hc_1f
    refine lv_bipush (v := 10) hx hb dX12_compareOf_9 (by decide) ?_
    refine lv_goto (tgt := 83) hx hb dX12_compareOf_11 (by decide) ?_
    exact W.iret (v := 10) hx hb hr (fun t ht hW => ⟨⟨10, S, rfl, hw, by rw [ht]; exact hP, va_K.moved hW.alike hK, hD⟩, hS.F ht⟩) hS.2.2 dX12_compareOf_83
def wM_betweenOf (S : MS) (post : Int32 → MS → Prop) : Prop := (((ms_token S) = 43 → post 6 S) ∧ (¬ ((ms_token S) = 43) → (((ms_token S) = 45 → post 7 S) ∧ (¬ ((ms_token S) = 45) → (((ms_token S) = 42 → post 8 S) ∧ (¬ ((ms_token S) = 42) → (((ms_token S) = 47 → post 9 S) ∧ (¬ ((ms_token S) = 47) → wM_openNow S (fun r_5 S_6 => ((r_5 = 43 → wM_isCompared S_6 (fun r_8 S_9 => ((r_8 = 0 → wM_compareOf S_9 (fun r_21 S_22 => post r_21 S_22)) ∧ (¬ (r_8 = 0) → wM_w3 97 110 100 S_9 (fun r_11 S_12 => wM_isWord r_11 S_12 (fun r_13 S_14 => ((r_13 = 0 → wM_w2 111 114 S_14 (fun r_16 S_17 => wM_isWord r_16 S_17 (fun r_18 S_19 => ((r_18 = 0 → post (-1) S_19) ∧ (¬ (r_18 = 0) → post 22 S_19))))) ∧ (¬ (r_13 = 0) → post 21 S_14)))))))) ∧ (¬ (r_5 = 43) → post (-1) S_6)))))))))))
set_option maxHeartbeats 4000000 in
set_option maxRecDepth 100000 in
theorem cM_betweenOf (l : Launch) (D : va_G) (h : Nat → Nat) (cy : Nat → ClassId) (S : MS) (post : Int32 → MS → Prop) (hw : wM_betweenOf S post) : k_Mi l yX12_betweenOf wsX12_betweenOf { frames := 2, cells := 0, slots := 0, locals := 43 } D (tyM cy) (wM h cy) [.ref (h 31)] S post := by
  intro sz
  refine Met.ofW (cc := cX12_betweenOf) (maxL := 1) (ret := (some .int)) (by decide) rfl ?_
  intro p e s m args below meth c s₁ B hml hv
  obtain ⟨rfl, hsz, hP, hK, hD0⟩ := hv
  have hx := B.exec
  have hb := B.bytes
  have hr := B.returns
  have hts := atoms_spec (ws := wsX12_betweenOf) B.pre
  have hown : s.vm.findClass RX12 = some m.cls := findClass_of_methodNamed B.named
  have hlocks := B.notSynchronized
  subst hsz
  have hD := hD0.self (sz := s.heap.size)
  generalize hAe : va_A (wM h cy S) s.heap.size = A at hD ⊢
  have hA : ∀ q : Nat, s.heap.size ≤ q → A q := fun q h => by rw [← hAe]; exact Or.inr h
  have hS : va_S A s.heap s.heap [] := va_S.rf
  have hin : ∀ w ∈ wsX120, w ∈ wsX12_betweenOf := fun _ h => List.mem_cons_of_mem _ (List.mem_append_right _ h)
  have w113 := hts (.fieldLink RX12 113 "ClownsMournModel" "token" "I") (List.mem_of_getElem? (i := 1) rfl)
  have hl := lv_entry ([.ref (h 31)]) (n := 1) (Nat.le_of_ble_eq_true rfl)
  rw [lg_entry_eq]
  generalize (lg_sl ([.ref (h 31)]) ++ List.replicate (1 - (lg_sl ([.ref (h 31)])).length) Slot.unset).toArray = ls at hl ⊢
  have hl : lv_has ls 1 [(0, .ref (h 31))] := hl
  unfold wM_betweenOf at hw
  clear hD0
  refine lv_aload_n hx hb dX12_betweenOf_0 rfl (lv_at hl 0 rfl) ?_
  refine va_get (D := D) (ci := 11) (v := .int (ms_token S)) (C := RX12) (T := TX12) (N := 31) hx hb hts hin hown hK hP 0 rfl rfl 9 (by decide) w113 (fun _ h9 => h9) rfl dX12_betweenOf_1 ?_
  refine lv_bipush (v := 43) hx hb dX12_betweenOf_4 (by decide) ?_
  obtain ⟨hc_1t, hc_1f⟩ := hw
  refine lv_icmp_ne (tgt := 12) hx hb dX12_betweenOf_6 (by decide) (fun c_1 => ?_) (fun c_1 => ?_)
  · have hw := hc_1f c_1
    clear hc_1t hc_1f
    refine lv_aload_n hx hb dX12_betweenOf_12 rfl (lv_at hl 0 rfl) ?_
    refine va_get (D := D) (ci := 11) (v := .int (ms_token S)) (C := RX12) (T := TX12) (N := 31) hx hb hts hin hown hK hP 0 rfl rfl 9 (by decide) w113 (fun _ h9 => h9) rfl dX12_betweenOf_13 ?_
    refine lv_bipush (v := 45) hx hb dX12_betweenOf_16 (by decide) ?_
    obtain ⟨hc_2t, hc_2f⟩ := hw
    refine lv_icmp_ne (tgt := 24) hx hb dX12_betweenOf_18 (by decide) (fun c_2 => ?_) (fun c_2 => ?_)
    · have hw := hc_2f c_2
      clear hc_2t hc_2f
      refine lv_aload_n hx hb dX12_betweenOf_24 rfl (lv_at hl 0 rfl) ?_
      refine va_get (D := D) (ci := 11) (v := .int (ms_token S)) (C := RX12) (T := TX12) (N := 31) hx hb hts hin hown hK hP 0 rfl rfl 9 (by decide) w113 (fun _ h9 => h9) rfl dX12_betweenOf_25 ?_
      refine lv_bipush (v := 42) hx hb dX12_betweenOf_28 (by decide) ?_
      obtain ⟨hc_3t, hc_3f⟩ := hw
      refine lv_icmp_ne (tgt := 36) hx hb dX12_betweenOf_30 (by decide) (fun c_3 => ?_) (fun c_3 => ?_)
      · have hw := hc_3f c_3
        clear hc_3t hc_3f
        refine lv_aload_n hx hb dX12_betweenOf_36 rfl (lv_at hl 0 rfl) ?_
        refine va_get (D := D) (ci := 11) (v := .int (ms_token S)) (C := RX12) (T := TX12) (N := 31) hx hb hts hin hown hK hP 0 rfl rfl 9 (by decide) w113 (fun _ h9 => h9) rfl dX12_betweenOf_37 ?_
        refine lv_bipush (v := 47) hx hb dX12_betweenOf_40 (by decide) ?_
        obtain ⟨hc_4t, hc_4f⟩ := hw
        refine lv_icmp_ne (tgt := 48) hx hb dX12_betweenOf_42 (by decide) (fun c_4 => ?_) (fun c_4 => ?_)
        · have hw := hc_4f c_4
          clear hc_4t hc_4f
          refine lv_aload_n hx hb dX12_betweenOf_48 rfl (lv_at hl 0 rfl) ?_
          refine k_callVi (As := []) (rest := []) ⟨hx, hb, hml, hown, hts⟩ (cM_openNow l D h cy _ _ hw) (cwV 0 hts gX12_betweenOf_X12_openNow rfl rfl rfl (by decide +kernel) ⟨Nat.le_of_ble_eq_true rfl, Nat.le_of_ble_eq_true rfl⟩) (va_recv hK hP (ci := 11) (q0 := 0) rfl rfl) hK hP hD hS hA rfl hl.1 rfl (Nat.le_of_ble_eq_true rfl) dX12_betweenOf_49 ⟨Nat.zero_le _, Nat.zero_le _⟩ (fun r_5 S_6 H locs hw hP hD hS => ?_)
          refine lv_bipush (v := 43) hx hb dX12_betweenOf_52 (by decide) ?_
          obtain ⟨hc_7t, hc_7f⟩ := hw
          refine lv_icmp_eq (tgt := 59) hx hb dX12_betweenOf_54 (by decide) (fun c_7 => ?_) (fun c_7 => ?_)
          · have hw := hc_7t c_7
            clear hc_7t hc_7f
            refine lv_aload_n hx hb dX12_betweenOf_59 rfl (lv_at hl 0 rfl) ?_
            refine k_callVi (As := []) (rest := []) ⟨hx, hb, hml, hown, hts⟩ (cM_isCompared l D h cy _ _ hw) (cwV 0 hts gX12_betweenOf_X12_isCompared rfl rfl rfl (by decide +kernel) ⟨Nat.le_of_ble_eq_true rfl, Nat.le_of_ble_eq_true rfl⟩) (va_recv hK hP (ci := 11) (q0 := 0) rfl rfl) hK hP hD hS hA rfl hl.1 rfl (Nat.le_of_ble_eq_true rfl) dX12_betweenOf_60 ⟨Nat.zero_le _, Nat.zero_le _⟩ (fun r_8 S_9 H locs hw hP hD hS => ?_)
            obtain ⟨hc_10t, hc_10f⟩ := hw
            refine lv_if_ne (tgt := 71) hx hb dX12_betweenOf_63 (by decide) (fun c_10 => ?_) (fun c_10 => ?_)
            · have hw := hc_10f c_10
              clear hc_10t hc_10f
              refine lv_aload_n hx hb dX12_betweenOf_71 rfl (lv_at hl 0 rfl) ?_
              refine lv_bipush (v := 97) hx hb dX12_betweenOf_72 (by decide) ?_
              refine lv_bipush (v := 110) hx hb dX12_betweenOf_74 (by decide) ?_
              refine lv_bipush (v := 100) hx hb dX12_betweenOf_76 (by decide) ?_
              refine k_callSl (As := [.int 97, .int 110, .int 100]) (rest := [.ref (h 31)]) ⟨hx, hb, hml, hown, hts⟩ (cM_w3 l D h cy _ _ _ _ _ hw) (va_cwS 3 hts gX12_betweenOf_X12_w3 rfl rfl rfl (by decide +kernel) ⟨Nat.le_of_ble_eq_true rfl, Nat.le_of_ble_eq_true rfl⟩) hK hP hD hS hA rfl hl.1 rfl (Nat.le_of_ble_eq_true rfl) dX12_betweenOf_78 ⟨Nat.zero_le _, Nat.zero_le _⟩ (fun r_11 S_12 H locs hw hP hD hS => ?_)
              refine k_callVi (As := [.long r_11]) (rest := []) ⟨hx, hb, hml, hown, hts⟩ (cM_isWord l D h cy _ _ _ hw) (cwV 1 hts gX12_betweenOf_X12_isWord rfl rfl rfl (by decide +kernel) ⟨Nat.le_of_ble_eq_true rfl, Nat.le_of_ble_eq_true rfl⟩) (va_recv hK hP (ci := 11) (q0 := 0) rfl rfl) hK hP hD hS hA rfl hl.1 rfl (Nat.le_of_ble_eq_true rfl) dX12_betweenOf_81 ⟨Nat.zero_le _, Nat.zero_le _⟩ (fun r_13 S_14 H locs hw hP hD hS => ?_)
              obtain ⟨hc_15t, hc_15f⟩ := hw
              refine lv_if_eq (tgt := 92) hx hb dX12_betweenOf_84 (by decide) (fun c_15 => ?_) (fun c_15 => ?_)
              · have hw := hc_15t c_15
                clear hc_15t hc_15f
                refine lv_aload_n hx hb dX12_betweenOf_92 rfl (lv_at hl 0 rfl) ?_
                refine lv_bipush (v := 111) hx hb dX12_betweenOf_93 (by decide) ?_
                refine lv_bipush (v := 114) hx hb dX12_betweenOf_95 (by decide) ?_
                refine k_callSl (As := [.int 111, .int 114]) (rest := [.ref (h 31)]) ⟨hx, hb, hml, hown, hts⟩ (cM_w2 l D h cy _ _ _ _ hw) (va_cwS 2 hts gX12_betweenOf_X12_w2 rfl rfl rfl (by decide +kernel) ⟨Nat.le_of_ble_eq_true rfl, Nat.le_of_ble_eq_true rfl⟩) hK hP hD hS hA rfl hl.1 rfl (Nat.le_of_ble_eq_true rfl) dX12_betweenOf_97 ⟨Nat.zero_le _, Nat.zero_le _⟩ (fun r_16 S_17 H locs hw hP hD hS => ?_)
                refine k_callVi (As := [.long r_16]) (rest := []) ⟨hx, hb, hml, hown, hts⟩ (cM_isWord l D h cy _ _ _ hw) (cwV 1 hts gX12_betweenOf_X12_isWord rfl rfl rfl (by decide +kernel) ⟨Nat.le_of_ble_eq_true rfl, Nat.le_of_ble_eq_true rfl⟩) (va_recv hK hP (ci := 11) (q0 := 0) rfl rfl) hK hP hD hS hA rfl hl.1 rfl (Nat.le_of_ble_eq_true rfl) dX12_betweenOf_100 ⟨Nat.zero_le _, Nat.zero_le _⟩ (fun r_18 S_19 H locs hw hP hD hS => ?_)
                obtain ⟨hc_20t, hc_20f⟩ := hw
                refine lv_if_eq (tgt := 111) hx hb dX12_betweenOf_103 (by decide) (fun c_20 => ?_) (fun c_20 => ?_)
                · have hw := hc_20t c_20
                  clear hc_20t hc_20f
                  refine lv_iconst (v := (-1)) hx hb dX12_betweenOf_111 (by decide) ?_
                  exact W.iret (v := (-1)) hx hb hr (fun t ht hW => ⟨⟨(-1), S_19, rfl, hw, by rw [ht]; exact hP, va_K.moved hW.alike hK, hD⟩, hS.F ht⟩) hS.2.2 dX12_betweenOf_112
                · have hw := hc_20f c_20
                  clear hc_20t hc_20f
                  refine lv_bipush (v := 22) hx hb dX12_betweenOf_106 (by decide) ?_
                  refine lv_goto (tgt := 112) hx hb dX12_betweenOf_108 (by decide) ?_
                  exact W.iret (v := 22) hx hb hr (fun t ht hW => ⟨⟨22, S_19, rfl, hw, by rw [ht]; exact hP, va_K.moved hW.alike hK, hD⟩, hS.F ht⟩) hS.2.2 dX12_betweenOf_112
              · have hw := hc_15f c_15
                clear hc_15t hc_15f
                refine lv_bipush (v := 21) hx hb dX12_betweenOf_87 (by decide) ?_
                refine lv_goto (tgt := 112) hx hb dX12_betweenOf_89 (by decide) ?_
                exact W.iret (v := 21) hx hb hr (fun t ht hW => ⟨⟨21, S_14, rfl, hw, by rw [ht]; exact hP, va_K.moved hW.alike hK, hD⟩, hS.F ht⟩) hS.2.2 dX12_betweenOf_112
            · have hw := hc_10t c_10
              clear hc_10t hc_10f
              refine lv_aload_n hx hb dX12_betweenOf_66 rfl (lv_at hl 0 rfl) ?_
              refine k_callVi (As := []) (rest := []) ⟨hx, hb, hml, hown, hts⟩ (cM_compareOf l D h cy _ _ hw) (cwV 0 hts gX12_betweenOf_X12_compareOf rfl rfl rfl (by decide +kernel) ⟨Nat.le_of_ble_eq_true rfl, Nat.le_of_ble_eq_true rfl⟩) (va_recv hK hP (ci := 11) (q0 := 0) rfl rfl) hK hP hD hS hA rfl hl.1 rfl (Nat.le_of_ble_eq_true rfl) dX12_betweenOf_67 ⟨Nat.zero_le _, Nat.zero_le _⟩ (fun r_21 S_22 H locs hw hP hD hS => ?_)
              exact W.iret (v := r_21) hx hb hr (fun t ht hW => ⟨⟨r_21, S_22, rfl, hw, by rw [ht]; exact hP, va_K.moved hW.alike hK, hD⟩, hS.F ht⟩) hS.2.2 dX12_betweenOf_70
          · have hw := hc_7f c_7
            clear hc_7t hc_7f
            refine lv_iconst (v := (-1)) hx hb dX12_betweenOf_57 (by decide) ?_
            exact W.iret (v := (-1)) hx hb hr (fun t ht hW => ⟨⟨(-1), S_6, rfl, hw, by rw [ht]; exact hP, va_K.moved hW.alike hK, hD⟩, hS.F ht⟩) hS.2.2 dX12_betweenOf_58
        · have hw := hc_4t c_4
          clear hc_4t hc_4f
          refine lv_bipush (v := 9) hx hb dX12_betweenOf_45 (by decide) ?_
          exact W.iret (v := 9) hx hb hr (fun t ht hW => ⟨⟨9, S, rfl, hw, by rw [ht]; exact hP, va_K.moved hW.alike hK, hD⟩, hS.F ht⟩) hS.2.2 dX12_betweenOf_47
      · have hw := hc_3t c_3
        clear hc_3t hc_3f
        refine lv_bipush (v := 8) hx hb dX12_betweenOf_33 (by decide) ?_
        exact W.iret (v := 8) hx hb hr (fun t ht hW => ⟨⟨8, S, rfl, hw, by rw [ht]; exact hP, va_K.moved hW.alike hK, hD⟩, hS.F ht⟩) hS.2.2 dX12_betweenOf_35
    · have hw := hc_2t c_2
      clear hc_2t hc_2f
      refine lv_bipush (v := 7) hx hb dX12_betweenOf_21 (by decide) ?_
      exact W.iret (v := 7) hx hb hr (fun t ht hW => ⟨⟨7, S, rfl, hw, by rw [ht]; exact hP, va_K.moved hW.alike hK, hD⟩, hS.F ht⟩) hS.2.2 dX12_betweenOf_23
  · have hw := hc_1t c_1
    clear hc_1t hc_1f
    refine lv_bipush (v := 6) hx hb dX12_betweenOf_9 (by decide) ?_
    exact W.iret (v := 6) hx hb hr (fun t ht hW => ⟨⟨6, S, rfl, hw, by rw [ht]; exact hP, va_K.moved hW.alike hK, hD⟩, hS.F ht⟩) hS.2.2 dX12_betweenOf_11
def wM_partOf (p1 : Int32) (S : MS) (post : Int32 → MS → Prop) : Prop := ((p1 = 40 → (((ms_token S) = 41 → post 0 S) ∧ (¬ ((ms_token S) = 41) → post (-1) S))) ∧ (p1 = 43 → wM_w4 116 104 101 110 S (fun r_3 S_4 => wM_isWord r_3 S_4 (fun r_5 S_6 => ((r_5 = 0 → post (-1) S_6) ∧ (¬ (r_5 = 0) → wM_isCompared S_6 (fun r_8 S_9 => ((r_8 = 0 → post (-1) S_9) ∧ (¬ (r_8 = 0) → post 44 S_9)))))))) ∧ (p1 = 44 → wM_w4 101 108 115 101 S (fun r_12 S_13 => wM_isWord r_12 S_13 (fun r_14 S_15 => ((r_14 = 0 → post (-1) S_15) ∧ (¬ (r_14 = 0) → post 45 S_15))))) ∧ (p1 = 45 → wM_w3 101 110 100 S (fun r_18 S_19 => wM_isWord r_18 S_19 (fun r_20 S_21 => ((r_20 = 0 → post (-1) S_21) ∧ (¬ (r_20 = 0) → post 0 S_21))))) ∧ (¬ p1 = 40 → ¬ p1 = 43 → ¬ p1 = 44 → ¬ p1 = 45 → post (-1) S))
set_option maxHeartbeats 4000000 in
set_option maxRecDepth 100000 in
theorem cM_partOf (l : Launch) (D : va_G) (h : Nat → Nat) (cy : Nat → ClassId) (p1 : Int32) (S : MS) (post : Int32 → MS → Prop) (hw : wM_partOf p1 S post) : k_Mi l yX12_partOf wsX12_partOf { frames := 3, cells := 0, slots := 0, locals := 66 } D (tyM cy) (wM h cy) [.ref (h 31), .int p1] S post := by
  intro sz
  refine Met.ofW (cc := cX12_partOf) (maxL := 2) (ret := (some .int)) (by decide) rfl ?_
  intro p e s m args below meth c s₁ B hml hv
  obtain ⟨rfl, hsz, hP, hK, hD0⟩ := hv
  have hx := B.exec
  have hb := B.bytes
  have hr := B.returns
  have hts := atoms_spec (ws := wsX12_partOf) B.pre
  have hown : s.vm.findClass RX12 = some m.cls := findClass_of_methodNamed B.named
  have hlocks := B.notSynchronized
  subst hsz
  have hD := hD0.self (sz := s.heap.size)
  generalize hAe : va_A (wM h cy S) s.heap.size = A at hD ⊢
  have hA : ∀ q : Nat, s.heap.size ≤ q → A q := fun q h => by rw [← hAe]; exact Or.inr h
  have hS : va_S A s.heap s.heap [] := va_S.rf
  have hin : ∀ w ∈ wsX120, w ∈ wsX12_partOf := fun _ h => List.mem_cons_of_mem _ (List.mem_append_right _ h)
  have w113 := hts (.fieldLink RX12 113 "ClownsMournModel" "token" "I") (List.mem_of_getElem? (i := 1) rfl)
  have hl := lv_entry ([.ref (h 31), .int p1]) (n := 2) (Nat.le_of_ble_eq_true rfl)
  rw [lg_entry_eq]
  generalize (lg_sl ([.ref (h 31), .int p1]) ++ List.replicate (2 - (lg_sl ([.ref (h 31), .int p1])).length) Slot.unset).toArray = ls at hl ⊢
  have hl : lv_has ls 2 [(0, .ref (h 31)), (1, .int p1)] := hl
  unfold wM_partOf at hw
  clear hD0
  refine lv_iload_n hx hb dX12_partOf_0 rfl (lv_at hl 1 rfl) ?_
  obtain ⟨hc_2, hw⟩ := hw
  by_cases c_2 : p1 = 40
  · have hw := hc_2 c_2
    refine lv_tableIn (off := 39) (tgt := 40) hx hb dX12_partOf_1 (by rw [c_2]; decide) (by rw [c_2]; decide) (by rw [c_2]; rfl) (by decide) ?_
    refine lv_aload_n hx hb dX12_partOf_40 rfl (lv_at hl 0 rfl) ?_
    refine va_get (D := D) (ci := 11) (v := .int (ms_token S)) (C := RX12) (T := TX12) (N := 31) hx hb hts hin hown hK hP 0 rfl rfl 9 (by decide) w113 (fun _ h9 => h9) rfl dX12_partOf_41 ?_
    refine lv_bipush (v := 41) hx hb dX12_partOf_44 (by decide) ?_
    obtain ⟨hc_1t, hc_1f⟩ := hw
    refine lv_icmp_ne (tgt := 53) hx hb dX12_partOf_46 (by decide) (fun c_1 => ?_) (fun c_1 => ?_)
    · have hw := hc_1f c_1
      clear hc_1t hc_1f
      refine lv_iconst (v := (-1)) hx hb dX12_partOf_53 (by decide) ?_
      exact W.iret (v := (-1)) hx hb hr (fun t ht hW => ⟨⟨(-1), S, rfl, hw, by rw [ht]; exact hP, va_K.moved hW.alike hK, hD⟩, hS.F ht⟩) hS.2.2 dX12_partOf_54
    · have hw := hc_1t c_1
      clear hc_1t hc_1f
      refine lv_iconst (v := 0) hx hb dX12_partOf_49 (by decide) ?_
      refine lv_goto (tgt := 54) hx hb dX12_partOf_50 (by decide) ?_
      exact W.iret (v := 0) hx hb hr (fun t ht hW => ⟨⟨0, S, rfl, hw, by rw [ht]; exact hP, va_K.moved hW.alike hK, hD⟩, hS.F ht⟩) hS.2.2 dX12_partOf_54
  obtain ⟨hc_11, hw⟩ := hw
  by_cases c_11 : p1 = 43
  · have hw := hc_11 c_11
    refine lv_tableIn (off := 54) (tgt := 55) hx hb dX12_partOf_1 (by rw [c_11]; decide) (by rw [c_11]; decide) (by rw [c_11]; rfl) (by decide) ?_
    refine lv_aload_n hx hb dX12_partOf_55 rfl (lv_at hl 0 rfl) ?_
    refine lv_bipush (v := 116) hx hb dX12_partOf_56 (by decide) ?_
    refine lv_bipush (v := 104) hx hb dX12_partOf_58 (by decide) ?_
    refine lv_bipush (v := 101) hx hb dX12_partOf_60 (by decide) ?_
    refine lv_bipush (v := 110) hx hb dX12_partOf_62 (by decide) ?_
    refine k_callSl (As := [.int 116, .int 104, .int 101, .int 110]) (rest := [.ref (h 31)]) ⟨hx, hb, hml, hown, hts⟩ (cM_w4 l D h cy _ _ _ _ _ _ hw) (va_cwS 4 hts gX12_partOf_X12_w4 rfl rfl rfl (by decide +kernel) ⟨Nat.le_of_ble_eq_true rfl, Nat.le_of_ble_eq_true rfl⟩) hK hP hD hS hA rfl hl.1 rfl (Nat.le_of_ble_eq_true rfl) dX12_partOf_64 ⟨Nat.zero_le _, Nat.zero_le _⟩ (fun r_3 S_4 H locs hw hP hD hS => ?_)
    refine k_callVi (As := [.long r_3]) (rest := []) ⟨hx, hb, hml, hown, hts⟩ (cM_isWord l D h cy _ _ _ hw) (cwV 1 hts gX12_partOf_X12_isWord rfl rfl rfl (by decide +kernel) ⟨Nat.le_of_ble_eq_true rfl, Nat.le_of_ble_eq_true rfl⟩) (va_recv hK hP (ci := 11) (q0 := 0) rfl rfl) hK hP hD hS hA rfl hl.1 rfl (Nat.le_of_ble_eq_true rfl) dX12_partOf_67 ⟨Nat.zero_le _, Nat.zero_le _⟩ (fun r_5 S_6 H locs hw hP hD hS => ?_)
    obtain ⟨hc_7t, hc_7f⟩ := hw
    refine lv_if_eq (tgt := 85) hx hb dX12_partOf_70 (by decide) (fun c_7 => ?_) (fun c_7 => ?_)
    · have hw := hc_7t c_7
      clear hc_7t hc_7f
      refine lv_iconst (v := (-1)) hx hb dX12_partOf_85 (by decide) ?_
      exact W.iret (v := (-1)) hx hb hr (fun t ht hW => ⟨⟨(-1), S_6, rfl, hw, by rw [ht]; exact hP, va_K.moved hW.alike hK, hD⟩, hS.F ht⟩) hS.2.2 dX12_partOf_86
    · have hw := hc_7f c_7
      clear hc_7t hc_7f
      refine lv_aload_n hx hb dX12_partOf_73 rfl (lv_at hl 0 rfl) ?_
      refine k_callVi (As := []) (rest := []) ⟨hx, hb, hml, hown, hts⟩ (cM_isCompared l D h cy _ _ hw) (cwV 0 hts gX12_partOf_X12_isCompared rfl rfl rfl (by decide +kernel) ⟨Nat.le_of_ble_eq_true rfl, Nat.le_of_ble_eq_true rfl⟩) (va_recv hK hP (ci := 11) (q0 := 0) rfl rfl) hK hP hD hS hA rfl hl.1 rfl (Nat.le_of_ble_eq_true rfl) dX12_partOf_74 ⟨Nat.zero_le _, Nat.zero_le _⟩ (fun r_8 S_9 H locs hw hP hD hS => ?_)
      obtain ⟨hc_10t, hc_10f⟩ := hw
      refine lv_if_eq (tgt := 85) hx hb dX12_partOf_77 (by decide) (fun c_10 => ?_) (fun c_10 => ?_)
      · have hw := hc_10t c_10
        clear hc_10t hc_10f
        refine lv_iconst (v := (-1)) hx hb dX12_partOf_85 (by decide) ?_
        exact W.iret (v := (-1)) hx hb hr (fun t ht hW => ⟨⟨(-1), S_9, rfl, hw, by rw [ht]; exact hP, va_K.moved hW.alike hK, hD⟩, hS.F ht⟩) hS.2.2 dX12_partOf_86
      · have hw := hc_10f c_10
        clear hc_10t hc_10f
        refine lv_bipush (v := 44) hx hb dX12_partOf_80 (by decide) ?_
        refine lv_goto (tgt := 86) hx hb dX12_partOf_82 (by decide) ?_
        exact W.iret (v := 44) hx hb hr (fun t ht hW => ⟨⟨44, S_9, rfl, hw, by rw [ht]; exact hP, va_K.moved hW.alike hK, hD⟩, hS.F ht⟩) hS.2.2 dX12_partOf_86
  obtain ⟨hc_17, hw⟩ := hw
  by_cases c_17 : p1 = 44
  · have hw := hc_17 c_17
    refine lv_tableIn (off := 86) (tgt := 87) hx hb dX12_partOf_1 (by rw [c_17]; decide) (by rw [c_17]; decide) (by rw [c_17]; rfl) (by decide) ?_
    refine lv_aload_n hx hb dX12_partOf_87 rfl (lv_at hl 0 rfl) ?_
    refine lv_bipush (v := 101) hx hb dX12_partOf_88 (by decide) ?_
    refine lv_bipush (v := 108) hx hb dX12_partOf_90 (by decide) ?_
    refine lv_bipush (v := 115) hx hb dX12_partOf_92 (by decide) ?_
    refine lv_bipush (v := 101) hx hb dX12_partOf_94 (by decide) ?_
    refine k_callSl (As := [.int 101, .int 108, .int 115, .int 101]) (rest := [.ref (h 31)]) ⟨hx, hb, hml, hown, hts⟩ (cM_w4 l D h cy _ _ _ _ _ _ hw) (va_cwS 4 hts gX12_partOf_X12_w4 rfl rfl rfl (by decide +kernel) ⟨Nat.le_of_ble_eq_true rfl, Nat.le_of_ble_eq_true rfl⟩) hK hP hD hS hA rfl hl.1 rfl (Nat.le_of_ble_eq_true rfl) dX12_partOf_96 ⟨Nat.zero_le _, Nat.zero_le _⟩ (fun r_12 S_13 H locs hw hP hD hS => ?_)
    refine k_callVi (As := [.long r_12]) (rest := []) ⟨hx, hb, hml, hown, hts⟩ (cM_isWord l D h cy _ _ _ hw) (cwV 1 hts gX12_partOf_X12_isWord rfl rfl rfl (by decide +kernel) ⟨Nat.le_of_ble_eq_true rfl, Nat.le_of_ble_eq_true rfl⟩) (va_recv hK hP (ci := 11) (q0 := 0) rfl rfl) hK hP hD hS hA rfl hl.1 rfl (Nat.le_of_ble_eq_true rfl) dX12_partOf_99 ⟨Nat.zero_le _, Nat.zero_le _⟩ (fun r_14 S_15 H locs hw hP hD hS => ?_)
    obtain ⟨hc_16t, hc_16f⟩ := hw
    refine lv_if_eq (tgt := 110) hx hb dX12_partOf_102 (by decide) (fun c_16 => ?_) (fun c_16 => ?_)
    · have hw := hc_16t c_16
      clear hc_16t hc_16f
      refine lv_iconst (v := (-1)) hx hb dX12_partOf_110 (by decide) ?_
      exact W.iret (v := (-1)) hx hb hr (fun t ht hW => ⟨⟨(-1), S_15, rfl, hw, by rw [ht]; exact hP, va_K.moved hW.alike hK, hD⟩, hS.F ht⟩) hS.2.2 dX12_partOf_111
    · have hw := hc_16f c_16
      clear hc_16t hc_16f
      refine lv_bipush (v := 45) hx hb dX12_partOf_105 (by decide) ?_
      refine lv_goto (tgt := 111) hx hb dX12_partOf_107 (by decide) ?_
      exact W.iret (v := 45) hx hb hr (fun t ht hW => ⟨⟨45, S_15, rfl, hw, by rw [ht]; exact hP, va_K.moved hW.alike hK, hD⟩, hS.F ht⟩) hS.2.2 dX12_partOf_111
  obtain ⟨hc_23, hw⟩ := hw
  by_cases c_23 : p1 = 45
  · have hw := hc_23 c_23
    refine lv_tableIn (off := 111) (tgt := 112) hx hb dX12_partOf_1 (by rw [c_23]; decide) (by rw [c_23]; decide) (by rw [c_23]; rfl) (by decide) ?_
    refine lv_aload_n hx hb dX12_partOf_112 rfl (lv_at hl 0 rfl) ?_
    refine lv_bipush (v := 101) hx hb dX12_partOf_113 (by decide) ?_
    refine lv_bipush (v := 110) hx hb dX12_partOf_115 (by decide) ?_
    refine lv_bipush (v := 100) hx hb dX12_partOf_117 (by decide) ?_
    refine k_callSl (As := [.int 101, .int 110, .int 100]) (rest := [.ref (h 31)]) ⟨hx, hb, hml, hown, hts⟩ (cM_w3 l D h cy _ _ _ _ _ hw) (va_cwS 3 hts gX12_partOf_X12_w3 rfl rfl rfl (by decide +kernel) ⟨Nat.le_of_ble_eq_true rfl, Nat.le_of_ble_eq_true rfl⟩) hK hP hD hS hA rfl hl.1 rfl (Nat.le_of_ble_eq_true rfl) dX12_partOf_119 ⟨Nat.zero_le _, Nat.zero_le _⟩ (fun r_18 S_19 H locs hw hP hD hS => ?_)
    refine k_callVi (As := [.long r_18]) (rest := []) ⟨hx, hb, hml, hown, hts⟩ (cM_isWord l D h cy _ _ _ hw) (cwV 1 hts gX12_partOf_X12_isWord rfl rfl rfl (by decide +kernel) ⟨Nat.le_of_ble_eq_true rfl, Nat.le_of_ble_eq_true rfl⟩) (va_recv hK hP (ci := 11) (q0 := 0) rfl rfl) hK hP hD hS hA rfl hl.1 rfl (Nat.le_of_ble_eq_true rfl) dX12_partOf_122 ⟨Nat.zero_le _, Nat.zero_le _⟩ (fun r_20 S_21 H locs hw hP hD hS => ?_)
    obtain ⟨hc_22t, hc_22f⟩ := hw
    refine lv_if_eq (tgt := 132) hx hb dX12_partOf_125 (by decide) (fun c_22 => ?_) (fun c_22 => ?_)
    · have hw := hc_22t c_22
      clear hc_22t hc_22f
      refine lv_iconst (v := (-1)) hx hb dX12_partOf_132 (by decide) ?_
      exact W.iret (v := (-1)) hx hb hr (fun t ht hW => ⟨⟨(-1), S_21, rfl, hw, by rw [ht]; exact hP, va_K.moved hW.alike hK, hD⟩, hS.F ht⟩) hS.2.2 dX12_partOf_133
    · have hw := hc_22f c_22
      clear hc_22t hc_22f
      refine lv_iconst (v := 0) hx hb dX12_partOf_128 (by decide) ?_
      refine lv_goto (tgt := 133) hx hb dX12_partOf_129 (by decide) ?_
      exact W.iret (v := 0) hx hb hr (fun t ht hW => ⟨⟨0, S_21, rfl, hw, by rw [ht]; exact hP, va_K.moved hW.alike hK, hD⟩, hS.F ht⟩) hS.2.2 dX12_partOf_133
  have hw := hw c_2 c_11 c_17 c_23
  by_cases c_24 : p1 = 41
  · refine lv_tableIn (off := 133) (tgt := 134) hx hb dX12_partOf_1 (by rw [c_24]; decide) (by rw [c_24]; decide) (by rw [c_24]; rfl) (by decide) ?_
    refine lv_iconst (v := (-1)) hx hb dX12_partOf_134 (by decide) ?_
    exact W.iret (v := (-1)) hx hb hr (fun t ht hW => ⟨⟨(-1), S, rfl, hw, by rw [ht]; exact hP, va_K.moved hW.alike hK, hD⟩, hS.F ht⟩) hS.2.2 dX12_partOf_135
  by_cases c_25 : p1 = 42
  · refine lv_tableIn (off := 133) (tgt := 134) hx hb dX12_partOf_1 (by rw [c_25]; decide) (by rw [c_25]; decide) (by rw [c_25]; rfl) (by decide) ?_
    refine lv_iconst (v := (-1)) hx hb dX12_partOf_134 (by decide) ?_
    exact W.iret (v := (-1)) hx hb hr (fun t ht hW => ⟨⟨(-1), S, rfl, hw, by rw [ht]; exact hP, va_K.moved hW.alike hK, hD⟩, hS.F ht⟩) hS.2.2 dX12_partOf_135
  have c_2n := lv_neT c_2 (a := 40) (by decide)
  have c_11n := lv_neT c_11 (a := 43) (by decide)
  have c_17n := lv_neT c_17 (a := 44) (by decide)
  have c_23n := lv_neT c_23 (a := 45) (by decide)
  have c_24n := lv_neT c_24 (a := 41) (by decide)
  have c_25n := lv_neT c_25 (a := 42) (by decide)
  refine lv_tableOut (tgt := 134) hx hb dX12_partOf_1 (by omega) (by decide) ?_
  refine lv_iconst (v := (-1)) hx hb dX12_partOf_134 (by decide) ?_
  exact W.iret (v := (-1)) hx hb hr (fun t ht hW => ⟨⟨(-1), S, rfl, hw, by rw [ht]; exact hP, va_K.moved hW.alike hK, hD⟩, hS.F ht⟩) hS.2.2 dX12_partOf_135
def wM_behindOne_26 (post : Int32 → MS → Prop) (x1 : Int32) (t1 : Int32) (S : MS) : Prop := wM_settle t1 S (fun S_2 => (vp_in (ms_piled S_2) 160 ∧ ∀ S_3 : MS, S_3 = (ms_set_pile S_2 (upd (ms_pile S_2) ((ms_piled S_2).toNatClampNeg) x1)) → (∀ S_4 : MS, S_4 = (ms_set_piled S_3 ((ms_piled S_3) + 1)) → (∀ S_5 : MS, S_5 = (ms_set_isWhole S_4 0) → wM_nextToken S_5 (fun S_7 => post 0 S_7)))))
def wM_behindOne (S : MS) (post : Int32 → MS → Prop) : Prop := wM_betweenOf S (fun r_1 S_2 => ((r_1 < 0 → wM_openNow S_2 (fun r_4 S_5 => wM_partOf r_4 S_5 (fun r_6 S_7 => ((0 ≤ r_6 → wM_settle 1 S_7 (fun S_10 => wM_nextToken S_10 (fun S_12 => ((r_6 = 0 → (∀ S_19 : MS, S_19 = (ms_set_opens S_12 ((ms_opens S_12) - 1)) → (∀ S_20 : MS, S_20 = (ms_set_piled S_19 ((ms_piled S_19) - 1)) → ((r_4 = 45 → wM_emit 3 0 S_20 (fun S_25 => wM_endOne S_25 (fun r_26 S_27 => post r_26 S_27))) ∧ (¬ (r_4 = 45) → wM_endOne S_20 (fun r_22 S_23 => post r_22 S_23)))))) ∧ (¬ (r_6 = 0) → wM_openAt S_12 (fun r_14 S_15 => (vp_in r_14 160 ∧ ∀ S_16 : MS, S_16 = (ms_set_pile S_15 (upd (ms_pile S_15) (r_14.toNatClampNeg) r_6)) → (∀ S_17 : MS, S_17 = (ms_set_isWhole S_16 0) → post 0 S_17)))))))) ∧ (¬ (0 ≤ r_6) → post (-1) S_7))))) ∧ (¬ (r_1 < 0) → wM_rank r_1 S_2 (fun r_28 S_29 => ((r_28 = 4 → wM_behindOne_26 post r_1 5 S_29) ∧ (¬ (r_28 = 4) → wM_rank r_1 S_29 (fun r_31 S_32 => wM_behindOne_26 post r_1 r_31 S_32)))))))
set_option maxHeartbeats 4000000 in
set_option maxRecDepth 100000 in
theorem cM_behindOne (l : Launch) (D : va_G) (h : Nat → Nat) (cy : Nat → ClassId) (S : MS) (post : Int32 → MS → Prop) (hw : wM_behindOne S post) : k_Mi l yX12_behindOne wsX12_behindOne { frames := 4, cells := 0, slots := 0, locals := 87 } D (tyM cy) (wM h cy) [.ref (h 31)] S post := by
  intro sz
  refine Met.ofW (cc := cX12_behindOne) (maxL := 4) (ret := (some .int)) (by decide) rfl ?_
  intro p e s m args below meth c s₁ B hml hv
  obtain ⟨rfl, hsz, hP, hK, hD0⟩ := hv
  have hx := B.exec
  have hb := B.bytes
  have hr := B.returns
  have hts := atoms_spec (ws := wsX12_behindOne) B.pre
  have hown : s.vm.findClass RX12 = some m.cls := findClass_of_methodNamed B.named
  have hlocks := B.notSynchronized
  subst hsz
  have hD := hD0.self (sz := s.heap.size)
  generalize hAe : va_A (wM h cy S) s.heap.size = A at hD ⊢
  have hA : ∀ q : Nat, s.heap.size ≤ q → A q := fun q h => by rw [← hAe]; exact Or.inr h
  have hS : va_S A s.heap s.heap [] := va_S.rf
  have hin : ∀ w ∈ wsX120, w ∈ wsX12_behindOne := fun _ h => List.mem_cons_of_mem _ (List.mem_append_right _ h)
  have w29 := hts (.fieldLink RX12 29 "ClownsMournModel" "pile" "[I") (List.mem_of_getElem? (i := 1) rfl)
  have w164 := hts (.fieldLink RX12 164 "ClownsMournModel" "piled" "I") (List.mem_of_getElem? (i := 2) rfl)
  have w174 := hts (.fieldLink RX12 174 "ClownsMournModel" "opens" "I") (List.mem_of_getElem? (i := 4) rfl)
  have w209 := hts (.fieldLink RX12 209 "ClownsMournModel" "isWhole" "Z") (List.mem_of_getElem? (i := 3) rfl)
  have hl := lv_entry ([.ref (h 31)]) (n := 4) (Nat.le_of_ble_eq_true rfl)
  rw [lg_entry_eq]
  generalize (lg_sl ([.ref (h 31)]) ++ List.replicate (4 - (lg_sl ([.ref (h 31)])).length) Slot.unset).toArray = ls at hl ⊢
  have hl : lv_has ls 4 [(0, .ref (h 31))] := hl
  unfold wM_behindOne at hw
  clear hD0
  have J_26 : ∀ (x1 : Int32) (t1 : Int32) (S : MS) (H : Heap) (locs : List Loc) (ls : Array Slot), wM_behindOne_26 post x1 t1 S → va_P D vwCl (wM h cy S) H → va_D A (wM h cy S) → va_S A s.heap H locs → lv_has ls 4 [(0, .ref (h 31)), (1, .int x1)] → W p l e (headSpec wsX12_behindOne { frames := 4, cells := 0, slots := 0, locals := 87 }).room s m (([.ref (h 31)] : List Value).toArray) below meth c H locs 0 0 (MQ below (va_Qi post (k_Post D (tyM cy) (wM h cy) A) A) (([.ref (h 31)] : List Value).toArray) s 0 0 A) (F0 m 26 ls [.int t1, .ref (h 31)]) := by
    intro x1 t1 S H locs ls hw hP hD hS hl
    unfold wM_behindOne_26 at hw
    refine k_callVv (As := [.int t1]) (rest := []) ⟨hx, hb, hml, hown, hts⟩ (cM_settle l D h cy _ _ _ hw) (cwV 1 hts gX12_behindOne_X12_settle rfl rfl rfl (by decide +kernel) ⟨Nat.le_of_ble_eq_true rfl, Nat.le_of_ble_eq_true rfl⟩) (va_recv hK hP (ci := 11) (q0 := 0) rfl rfl) hK hP hD hS hA rfl hl.1 rfl (Nat.le_of_ble_eq_true rfl) dX12_behindOne_26 ⟨Nat.zero_le _, Nat.zero_le _⟩ (fun S_2 H locs hw hP hD hS => ?_)
    refine lv_aload_n hx hb dX12_behindOne_29 rfl (lv_at hl 0 rfl) ?_
    refine va_get (D := D) (ci := 11) (v := .ref (h 15)) (C := RX12) (T := TX12) (N := 31) hx hb hts hin hown hK hP 0 rfl rfl 15 (by decide) w29 (fun _ h9 => h9) rfl dX12_behindOne_30 ?_
    refine lv_aload_n hx hb dX12_behindOne_33 rfl (lv_at hl 0 rfl) ?_
    refine va_get (D := D) (ci := 11) (v := .int (ms_piled S_2)) (C := RX12) (T := TX12) (N := 31) hx hb hts hin hown hK hP 0 rfl rfl 16 (by decide) w164 (fun _ h9 => h9) rfl dX12_behindOne_34 ?_
    refine lv_iload_n hx hb dX12_behindOne_37 rfl (lv_at hl 1 rfl) ?_
    obtain ⟨hi_8, hw⟩ := hw
    refine va_iast (f := (ms_pile S_2)) hx hb hK hP hD hS 5 4 rfl rfl hi_8 dX12_behindOne_38 (fun H locs hP hD hS => ?_)
    obtain ⟨S_3, eS_3⟩ : ∃ z : MS, z = (ms_set_pile S_2 (upd (ms_pile S_2) ((ms_piled S_2).toNatClampNeg) x1)) := ⟨_, rfl⟩
    have hw := hw S_3 eS_3
    have hP : va_P D vwCl (wM h cy S_3) H := by rw [eS_3, ← wMs_pile]; exact hP
    have hD : va_D A (wM h cy S_3) := by rw [eS_3, ← wMs_pile]; exact hD
    refine lv_aload_n hx hb dX12_behindOne_39 rfl (lv_at hl 0 rfl) ?_
    refine lv_dup hx hb dX12_behindOne_40 rfl ?_
    refine va_get (D := D) (ci := 11) (v := .int (ms_piled S_3)) (C := RX12) (T := TX12) (N := 31) hx hb hts hin hown hK hP 0 rfl rfl 16 (by decide) w164 (fun _ h9 => h9) rfl dX12_behindOne_41 ?_
    refine lv_iconst (v := 1) hx hb dX12_behindOne_44 (by decide) ?_
    refine lv_iadd hx hb dX12_behindOne_45 ?_
    refine va_put (D := D) (ci := 11) (v := .int ((ms_piled S_3) + 1)) (ty := .int) (C := RX12) (T := TX12) (N := 31) hx hb hts hin tyX12 tyX12_ok nmX12 hown hK hP hD hS 0 rfl rfl 16 (by decide) w164 (fun _ h9 => h9) rfl (tyX12_ok 16 (by decide)) rfl rfl (Nat.le_of_ble_eq_true rfl) dX12_behindOne_46 (fun H locs hP hD hS => ?_)
    obtain ⟨S_4, eS_4⟩ : ∃ z : MS, z = (ms_set_piled S_3 ((ms_piled S_3) + 1)) := ⟨_, rfl⟩
    have hw := hw S_4 eS_4
    have hP : va_P D vwCl (wM h cy S_4) H := by rw [eS_4, ← wMp_piled]; exact hP
    have hD : va_D A (wM h cy S_4) := by rw [eS_4, ← wMp_piled]; exact hD
    refine lv_aload_n hx hb dX12_behindOne_49 rfl (lv_at hl 0 rfl) ?_
    refine lv_iconst (v := 0) hx hb dX12_behindOne_50 (by decide) ?_
    refine va_put (D := D) (ci := 11) (v := .int 0) (ty := .boolean) (C := RX12) (T := TX12) (N := 31) hx hb hts hin tyX12 tyX12_ok nmX12 hown hK hP hD hS 0 rfl rfl 18 (by decide) w209 (fun _ h9 => h9) rfl (tyX12_ok 18 (by decide)) (by decide +kernel) (by decide +kernel) (Nat.le_of_ble_eq_true rfl) dX12_behindOne_51 (fun H locs hP hD hS => ?_)
    obtain ⟨S_5, eS_5⟩ : ∃ z : MS, z = (ms_set_isWhole S_4 0) := ⟨_, rfl⟩
    have hw := hw S_5 eS_5
    have hP : va_P D vwCl (wM h cy S_5) H := by rw [eS_5, ← wMp_isWhole]; exact hP
    have hD : va_D A (wM h cy S_5) := by rw [eS_5, ← wMp_isWhole]; exact hD
    refine lv_aload_n hx hb dX12_behindOne_54 rfl (lv_at hl 0 rfl) ?_
    refine k_callVv (As := []) (rest := []) ⟨hx, hb, hml, hown, hts⟩ (cM_nextToken l D h cy _ _ hw) (cwV 0 hts gX12_behindOne_X12_nextToken rfl rfl rfl (by decide +kernel) ⟨Nat.le_of_ble_eq_true rfl, Nat.le_of_ble_eq_true rfl⟩) (va_recv hK hP (ci := 11) (q0 := 0) rfl rfl) hK hP hD hS hA rfl hl.1 rfl (Nat.le_of_ble_eq_true rfl) dX12_behindOne_55 ⟨Nat.zero_le _, Nat.zero_le _⟩ (fun S_7 H locs hw hP hD hS => ?_)
    refine lv_iconst (v := 0) hx hb dX12_behindOne_58 (by decide) ?_
    exact W.iret (v := 0) hx hb hr (fun t ht hW => ⟨⟨0, S_7, rfl, hw, by rw [ht]; exact hP, va_K.moved hW.alike hK, hD⟩, hS.F ht⟩) hS.2.2 dX12_behindOne_59
  refine lv_aload_n hx hb dX12_behindOne_0 rfl (lv_at hl 0 rfl) ?_
  refine k_callVi (As := []) (rest := []) ⟨hx, hb, hml, hown, hts⟩ (cM_betweenOf l D h cy _ _ hw) (cwV 0 hts gX12_behindOne_X12_betweenOf rfl rfl rfl (by decide +kernel) ⟨Nat.le_of_ble_eq_true rfl, Nat.le_of_ble_eq_true rfl⟩) (va_recv hK hP (ci := 11) (q0 := 0) rfl rfl) hK hP hD hS hA rfl hl.1 rfl (Nat.le_of_ble_eq_true rfl) dX12_behindOne_1 ⟨Nat.zero_le _, Nat.zero_le _⟩ (fun r_9 S_10 H locs hw hP hD hS => ?_)
  refine lv_istore_n (lv' := [(1, .int r_9), (0, .ref (h 31))]) hx hb dX12_behindOne_4 rfl hl (by decide) rfl (fun ls hl => ?_)
  refine lv_iload_n hx hb dX12_behindOne_5 rfl (lv_at hl 0 rfl) ?_
  obtain ⟨hc_11t, hc_11f⟩ := hw
  refine lv_if_lt (tgt := 60) hx hb dX12_behindOne_6 (by decide) (fun c_11 => ?_) (fun c_11 => ?_)
  · have hw := hc_11t c_11
    clear hc_11t hc_11f
    refine lv_aload_n hx hb dX12_behindOne_60 rfl (lv_at hl 1 rfl) ?_
    refine k_callVi (As := []) (rest := []) ⟨hx, hb, hml, hown, hts⟩ (cM_openNow l D h cy _ _ hw) (cwV 0 hts gX12_behindOne_X12_openNow rfl rfl rfl (by decide +kernel) ⟨Nat.le_of_ble_eq_true rfl, Nat.le_of_ble_eq_true rfl⟩) (va_recv hK hP (ci := 11) (q0 := 0) rfl rfl) hK hP hD hS hA rfl hl.1 rfl (Nat.le_of_ble_eq_true rfl) dX12_behindOne_61 ⟨Nat.zero_le _, Nat.zero_le _⟩ (fun r_12 S_13 H locs hw hP hD hS => ?_)
    refine lv_istore_n (lv' := [(2, .int r_12), (1, .int r_9), (0, .ref (h 31))]) hx hb dX12_behindOne_64 rfl hl (by decide) rfl (fun ls hl => ?_)
    refine lv_aload_n hx hb dX12_behindOne_65 rfl (lv_at hl 2 rfl) ?_
    refine lv_iload_n hx hb dX12_behindOne_66 rfl (lv_at hl 0 rfl) ?_
    refine k_callVi (As := [.int r_12]) (rest := []) ⟨hx, hb, hml, hown, hts⟩ (cM_partOf l D h cy _ _ _ hw) (cwV 1 hts gX12_behindOne_X12_partOf rfl rfl rfl (by decide +kernel) ⟨Nat.le_of_ble_eq_true rfl, Nat.le_of_ble_eq_true rfl⟩) (va_recv hK hP (ci := 11) (q0 := 0) rfl rfl) hK hP hD hS hA rfl hl.1 rfl (Nat.le_of_ble_eq_true rfl) dX12_behindOne_67 ⟨Nat.zero_le _, Nat.zero_le _⟩ (fun r_14 S_15 H locs hw hP hD hS => ?_)
    refine lv_istore_n (lv' := [(3, .int r_14), (2, .int r_12), (1, .int r_9), (0, .ref (h 31))]) hx hb dX12_behindOne_70 rfl hl (by decide) rfl (fun ls hl => ?_)
    refine lv_iload_n hx hb dX12_behindOne_71 rfl (lv_at hl 0 rfl) ?_
    obtain ⟨hc_16t, hc_16f⟩ := hw
    refine lv_if_ge (tgt := 77) hx hb dX12_behindOne_72 (by decide) (fun c_16 => ?_) (fun c_16 => ?_)
    · have hw := hc_16t c_16
      clear hc_16t hc_16f
      refine lv_aload_n hx hb dX12_behindOne_77 rfl (lv_at hl 3 rfl) ?_
      refine lv_iconst (v := 1) hx hb dX12_behindOne_78 (by decide) ?_
      refine k_callVv (As := [.int 1]) (rest := []) ⟨hx, hb, hml, hown, hts⟩ (cM_settle l D h cy _ _ _ hw) (cwV 1 hts gX12_behindOne_X12_settle rfl rfl rfl (by decide +kernel) ⟨Nat.le_of_ble_eq_true rfl, Nat.le_of_ble_eq_true rfl⟩) (va_recv hK hP (ci := 11) (q0 := 0) rfl rfl) hK hP hD hS hA rfl hl.1 rfl (Nat.le_of_ble_eq_true rfl) dX12_behindOne_79 ⟨Nat.zero_le _, Nat.zero_le _⟩ (fun S_18 H locs hw hP hD hS => ?_)
      refine lv_aload_n hx hb dX12_behindOne_82 rfl (lv_at hl 3 rfl) ?_
      refine k_callVv (As := []) (rest := []) ⟨hx, hb, hml, hown, hts⟩ (cM_nextToken l D h cy _ _ hw) (cwV 0 hts gX12_behindOne_X12_nextToken rfl rfl rfl (by decide +kernel) ⟨Nat.le_of_ble_eq_true rfl, Nat.le_of_ble_eq_true rfl⟩) (va_recv hK hP (ci := 11) (q0 := 0) rfl rfl) hK hP hD hS hA rfl hl.1 rfl (Nat.le_of_ble_eq_true rfl) dX12_behindOne_83 ⟨Nat.zero_le _, Nat.zero_le _⟩ (fun S_20 H locs hw hP hD hS => ?_)
      refine lv_iload_n hx hb dX12_behindOne_86 rfl (lv_at hl 0 rfl) ?_
      obtain ⟨hc_21t, hc_21f⟩ := hw
      refine lv_if_ne (tgt := 127) hx hb dX12_behindOne_87 (by decide) (fun c_21 => ?_) (fun c_21 => ?_)
      · have hw := hc_21f c_21
        clear hc_21t hc_21f
        refine lv_aload_n hx hb dX12_behindOne_127 rfl (lv_at hl 3 rfl) ?_
        refine va_get (D := D) (ci := 11) (v := .ref (h 15)) (C := RX12) (T := TX12) (N := 31) hx hb hts hin hown hK hP 0 rfl rfl 15 (by decide) w29 (fun _ h9 => h9) rfl dX12_behindOne_128 ?_
        refine lv_aload_n hx hb dX12_behindOne_131 rfl (lv_at hl 3 rfl) ?_
        refine k_callVi (As := []) (rest := [.ref (h 15)]) ⟨hx, hb, hml, hown, hts⟩ (cM_openAt l D h cy _ _ hw) (cwV 0 hts gX12_behindOne_X12_openAt rfl rfl rfl (by decide +kernel) ⟨Nat.le_of_ble_eq_true rfl, Nat.le_of_ble_eq_true rfl⟩) (va_recv hK hP (ci := 11) (q0 := 0) rfl rfl) hK hP hD hS hA rfl hl.1 rfl (Nat.le_of_ble_eq_true rfl) dX12_behindOne_132 ⟨Nat.zero_le _, Nat.zero_le _⟩ (fun r_22 S_23 H locs hw hP hD hS => ?_)
        refine lv_iload_n hx hb dX12_behindOne_135 rfl (lv_at hl 0 rfl) ?_
        obtain ⟨hi_26, hw⟩ := hw
        refine va_iast (f := (ms_pile S_23)) hx hb hK hP hD hS 5 4 rfl rfl hi_26 dX12_behindOne_136 (fun H locs hP hD hS => ?_)
        obtain ⟨S_24, eS_24⟩ : ∃ z : MS, z = (ms_set_pile S_23 (upd (ms_pile S_23) (r_22.toNatClampNeg) r_14)) := ⟨_, rfl⟩
        have hw := hw S_24 eS_24
        have hP : va_P D vwCl (wM h cy S_24) H := by rw [eS_24, ← wMs_pile]; exact hP
        have hD : va_D A (wM h cy S_24) := by rw [eS_24, ← wMs_pile]; exact hD
        refine lv_aload_n hx hb dX12_behindOne_137 rfl (lv_at hl 3 rfl) ?_
        refine lv_iconst (v := 0) hx hb dX12_behindOne_138 (by decide) ?_
        refine va_put (D := D) (ci := 11) (v := .int 0) (ty := .boolean) (C := RX12) (T := TX12) (N := 31) hx hb hts hin tyX12 tyX12_ok nmX12 hown hK hP hD hS 0 rfl rfl 18 (by decide) w209 (fun _ h9 => h9) rfl (tyX12_ok 18 (by decide)) (by decide +kernel) (by decide +kernel) (Nat.le_of_ble_eq_true rfl) dX12_behindOne_139 (fun H locs hP hD hS => ?_)
        obtain ⟨S_25, eS_25⟩ : ∃ z : MS, z = (ms_set_isWhole S_24 0) := ⟨_, rfl⟩
        have hw := hw S_25 eS_25
        have hP : va_P D vwCl (wM h cy S_25) H := by rw [eS_25, ← wMp_isWhole]; exact hP
        have hD : va_D A (wM h cy S_25) := by rw [eS_25, ← wMp_isWhole]; exact hD
        refine lv_iconst (v := 0) hx hb dX12_behindOne_142 (by decide) ?_
        exact W.iret (v := 0) hx hb hr (fun t ht hW => ⟨⟨0, S_25, rfl, hw, by rw [ht]; exact hP, va_K.moved hW.alike hK, hD⟩, hS.F ht⟩) hS.2.2 dX12_behindOne_143
      · have hw := hc_21t c_21
        clear hc_21t hc_21f
        refine lv_aload_n hx hb dX12_behindOne_90 rfl (lv_at hl 3 rfl) ?_
        refine lv_dup hx hb dX12_behindOne_91 rfl ?_
        refine va_get (D := D) (ci := 11) (v := .int (ms_opens S_20)) (C := RX12) (T := TX12) (N := 31) hx hb hts hin hown hK hP 0 rfl rfl 17 (by decide) w174 (fun _ h9 => h9) rfl dX12_behindOne_92 ?_
        refine lv_iconst (v := 1) hx hb dX12_behindOne_95 (by decide) ?_
        refine lv_isub hx hb dX12_behindOne_96 ?_
        refine va_put (D := D) (ci := 11) (v := .int ((ms_opens S_20) - 1)) (ty := .int) (C := RX12) (T := TX12) (N := 31) hx hb hts hin tyX12 tyX12_ok nmX12 hown hK hP hD hS 0 rfl rfl 17 (by decide) w174 (fun _ h9 => h9) rfl (tyX12_ok 17 (by decide)) rfl rfl (Nat.le_of_ble_eq_true rfl) dX12_behindOne_97 (fun H locs hP hD hS => ?_)
        obtain ⟨S_27, eS_27⟩ : ∃ z : MS, z = (ms_set_opens S_20 ((ms_opens S_20) - 1)) := ⟨_, rfl⟩
        have hw := hw S_27 eS_27
        have hP : va_P D vwCl (wM h cy S_27) H := by rw [eS_27, ← wMp_opens]; exact hP
        have hD : va_D A (wM h cy S_27) := by rw [eS_27, ← wMp_opens]; exact hD
        refine lv_aload_n hx hb dX12_behindOne_100 rfl (lv_at hl 3 rfl) ?_
        refine lv_dup hx hb dX12_behindOne_101 rfl ?_
        refine va_get (D := D) (ci := 11) (v := .int (ms_piled S_27)) (C := RX12) (T := TX12) (N := 31) hx hb hts hin hown hK hP 0 rfl rfl 16 (by decide) w164 (fun _ h9 => h9) rfl dX12_behindOne_102 ?_
        refine lv_iconst (v := 1) hx hb dX12_behindOne_105 (by decide) ?_
        refine lv_isub hx hb dX12_behindOne_106 ?_
        refine va_put (D := D) (ci := 11) (v := .int ((ms_piled S_27) - 1)) (ty := .int) (C := RX12) (T := TX12) (N := 31) hx hb hts hin tyX12 tyX12_ok nmX12 hown hK hP hD hS 0 rfl rfl 16 (by decide) w164 (fun _ h9 => h9) rfl (tyX12_ok 16 (by decide)) rfl rfl (Nat.le_of_ble_eq_true rfl) dX12_behindOne_107 (fun H locs hP hD hS => ?_)
        obtain ⟨S_28, eS_28⟩ : ∃ z : MS, z = (ms_set_piled S_27 ((ms_piled S_27) - 1)) := ⟨_, rfl⟩
        have hw := hw S_28 eS_28
        have hP : va_P D vwCl (wM h cy S_28) H := by rw [eS_28, ← wMp_piled]; exact hP
        have hD : va_D A (wM h cy S_28) := by rw [eS_28, ← wMp_piled]; exact hD
        refine lv_iload_n hx hb dX12_behindOne_110 rfl (lv_at hl 1 rfl) ?_
        refine lv_bipush (v := 45) hx hb dX12_behindOne_111 (by decide) ?_
        obtain ⟨hc_29t, hc_29f⟩ := hw
        refine lv_icmp_ne (tgt := 122) hx hb dX12_behindOne_113 (by decide) (fun c_29 => ?_) (fun c_29 => ?_)
        · have hw := hc_29f c_29
          clear hc_29t hc_29f
          refine lv_aload_n hx hb dX12_behindOne_122 rfl (lv_at hl 3 rfl) ?_
          refine k_callVi (As := []) (rest := []) ⟨hx, hb, hml, hown, hts⟩ (cM_endOne l D h cy _ _ hw) (cwV 0 hts gX12_behindOne_X12_endOne rfl rfl rfl (by decide +kernel) ⟨Nat.le_of_ble_eq_true rfl, Nat.le_of_ble_eq_true rfl⟩) (va_recv hK hP (ci := 11) (q0 := 0) rfl rfl) hK hP hD hS hA rfl hl.1 rfl (Nat.le_of_ble_eq_true rfl) dX12_behindOne_123 ⟨Nat.zero_le _, Nat.zero_le _⟩ (fun r_30 S_31 H locs hw hP hD hS => ?_)
          exact W.iret (v := r_30) hx hb hr (fun t ht hW => ⟨⟨r_30, S_31, rfl, hw, by rw [ht]; exact hP, va_K.moved hW.alike hK, hD⟩, hS.F ht⟩) hS.2.2 dX12_behindOne_126
        · have hw := hc_29t c_29
          clear hc_29t hc_29f
          refine lv_aload_n hx hb dX12_behindOne_116 rfl (lv_at hl 3 rfl) ?_
          refine lv_iconst (v := 3) hx hb dX12_behindOne_117 (by decide) ?_
          refine lv_iconst (v := 0) hx hb dX12_behindOne_118 (by decide) ?_
          refine k_callVv (As := [.int 3, .int 0]) (rest := []) ⟨hx, hb, hml, hown, hts⟩ (cM_emit l D h cy _ _ _ _ hw) (cwV 2 hts gX12_behindOne_X12_emit rfl rfl rfl (by decide +kernel) ⟨Nat.le_of_ble_eq_true rfl, Nat.le_of_ble_eq_true rfl⟩) (va_recv hK hP (ci := 11) (q0 := 0) rfl rfl) hK hP hD hS hA rfl hl.1 rfl (Nat.le_of_ble_eq_true rfl) dX12_behindOne_119 ⟨Nat.zero_le _, Nat.zero_le _⟩ (fun S_33 H locs hw hP hD hS => ?_)
          refine lv_aload_n hx hb dX12_behindOne_122 rfl (lv_at hl 3 rfl) ?_
          refine k_callVi (As := []) (rest := []) ⟨hx, hb, hml, hown, hts⟩ (cM_endOne l D h cy _ _ hw) (cwV 0 hts gX12_behindOne_X12_endOne rfl rfl rfl (by decide +kernel) ⟨Nat.le_of_ble_eq_true rfl, Nat.le_of_ble_eq_true rfl⟩) (va_recv hK hP (ci := 11) (q0 := 0) rfl rfl) hK hP hD hS hA rfl hl.1 rfl (Nat.le_of_ble_eq_true rfl) dX12_behindOne_123 ⟨Nat.zero_le _, Nat.zero_le _⟩ (fun r_34 S_35 H locs hw hP hD hS => ?_)
          exact W.iret (v := r_34) hx hb hr (fun t ht hW => ⟨⟨r_34, S_35, rfl, hw, by rw [ht]; exact hP, va_K.moved hW.alike hK, hD⟩, hS.F ht⟩) hS.2.2 dX12_behindOne_126
    · have hw := hc_16f c_16
      clear hc_16t hc_16f
      refine lv_iconst (v := (-1)) hx hb dX12_behindOne_75 (by decide) ?_
      exact W.iret (v := (-1)) hx hb hr (fun t ht hW => ⟨⟨(-1), S_15, rfl, hw, by rw [ht]; exact hP, va_K.moved hW.alike hK, hD⟩, hS.F ht⟩) hS.2.2 dX12_behindOne_76
  · have hw := hc_11f c_11
    clear hc_11t hc_11f
    refine lv_aload_n hx hb dX12_behindOne_9 rfl (lv_at hl 1 rfl) ?_
    refine lv_iload_n hx hb dX12_behindOne_10 rfl (lv_at hl 0 rfl) ?_
    refine k_callSi (As := [.int r_9]) (rest := [.ref (h 31)]) ⟨hx, hb, hml, hown, hts⟩ (cM_rank l D h cy _ _ _ hw) (va_cwS 1 hts gX12_behindOne_X12_rank rfl rfl rfl (by decide +kernel) ⟨Nat.le_of_ble_eq_true rfl, Nat.le_of_ble_eq_true rfl⟩) hK hP hD hS hA rfl hl.1 rfl (Nat.le_of_ble_eq_true rfl) dX12_behindOne_11 ⟨Nat.zero_le _, Nat.zero_le _⟩ (fun r_36 S_37 H locs hw hP hD hS => ?_)
    refine lv_iconst (v := 4) hx hb dX12_behindOne_14 (by decide) ?_
    obtain ⟨hc_38t, hc_38f⟩ := hw
    refine lv_icmp_ne (tgt := 22) hx hb dX12_behindOne_15 (by decide) (fun c_38 => ?_) (fun c_38 => ?_)
    · have hw := hc_38f c_38
      clear hc_38t hc_38f
      refine lv_iload_n hx hb dX12_behindOne_22 rfl (lv_at hl 0 rfl) ?_
      refine k_callSi (As := [.int r_9]) (rest := [.ref (h 31)]) ⟨hx, hb, hml, hown, hts⟩ (cM_rank l D h cy _ _ _ hw) (va_cwS 1 hts gX12_behindOne_X12_rank rfl rfl rfl (by decide +kernel) ⟨Nat.le_of_ble_eq_true rfl, Nat.le_of_ble_eq_true rfl⟩) hK hP hD hS hA rfl hl.1 rfl (Nat.le_of_ble_eq_true rfl) dX12_behindOne_23 ⟨Nat.zero_le _, Nat.zero_le _⟩ (fun r_39 S_40 H locs hw hP hD hS => ?_)
      exact J_26 r_9 r_39 S_40 _ _ _ hw hP hD hS (lv_sub hl [1, 0] rfl)
    · have hw := hc_38t c_38
      clear hc_38t hc_38f
      refine lv_iconst (v := 5) hx hb dX12_behindOne_18 (by decide) ?_
      refine lv_goto (tgt := 26) hx hb dX12_behindOne_19 (by decide) ?_
      exact J_26 r_9 5 S_37 _ _ _ hw hP hD hS (lv_sub hl [1, 0] rfl)
def wM_summed_33 (post : Int32 → MS → Prop) (K15 : MS → Prop) (t0 : Int32) (S : MS) : Prop := ((t0 ≤ 0 → ((t0 = 0 → K15 S) ∧ (¬ (t0 = 0) → wM_openNow S (fun r_3 S_4 => ((r_3 < 0 → wM_settle 1 S_4 (fun S_7 => post 0 S_7)) ∧ (¬ (r_3 < 0) → post 1 S_4)))))) ∧ (¬ (t0 ≤ 0) → post t0 S))
def wM_summed_15 (post : Int32 → MS → Prop) : Nat → MS → Prop
  | 0, _ => False
  | n + 1, S => (((ms_isWhole S) = 0 → wM_beginOne S (fun r_2 S_3 => wM_summed_33 post (wM_summed_15 post n) r_2 S_3)) ∧ (¬ ((ms_isWhole S) = 0) → wM_behindOne S (fun r_4 S_5 => wM_summed_33 post (wM_summed_15 post n) r_4 S_5)))
def wM_summed (S : MS) (post : Int32 → MS → Prop) : Prop := (∀ S_1 : MS, S_1 = (ms_set_piled S 0) → (∀ S_2 : MS, S_2 = (ms_set_opens S_1 0) → (∀ S_3 : MS, S_3 = (ms_set_isWhole S_2 0) → ∃ k_ : Nat, wM_summed_15 post k_ S_3)))
set_option maxHeartbeats 4000000 in
set_option maxRecDepth 100000 in
theorem cM_summed (l : Launch) (D : va_G) (h : Nat → Nat) (cy : Nat → ClassId) (S : MS) (post : Int32 → MS → Prop) (hw : wM_summed S post) : k_Mi l yX12_summed wsX12_summed { frames := 6, cells := 0, slots := 0, locals := 131 } D (tyM cy) (wM h cy) [.ref (h 31)] S post := by
  intro sz
  refine Met.ofW (cc := cX12_summed) (maxL := 2) (ret := (some .int)) (by decide) rfl ?_
  intro p e s m args below meth c s₁ B hml hv
  obtain ⟨rfl, hsz, hP, hK, hD0⟩ := hv
  have hx := B.exec
  have hb := B.bytes
  have hr := B.returns
  have hts := atoms_spec (ws := wsX12_summed) B.pre
  have hown : s.vm.findClass RX12 = some m.cls := findClass_of_methodNamed B.named
  have hlocks := B.notSynchronized
  subst hsz
  have hD := hD0.self (sz := s.heap.size)
  generalize hAe : va_A (wM h cy S) s.heap.size = A at hD ⊢
  have hA : ∀ q : Nat, s.heap.size ≤ q → A q := fun q h => by rw [← hAe]; exact Or.inr h
  have hS : va_S A s.heap s.heap [] := va_S.rf
  have hin : ∀ w ∈ wsX120, w ∈ wsX12_summed := fun _ h => List.mem_cons_of_mem _ (List.mem_append_right _ h)
  have w164 := hts (.fieldLink RX12 164 "ClownsMournModel" "piled" "I") (List.mem_of_getElem? (i := 1) rfl)
  have w174 := hts (.fieldLink RX12 174 "ClownsMournModel" "opens" "I") (List.mem_of_getElem? (i := 2) rfl)
  have w209 := hts (.fieldLink RX12 209 "ClownsMournModel" "isWhole" "Z") (List.mem_of_getElem? (i := 3) rfl)
  have hl := lv_entry ([.ref (h 31)]) (n := 2) (Nat.le_of_ble_eq_true rfl)
  rw [lg_entry_eq]
  generalize (lg_sl ([.ref (h 31)]) ++ List.replicate (2 - (lg_sl ([.ref (h 31)])).length) Slot.unset).toArray = ls at hl ⊢
  have hl : lv_has ls 2 [(0, .ref (h 31))] := hl
  unfold wM_summed at hw
  clear hD0
  have L_15 : ∀ (n15 : Nat) (S : MS) (H : Heap) (locs : List Loc) (ls : Array Slot), wM_summed_15 post n15 S → va_P D vwCl (wM h cy S) H → va_D A (wM h cy S) → va_S A s.heap H locs → lv_has ls 2 [(0, .ref (h 31))] → W p l e (headSpec wsX12_summed { frames := 6, cells := 0, slots := 0, locals := 131 }).room s m (([.ref (h 31)] : List Value).toArray) below meth c H locs 0 0 (MQ below (va_Qi post (k_Post D (tyM cy) (wM h cy) A) A) (([.ref (h 31)] : List Value).toArray) s 0 0 A) (F0 m 15 ls []) := by
    intro n15
    induction n15 with
    | zero => intro S H locs ls hw; exact False.elim hw
    | succ n15 ih_15 =>
      have J_33 : ∀ (t0 : Int32) (S : MS) (H : Heap) (locs : List Loc) (ls : Array Slot), wM_summed_33 post (wM_summed_15 post n15) t0 S → va_P D vwCl (wM h cy S) H → va_D A (wM h cy S) → va_S A s.heap H locs → lv_has ls 2 [(0, .ref (h 31))] → W p l e (headSpec wsX12_summed { frames := 6, cells := 0, slots := 0, locals := 131 }).room s m (([.ref (h 31)] : List Value).toArray) below meth c H locs 0 0 (MQ below (va_Qi post (k_Post D (tyM cy) (wM h cy) A) A) (([.ref (h 31)] : List Value).toArray) s 0 0 A) (F0 m 33 ls [.int t0]) := by
        intro t0 S H locs ls hw hP hD hS hl
        unfold wM_summed_33 at hw
        refine lv_istore_n (lv' := [(1, .int t0), (0, .ref (h 31))]) hx hb dX12_summed_33 rfl hl (by decide) rfl (fun ls hl => ?_)
        refine lv_iload_n hx hb dX12_summed_34 rfl (lv_at hl 0 rfl) ?_
        obtain ⟨hc_1t, hc_1f⟩ := hw
        refine lv_if_le (tgt := 40) hx hb dX12_summed_35 (by decide) (fun c_1 => ?_) (fun c_1 => ?_)
        · have hw := hc_1t c_1
          clear hc_1t hc_1f
          refine lv_iload_n hx hb dX12_summed_40 rfl (lv_at hl 0 rfl) ?_
          obtain ⟨hc_2t, hc_2f⟩ := hw
          refine lv_if_ne (tgt := 47) hx hb dX12_summed_41 (by decide) (fun c_2 => ?_) (fun c_2 => ?_)
          · have hw := hc_2f c_2
            clear hc_2t hc_2f
            refine lv_aload_n hx hb dX12_summed_47 rfl (lv_at hl 1 rfl) ?_
            refine k_callVi (As := []) (rest := []) ⟨hx, hb, hml, hown, hts⟩ (cM_openNow l D h cy _ _ hw) (cwV 0 hts gX12_summed_X12_openNow rfl rfl rfl (by decide +kernel) ⟨Nat.le_of_ble_eq_true rfl, Nat.le_of_ble_eq_true rfl⟩) (va_recv hK hP (ci := 11) (q0 := 0) rfl rfl) hK hP hD hS hA rfl hl.1 rfl (Nat.le_of_ble_eq_true rfl) dX12_summed_48 ⟨Nat.zero_le _, Nat.zero_le _⟩ (fun r_3 S_4 H locs hw hP hD hS => ?_)
            obtain ⟨hc_5t, hc_5f⟩ := hw
            refine lv_if_lt (tgt := 56) hx hb dX12_summed_51 (by decide) (fun c_5 => ?_) (fun c_5 => ?_)
            · have hw := hc_5t c_5
              clear hc_5t hc_5f
              refine lv_aload_n hx hb dX12_summed_56 rfl (lv_at hl 1 rfl) ?_
              refine lv_iconst (v := 1) hx hb dX12_summed_57 (by decide) ?_
              refine k_callVv (As := [.int 1]) (rest := []) ⟨hx, hb, hml, hown, hts⟩ (cM_settle l D h cy _ _ _ hw) (cwV 1 hts gX12_summed_X12_settle rfl rfl rfl (by decide +kernel) ⟨Nat.le_of_ble_eq_true rfl, Nat.le_of_ble_eq_true rfl⟩) (va_recv hK hP (ci := 11) (q0 := 0) rfl rfl) hK hP hD hS hA rfl hl.1 rfl (Nat.le_of_ble_eq_true rfl) dX12_summed_58 ⟨Nat.zero_le _, Nat.zero_le _⟩ (fun S_7 H locs hw hP hD hS => ?_)
              refine lv_iconst (v := 0) hx hb dX12_summed_61 (by decide) ?_
              exact W.iret (v := 0) hx hb hr (fun t ht hW => ⟨⟨0, S_7, rfl, hw, by rw [ht]; exact hP, va_K.moved hW.alike hK, hD⟩, hS.F ht⟩) hS.2.2 dX12_summed_62
            · have hw := hc_5f c_5
              clear hc_5t hc_5f
              refine lv_iconst (v := 1) hx hb dX12_summed_54 (by decide) ?_
              exact W.iret (v := 1) hx hb hr (fun t ht hW => ⟨⟨1, S_4, rfl, hw, by rw [ht]; exact hP, va_K.moved hW.alike hK, hD⟩, hS.F ht⟩) hS.2.2 dX12_summed_55
          · have hw := hc_2t c_2
            clear hc_2t hc_2f
            refine lv_goto (tgt := 15) hx hb dX12_summed_44 (by decide) ?_
            exact ih_15 S _ _ _ hw hP hD hS (lv_sub hl [1] rfl)
        · have hw := hc_1f c_1
          clear hc_1t hc_1f
          refine lv_iload_n hx hb dX12_summed_38 rfl (lv_at hl 0 rfl) ?_
          exact W.iret (v := t0) hx hb hr (fun t ht hW => ⟨⟨t0, S, rfl, hw, by rw [ht]; exact hP, va_K.moved hW.alike hK, hD⟩, hS.F ht⟩) hS.2.2 dX12_summed_39
      intro S H locs ls hw hP hD hS hl
      unfold wM_summed_15 at hw
      refine lv_aload_n hx hb dX12_summed_15 rfl (lv_at hl 0 rfl) ?_
      refine va_get (D := D) (ci := 11) (v := .int (ms_isWhole S)) (C := RX12) (T := TX12) (N := 31) hx hb hts hin hown hK hP 0 rfl rfl 18 (by decide) w209 (fun _ h9 => h9) rfl dX12_summed_16 ?_
      obtain ⟨hc_8t, hc_8f⟩ := hw
      refine lv_if_eq (tgt := 29) hx hb dX12_summed_19 (by decide) (fun c_8 => ?_) (fun c_8 => ?_)
      · have hw := hc_8t c_8
        clear hc_8t hc_8f
        refine lv_aload_n hx hb dX12_summed_29 rfl (lv_at hl 0 rfl) ?_
        refine k_callVi (As := []) (rest := []) ⟨hx, hb, hml, hown, hts⟩ (cM_beginOne l D h cy _ _ hw) (cwV 0 hts gX12_summed_X12_beginOne rfl rfl rfl (by decide +kernel) ⟨Nat.le_of_ble_eq_true rfl, Nat.le_of_ble_eq_true rfl⟩) (va_recv hK hP (ci := 11) (q0 := 0) rfl rfl) hK hP hD hS hA rfl hl.1 rfl (Nat.le_of_ble_eq_true rfl) dX12_summed_30 ⟨Nat.zero_le _, Nat.zero_le _⟩ (fun r_9 S_10 H locs hw hP hD hS => ?_)
        exact J_33 r_9 S_10 _ _ _ hw hP hD hS (lv_sub hl [0] rfl)
      · have hw := hc_8f c_8
        clear hc_8t hc_8f
        refine lv_aload_n hx hb dX12_summed_22 rfl (lv_at hl 0 rfl) ?_
        refine k_callVi (As := []) (rest := []) ⟨hx, hb, hml, hown, hts⟩ (cM_behindOne l D h cy _ _ hw) (cwV 0 hts gX12_summed_X12_behindOne rfl rfl rfl (by decide +kernel) ⟨Nat.le_of_ble_eq_true rfl, Nat.le_of_ble_eq_true rfl⟩) (va_recv hK hP (ci := 11) (q0 := 0) rfl rfl) hK hP hD hS hA rfl hl.1 rfl (Nat.le_of_ble_eq_true rfl) dX12_summed_23 ⟨Nat.zero_le _, Nat.zero_le _⟩ (fun r_11 S_12 H locs hw hP hD hS => ?_)
        refine lv_goto (tgt := 33) hx hb dX12_summed_26 (by decide) ?_
        exact J_33 r_11 S_12 _ _ _ hw hP hD hS (lv_sub hl [0] rfl)
  refine lv_aload_n hx hb dX12_summed_0 rfl (lv_at hl 0 rfl) ?_
  refine lv_iconst (v := 0) hx hb dX12_summed_1 (by decide) ?_
  refine va_put (D := D) (ci := 11) (v := .int 0) (ty := .int) (C := RX12) (T := TX12) (N := 31) hx hb hts hin tyX12 tyX12_ok nmX12 hown hK hP hD hS 0 rfl rfl 16 (by decide) w164 (fun _ h9 => h9) rfl (tyX12_ok 16 (by decide)) rfl rfl (Nat.le_of_ble_eq_true rfl) dX12_summed_2 (fun H locs hP hD hS => ?_)
  obtain ⟨S_13, eS_13⟩ : ∃ z : MS, z = (ms_set_piled S 0) := ⟨_, rfl⟩
  have hw := hw S_13 eS_13
  have hP : va_P D vwCl (wM h cy S_13) H := by rw [eS_13, ← wMp_piled]; exact hP
  have hD : va_D A (wM h cy S_13) := by rw [eS_13, ← wMp_piled]; exact hD
  refine lv_aload_n hx hb dX12_summed_5 rfl (lv_at hl 0 rfl) ?_
  refine lv_iconst (v := 0) hx hb dX12_summed_6 (by decide) ?_
  refine va_put (D := D) (ci := 11) (v := .int 0) (ty := .int) (C := RX12) (T := TX12) (N := 31) hx hb hts hin tyX12 tyX12_ok nmX12 hown hK hP hD hS 0 rfl rfl 17 (by decide) w174 (fun _ h9 => h9) rfl (tyX12_ok 17 (by decide)) rfl rfl (Nat.le_of_ble_eq_true rfl) dX12_summed_7 (fun H locs hP hD hS => ?_)
  obtain ⟨S_14, eS_14⟩ : ∃ z : MS, z = (ms_set_opens S_13 0) := ⟨_, rfl⟩
  have hw := hw S_14 eS_14
  have hP : va_P D vwCl (wM h cy S_14) H := by rw [eS_14, ← wMp_opens]; exact hP
  have hD : va_D A (wM h cy S_14) := by rw [eS_14, ← wMp_opens]; exact hD
  refine lv_aload_n hx hb dX12_summed_10 rfl (lv_at hl 0 rfl) ?_
  refine lv_iconst (v := 0) hx hb dX12_summed_11 (by decide) ?_
  refine va_put (D := D) (ci := 11) (v := .int 0) (ty := .boolean) (C := RX12) (T := TX12) (N := 31) hx hb hts hin tyX12 tyX12_ok nmX12 hown hK hP hD hS 0 rfl rfl 18 (by decide) w209 (fun _ h9 => h9) rfl (tyX12_ok 18 (by decide)) (by decide +kernel) (by decide +kernel) (Nat.le_of_ble_eq_true rfl) dX12_summed_12 (fun H locs hP hD hS => ?_)
  obtain ⟨S_15, eS_15⟩ : ∃ z : MS, z = (ms_set_isWhole S_14 0) := ⟨_, rfl⟩
  have hw := hw S_15 eS_15
  have hP : va_P D vwCl (wM h cy S_15) H := by rw [eS_15, ← wMp_isWhole]; exact hP
  have hD : va_D A (wM h cy S_15) := by rw [eS_15, ← wMp_isWhole]; exact hD
  obtain ⟨n_15, hw⟩ := hw
  exact L_15 n_15 S_15 _ _ _ hw hP hD hS (lv_sub hl [0] rfl)
def wM_figure (p1 : Int32) (p2 : Int32) (p3 : Int32) (S : MS) (post : Int32 → MS → Prop) : Prop := (((ms_token S) = 1 → wM_isIn (ms_number S) p2 p3 S (fun r_2 S_3 => ((r_2 = 0 → post 2 S_3) ∧ (¬ (r_2 = 0) → (vp_in p1 2820 ∧ ∀ S_5 : MS, S_5 = (ms_set_texts S_3 (upd (ms_texts S_3) (p1.toNatClampNeg) (ms_number S_3))) → wM_nextToken S_5 (fun S_7 => post 0 S_7)))))) ∧ (¬ ((ms_token S) = 1) → post 1 S))
set_option maxHeartbeats 4000000 in
set_option maxRecDepth 100000 in
theorem cM_figure (l : Launch) (D : va_G) (h : Nat → Nat) (cy : Nat → ClassId) (p1 : Int32) (p2 : Int32) (p3 : Int32) (S : MS) (post : Int32 → MS → Prop) (hw : wM_figure p1 p2 p3 S post) : k_Mi l yX12_figure wsX12_figure { frames := 2, cells := 0, slots := 0, locals := 42 } D (tyM cy) (wM h cy) [.ref (h 31), .int p1, .int p2, .int p3] S post := by
  intro sz
  refine Met.ofW (cc := cX12_figure) (maxL := 4) (ret := (some .int)) (by decide) rfl ?_
  intro p e s m args below meth c s₁ B hml hv
  obtain ⟨rfl, hsz, hP, hK, hD0⟩ := hv
  have hx := B.exec
  have hb := B.bytes
  have hr := B.returns
  have hts := atoms_spec (ws := wsX12_figure) B.pre
  have hown : s.vm.findClass RX12 = some m.cls := findClass_of_methodNamed B.named
  have hlocks := B.notSynchronized
  subst hsz
  have hD := hD0.self (sz := s.heap.size)
  generalize hAe : va_A (wM h cy S) s.heap.size = A at hD ⊢
  have hA : ∀ q : Nat, s.heap.size ≤ q → A q := fun q h => by rw [← hAe]; exact Or.inr h
  have hS : va_S A s.heap s.heap [] := va_S.rf
  have hin : ∀ w ∈ wsX120, w ∈ wsX12_figure := fun _ h => List.mem_cons_of_mem _ (List.mem_append_right _ h)
  have w16 := hts (.fieldLink RX12 16 "ClownsMournModel" "texts" "[I") (List.mem_of_getElem? (i := 3) rfl)
  have w113 := hts (.fieldLink RX12 113 "ClownsMournModel" "token" "I") (List.mem_of_getElem? (i := 1) rfl)
  have w119 := hts (.fieldLink RX12 119 "ClownsMournModel" "number" "I") (List.mem_of_getElem? (i := 2) rfl)
  have hl := lv_entry ([.ref (h 31), .int p1, .int p2, .int p3]) (n := 4) (Nat.le_of_ble_eq_true rfl)
  rw [lg_entry_eq]
  generalize (lg_sl ([.ref (h 31), .int p1, .int p2, .int p3]) ++ List.replicate (4 - (lg_sl ([.ref (h 31), .int p1, .int p2, .int p3])).length) Slot.unset).toArray = ls at hl ⊢
  have hl : lv_has ls 4 [(0, .ref (h 31)), (1, .int p1), (2, .int p2), (3, .int p3)] := hl
  unfold wM_figure at hw
  clear hD0
  refine lv_aload_n hx hb dX12_figure_0 rfl (lv_at hl 0 rfl) ?_
  refine va_get (D := D) (ci := 11) (v := .int (ms_token S)) (C := RX12) (T := TX12) (N := 31) hx hb hts hin hown hK hP 0 rfl rfl 9 (by decide) w113 (fun _ h9 => h9) rfl dX12_figure_1 ?_
  refine lv_iconst (v := 1) hx hb dX12_figure_4 (by decide) ?_
  obtain ⟨hc_1t, hc_1f⟩ := hw
  refine lv_icmp_eq (tgt := 10) hx hb dX12_figure_5 (by decide) (fun c_1 => ?_) (fun c_1 => ?_)
  · have hw := hc_1t c_1
    clear hc_1t hc_1f
    refine lv_aload_n hx hb dX12_figure_10 rfl (lv_at hl 0 rfl) ?_
    refine va_get (D := D) (ci := 11) (v := .int (ms_number S)) (C := RX12) (T := TX12) (N := 31) hx hb hts hin hown hK hP 0 rfl rfl 10 (by decide) w119 (fun _ h9 => h9) rfl dX12_figure_11 ?_
    refine lv_iload_n hx hb dX12_figure_14 rfl (lv_at hl 2 rfl) ?_
    refine lv_iload_n hx hb dX12_figure_15 rfl (lv_at hl 3 rfl) ?_
    refine k_callSi (As := [.int (ms_number S), .int p2, .int p3]) (rest := []) ⟨hx, hb, hml, hown, hts⟩ (cM_isIn l D h cy _ _ _ _ _ hw) (va_cwS 3 hts gX12_figure_X12_isIn rfl rfl rfl (by decide +kernel) ⟨Nat.le_of_ble_eq_true rfl, Nat.le_of_ble_eq_true rfl⟩) hK hP hD hS hA rfl hl.1 rfl (Nat.le_of_ble_eq_true rfl) dX12_figure_16 ⟨Nat.zero_le _, Nat.zero_le _⟩ (fun r_2 S_3 H locs hw hP hD hS => ?_)
    obtain ⟨hc_4t, hc_4f⟩ := hw
    refine lv_if_ne (tgt := 24) hx hb dX12_figure_19 (by decide) (fun c_4 => ?_) (fun c_4 => ?_)
    · have hw := hc_4f c_4
      clear hc_4t hc_4f
      refine lv_aload_n hx hb dX12_figure_24 rfl (lv_at hl 0 rfl) ?_
      refine va_get (D := D) (ci := 11) (v := .ref (h 2)) (C := RX12) (T := TX12) (N := 31) hx hb hts hin hown hK hP 0 rfl rfl 2 (by decide) w16 (fun _ h9 => h9) rfl dX12_figure_25 ?_
      refine lv_iload_n hx hb dX12_figure_28 rfl (lv_at hl 1 rfl) ?_
      refine lv_aload_n hx hb dX12_figure_29 rfl (lv_at hl 0 rfl) ?_
      refine va_get (D := D) (ci := 11) (v := .int (ms_number S_3)) (C := RX12) (T := TX12) (N := 31) hx hb hts hin hown hK hP 0 rfl rfl 10 (by decide) w119 (fun _ h9 => h9) rfl dX12_figure_30 ?_
      obtain ⟨hi_8, hw⟩ := hw
      refine va_iast (f := (ms_texts S_3)) hx hb hK hP hD hS 3 2 rfl rfl hi_8 dX12_figure_33 (fun H locs hP hD hS => ?_)
      obtain ⟨S_5, eS_5⟩ : ∃ z : MS, z = (ms_set_texts S_3 (upd (ms_texts S_3) (p1.toNatClampNeg) (ms_number S_3))) := ⟨_, rfl⟩
      have hw := hw S_5 eS_5
      have hP : va_P D vwCl (wM h cy S_5) H := by rw [eS_5, ← wMs_texts]; exact hP
      have hD : va_D A (wM h cy S_5) := by rw [eS_5, ← wMs_texts]; exact hD
      refine lv_aload_n hx hb dX12_figure_34 rfl (lv_at hl 0 rfl) ?_
      refine k_callVv (As := []) (rest := []) ⟨hx, hb, hml, hown, hts⟩ (cM_nextToken l D h cy _ _ hw) (cwV 0 hts gX12_figure_X12_nextToken rfl rfl rfl (by decide +kernel) ⟨Nat.le_of_ble_eq_true rfl, Nat.le_of_ble_eq_true rfl⟩) (va_recv hK hP (ci := 11) (q0 := 0) rfl rfl) hK hP hD hS hA rfl hl.1 rfl (Nat.le_of_ble_eq_true rfl) dX12_figure_35 ⟨Nat.zero_le _, Nat.zero_le _⟩ (fun S_7 H locs hw hP hD hS => ?_)
      refine lv_iconst (v := 0) hx hb dX12_figure_38 (by decide) ?_
      exact W.iret (v := 0) hx hb hr (fun t ht hW => ⟨⟨0, S_7, rfl, hw, by rw [ht]; exact hP, va_K.moved hW.alike hK, hD⟩, hS.F ht⟩) hS.2.2 dX12_figure_39
    · have hw := hc_4t c_4
      clear hc_4t hc_4f
      refine lv_iconst (v := 2) hx hb dX12_figure_22 (by decide) ?_
      exact W.iret (v := 2) hx hb hr (fun t ht hW => ⟨⟨2, S_3, rfl, hw, by rw [ht]; exact hP, va_K.moved hW.alike hK, hD⟩, hS.F ht⟩) hS.2.2 dX12_figure_23
  · have hw := hc_1f c_1
    clear hc_1t hc_1f
    refine lv_iconst (v := 1) hx hb dX12_figure_8 (by decide) ?_
    exact W.iret (v := 1) hx hb hr (fun t ht hW => ⟨⟨1, S, rfl, hw, by rw [ht]; exact hP, va_K.moved hW.alike hK, hD⟩, hS.F ht⟩) hS.2.2 dX12_figure_9
def wM_worded (p1 : Int64) (p2 : Int32) (p3 : Int32) (S : MS) (post : Int32 → MS → Prop) : Prop := wM_isWord p1 S (fun r_1 S_2 => ((r_1 = 0 → post 1 S_2) ∧ (¬ (r_1 = 0) → wM_nextToken S_2 (fun S_5 => wM_figure p2 0 p3 S_5 (fun r_6 S_7 => post r_6 S_7)))))
set_option maxHeartbeats 4000000 in
set_option maxRecDepth 100000 in
theorem cM_worded (l : Launch) (D : va_G) (h : Nat → Nat) (cy : Nat → ClassId) (p1 : Int64) (p2 : Int32) (p3 : Int32) (S : MS) (post : Int32 → MS → Prop) (hw : wM_worded p1 p2 p3 S post) : k_Mi l yX12_worded wsX12_worded { frames := 3, cells := 0, slots := 0, locals := 65 } D (tyM cy) (wM h cy) [.ref (h 31), .long p1, .int p2, .int p3] S post := by
  intro sz
  refine Met.ofW (cc := cX12_worded) (maxL := 5) (ret := (some .int)) (by decide) rfl ?_
  intro p e s m args below meth c s₁ B hml hv
  obtain ⟨rfl, hsz, hP, hK, hD0⟩ := hv
  have hx := B.exec
  have hb := B.bytes
  have hr := B.returns
  have hts := atoms_spec (ws := wsX12_worded) B.pre
  have hown : s.vm.findClass RX12 = some m.cls := findClass_of_methodNamed B.named
  have hlocks := B.notSynchronized
  subst hsz
  have hD := hD0.self (sz := s.heap.size)
  generalize hAe : va_A (wM h cy S) s.heap.size = A at hD ⊢
  have hA : ∀ q : Nat, s.heap.size ≤ q → A q := fun q h => by rw [← hAe]; exact Or.inr h
  have hS : va_S A s.heap s.heap [] := va_S.rf
  have hl := lv_entry ([.ref (h 31), .long p1, .int p2, .int p3]) (n := 5) (Nat.le_of_ble_eq_true rfl)
  rw [lg_entry_eq]
  generalize (lg_sl ([.ref (h 31), .long p1, .int p2, .int p3]) ++ List.replicate (5 - (lg_sl ([.ref (h 31), .long p1, .int p2, .int p3])).length) Slot.unset).toArray = ls at hl ⊢
  have hl : lv_has ls 5 [(0, .ref (h 31)), (1, .long p1), (3, .int p2), (4, .int p3)] := hl
  unfold wM_worded at hw
  clear hD0
  refine lv_aload_n hx hb dX12_worded_0 rfl (lv_at hl 0 rfl) ?_
  refine lv_lload_n hx hb dX12_worded_1 rfl (lv_at hl 1 rfl) ?_
  refine k_callVi (As := [.long p1]) (rest := []) ⟨hx, hb, hml, hown, hts⟩ (cM_isWord l D h cy _ _ _ hw) (cwV 1 hts gX12_worded_X12_isWord rfl rfl rfl (by decide +kernel) ⟨Nat.le_of_ble_eq_true rfl, Nat.le_of_ble_eq_true rfl⟩) (va_recv hK hP (ci := 11) (q0 := 0) rfl rfl) hK hP hD hS hA rfl hl.1 rfl (Nat.le_of_ble_eq_true rfl) dX12_worded_2 ⟨Nat.zero_le _, Nat.zero_le _⟩ (fun r_1 S_2 H locs hw hP hD hS => ?_)
  obtain ⟨hc_3t, hc_3f⟩ := hw
  refine lv_if_ne (tgt := 10) hx hb dX12_worded_5 (by decide) (fun c_3 => ?_) (fun c_3 => ?_)
  · have hw := hc_3f c_3
    clear hc_3t hc_3f
    refine lv_aload_n hx hb dX12_worded_10 rfl (lv_at hl 0 rfl) ?_
    refine k_callVv (As := []) (rest := []) ⟨hx, hb, hml, hown, hts⟩ (cM_nextToken l D h cy _ _ hw) (cwV 0 hts gX12_worded_X12_nextToken rfl rfl rfl (by decide +kernel) ⟨Nat.le_of_ble_eq_true rfl, Nat.le_of_ble_eq_true rfl⟩) (va_recv hK hP (ci := 11) (q0 := 0) rfl rfl) hK hP hD hS hA rfl hl.1 rfl (Nat.le_of_ble_eq_true rfl) dX12_worded_11 ⟨Nat.zero_le _, Nat.zero_le _⟩ (fun S_5 H locs hw hP hD hS => ?_)
    refine lv_aload_n hx hb dX12_worded_14 rfl (lv_at hl 0 rfl) ?_
    refine lv_iload_n hx hb dX12_worded_15 rfl (lv_at hl 2 rfl) ?_
    refine lv_iconst (v := 0) hx hb dX12_worded_16 (by decide) ?_
    refine lv_iload hx hb dX12_worded_17 (lv_at hl 3 rfl) ?_
    refine k_callVi (As := [.int p2, .int 0, .int p3]) (rest := []) ⟨hx, hb, hml, hown, hts⟩ (cM_figure l D h cy _ _ _ _ _ hw) (cwV 3 hts gX12_worded_X12_figure rfl rfl rfl (by decide +kernel) ⟨Nat.le_of_ble_eq_true rfl, Nat.le_of_ble_eq_true rfl⟩) (va_recv hK hP (ci := 11) (q0 := 0) rfl rfl) hK hP hD hS hA rfl hl.1 rfl (Nat.le_of_ble_eq_true rfl) dX12_worded_19 ⟨Nat.zero_le _, Nat.zero_le _⟩ (fun r_6 S_7 H locs hw hP hD hS => ?_)
    exact W.iret (v := r_6) hx hb hr (fun t ht hW => ⟨⟨r_6, S_7, rfl, hw, by rw [ht]; exact hP, va_K.moved hW.alike hK, hD⟩, hS.F ht⟩) hS.2.2 dX12_worded_22
  · have hw := hc_3t c_3
    clear hc_3t hc_3f
    refine lv_iconst (v := 1) hx hb dX12_worded_8 (by decide) ?_
    exact W.iret (v := 1) hx hb hr (fun t ht hW => ⟨⟨1, S_2, rfl, hw, by rw [ht]; exact hP, va_K.moved hW.alike hK, hD⟩, hS.F ht⟩) hS.2.2 dX12_worded_9
def wM_lawClause (p1 : Int32) (S : MS) (post : Int32 → MS → Prop) : Prop := (vp_in (p1 + 1) 2820 ∧ ∀ S_1 : MS, S_1 = (ms_set_texts S (upd (ms_texts S) ((p1 + 1).toNatClampNeg) (ms_written S))) → wM_summed S_1 (fun r_2 S_3 => (vp_in (p1 + 2) 2820 ∧ ∀ S_4 : MS, S_4 = (ms_set_texts S_3 (upd (ms_texts S_3) ((p1 + 2).toNatClampNeg) (ms_written S_3))) → post r_2 S_4)))
set_option maxHeartbeats 4000000 in
set_option maxRecDepth 100000 in
theorem cM_lawClause (l : Launch) (D : va_G) (h : Nat → Nat) (cy : Nat → ClassId) (p1 : Int32) (S : MS) (post : Int32 → MS → Prop) (hw : wM_lawClause p1 S post) : k_Mi l yX12_lawClause wsX12_lawClause { frames := 7, cells := 0, slots := 0, locals := 152 } D (tyM cy) (wM h cy) [.ref (h 31), .int p1] S post := by
  intro sz
  refine Met.ofW (cc := cX12_lawClause) (maxL := 3) (ret := (some .int)) (by decide) rfl ?_
  intro p e s m args below meth c s₁ B hml hv
  obtain ⟨rfl, hsz, hP, hK, hD0⟩ := hv
  have hx := B.exec
  have hb := B.bytes
  have hr := B.returns
  have hts := atoms_spec (ws := wsX12_lawClause) B.pre
  have hown : s.vm.findClass RX12 = some m.cls := findClass_of_methodNamed B.named
  have hlocks := B.notSynchronized
  subst hsz
  have hD := hD0.self (sz := s.heap.size)
  generalize hAe : va_A (wM h cy S) s.heap.size = A at hD ⊢
  have hA : ∀ q : Nat, s.heap.size ≤ q → A q := fun q h => by rw [← hAe]; exact Or.inr h
  have hS : va_S A s.heap s.heap [] := va_S.rf
  have hin : ∀ w ∈ wsX120, w ∈ wsX12_lawClause := fun _ h => List.mem_cons_of_mem _ (List.mem_append_right _ h)
  have w16 := hts (.fieldLink RX12 16 "ClownsMournModel" "texts" "[I") (List.mem_of_getElem? (i := 1) rfl)
  have w154 := hts (.fieldLink RX12 154 "ClownsMournModel" "written" "I") (List.mem_of_getElem? (i := 2) rfl)
  have hl := lv_entry ([.ref (h 31), .int p1]) (n := 3) (Nat.le_of_ble_eq_true rfl)
  rw [lg_entry_eq]
  generalize (lg_sl ([.ref (h 31), .int p1]) ++ List.replicate (3 - (lg_sl ([.ref (h 31), .int p1])).length) Slot.unset).toArray = ls at hl ⊢
  have hl : lv_has ls 3 [(0, .ref (h 31)), (1, .int p1)] := hl
  unfold wM_lawClause at hw
  clear hD0
  refine lv_aload_n hx hb dX12_lawClause_0 rfl (lv_at hl 0 rfl) ?_
  refine va_get (D := D) (ci := 11) (v := .ref (h 2)) (C := RX12) (T := TX12) (N := 31) hx hb hts hin hown hK hP 0 rfl rfl 2 (by decide) w16 (fun _ h9 => h9) rfl dX12_lawClause_1 ?_
  refine lv_iload_n hx hb dX12_lawClause_4 rfl (lv_at hl 1 rfl) ?_
  refine lv_iconst (v := 1) hx hb dX12_lawClause_5 (by decide) ?_
  refine lv_iadd hx hb dX12_lawClause_6 ?_
  refine lv_aload_n hx hb dX12_lawClause_7 rfl (lv_at hl 0 rfl) ?_
  refine va_get (D := D) (ci := 11) (v := .int (ms_written S)) (C := RX12) (T := TX12) (N := 31) hx hb hts hin hown hK hP 0 rfl rfl 13 (by decide) w154 (fun _ h9 => h9) rfl dX12_lawClause_8 ?_
  obtain ⟨hi_6, hw⟩ := hw
  refine va_iast (f := (ms_texts S)) hx hb hK hP hD hS 3 2 rfl rfl hi_6 dX12_lawClause_11 (fun H locs hP hD hS => ?_)
  obtain ⟨S_1, eS_1⟩ : ∃ z : MS, z = (ms_set_texts S (upd (ms_texts S) ((p1 + 1).toNatClampNeg) (ms_written S))) := ⟨_, rfl⟩
  have hw := hw S_1 eS_1
  have hP : va_P D vwCl (wM h cy S_1) H := by rw [eS_1, ← wMs_texts]; exact hP
  have hD : va_D A (wM h cy S_1) := by rw [eS_1, ← wMs_texts]; exact hD
  refine lv_aload_n hx hb dX12_lawClause_12 rfl (lv_at hl 0 rfl) ?_
  refine k_callVi (As := []) (rest := []) ⟨hx, hb, hml, hown, hts⟩ (cM_summed l D h cy _ _ hw) (cwV 0 hts gX12_lawClause_X12_summed rfl rfl rfl (by decide +kernel) ⟨Nat.le_of_ble_eq_true rfl, Nat.le_of_ble_eq_true rfl⟩) (va_recv hK hP (ci := 11) (q0 := 0) rfl rfl) hK hP hD hS hA rfl hl.1 rfl (Nat.le_of_ble_eq_true rfl) dX12_lawClause_13 ⟨Nat.zero_le _, Nat.zero_le _⟩ (fun r_2 S_3 H locs hw hP hD hS => ?_)
  refine lv_istore_n (lv' := [(2, .int r_2), (0, .ref (h 31)), (1, .int p1)]) hx hb dX12_lawClause_16 rfl hl (by decide) rfl (fun ls hl => ?_)
  refine lv_aload_n hx hb dX12_lawClause_17 rfl (lv_at hl 1 rfl) ?_
  refine va_get (D := D) (ci := 11) (v := .ref (h 2)) (C := RX12) (T := TX12) (N := 31) hx hb hts hin hown hK hP 0 rfl rfl 2 (by decide) w16 (fun _ h9 => h9) rfl dX12_lawClause_18 ?_
  refine lv_iload_n hx hb dX12_lawClause_21 rfl (lv_at hl 2 rfl) ?_
  refine lv_iconst (v := 2) hx hb dX12_lawClause_22 (by decide) ?_
  refine lv_iadd hx hb dX12_lawClause_23 ?_
  refine lv_aload_n hx hb dX12_lawClause_24 rfl (lv_at hl 1 rfl) ?_
  refine va_get (D := D) (ci := 11) (v := .int (ms_written S_3)) (C := RX12) (T := TX12) (N := 31) hx hb hts hin hown hK hP 0 rfl rfl 13 (by decide) w154 (fun _ h9 => h9) rfl dX12_lawClause_25 ?_
  obtain ⟨hi_5, hw⟩ := hw
  refine va_iast (f := (ms_texts S_3)) hx hb hK hP hD hS 3 2 rfl rfl hi_5 dX12_lawClause_28 (fun H locs hP hD hS => ?_)
  obtain ⟨S_4, eS_4⟩ : ∃ z : MS, z = (ms_set_texts S_3 (upd (ms_texts S_3) ((p1 + 2).toNatClampNeg) (ms_written S_3))) := ⟨_, rfl⟩
  have hw := hw S_4 eS_4
  have hP : va_P D vwCl (wM h cy S_4) H := by rw [eS_4, ← wMs_texts]; exact hP
  have hD : va_D A (wM h cy S_4) := by rw [eS_4, ← wMs_texts]; exact hD
  refine lv_iload_n hx hb dX12_lawClause_29 rfl (lv_at hl 0 rfl) ?_
  exact W.iret (v := r_2) hx hb hr (fun t ht hW => ⟨⟨r_2, S_4, rfl, hw, by rw [ht]; exact hP, va_K.moved hW.alike hK, hD⟩, hS.F ht⟩) hS.2.2 dX12_lawClause_30
def wM_moodClause_31 (post : Int32 → MS → Prop) (x1 : Int32) (x2 : Int32) (S : MS) : Prop := ((x2 = 0 → wM_w2 116 111 S (fun r_2 S_3 => wM_worded r_2 (x1 + 3) 9 S_3 (fun r_4 S_5 => post r_4 S_5))) ∧ (¬ (x2 = 0) → post x2 S))
def wM_moodClause (p1 : Int32) (S : MS) (post : Int32 → MS → Prop) : Prop := wM_figure (p1 + 1) 0 9 S (fun r_1 S_2 => ((r_1 = 0 → wM_w2 98 121 S_2 (fun r_4 S_5 => wM_worded r_4 (p1 + 2) 4 S_5 (fun r_6 S_7 => wM_moodClause_31 post p1 r_6 S_7))) ∧ (¬ (r_1 = 0) → wM_moodClause_31 post p1 r_1 S_2)))
set_option maxHeartbeats 4000000 in
set_option maxRecDepth 100000 in
theorem cM_moodClause (l : Launch) (D : va_G) (h : Nat → Nat) (cy : Nat → ClassId) (p1 : Int32) (S : MS) (post : Int32 → MS → Prop) (hw : wM_moodClause p1 S post) : k_Mi l yX12_moodClause wsX12_moodClause { frames := 4, cells := 0, slots := 0, locals := 89 } D (tyM cy) (wM h cy) [.ref (h 31), .int p1] S post := by
  intro sz
  refine Met.ofW (cc := cX12_moodClause) (maxL := 3) (ret := (some .int)) (by decide) rfl ?_
  intro p e s m args below meth c s₁ B hml hv
  obtain ⟨rfl, hsz, hP, hK, hD0⟩ := hv
  have hx := B.exec
  have hb := B.bytes
  have hr := B.returns
  have hts := atoms_spec (ws := wsX12_moodClause) B.pre
  have hown : s.vm.findClass RX12 = some m.cls := findClass_of_methodNamed B.named
  have hlocks := B.notSynchronized
  subst hsz
  have hD := hD0.self (sz := s.heap.size)
  generalize hAe : va_A (wM h cy S) s.heap.size = A at hD ⊢
  have hA : ∀ q : Nat, s.heap.size ≤ q → A q := fun q h => by rw [← hAe]; exact Or.inr h
  have hS : va_S A s.heap s.heap [] := va_S.rf
  have hl := lv_entry ([.ref (h 31), .int p1]) (n := 3) (Nat.le_of_ble_eq_true rfl)
  rw [lg_entry_eq]
  generalize (lg_sl ([.ref (h 31), .int p1]) ++ List.replicate (3 - (lg_sl ([.ref (h 31), .int p1])).length) Slot.unset).toArray = ls at hl ⊢
  have hl : lv_has ls 3 [(0, .ref (h 31)), (1, .int p1)] := hl
  unfold wM_moodClause at hw
  clear hD0
  have J_31 : ∀ (x1 : Int32) (x2 : Int32) (S : MS) (H : Heap) (locs : List Loc) (ls : Array Slot), wM_moodClause_31 post x1 x2 S → va_P D vwCl (wM h cy S) H → va_D A (wM h cy S) → va_S A s.heap H locs → lv_has ls 3 [(0, .ref (h 31)), (1, .int x1), (2, .int x2)] → W p l e (headSpec wsX12_moodClause { frames := 4, cells := 0, slots := 0, locals := 89 }).room s m (([.ref (h 31), .int p1] : List Value).toArray) below meth c H locs 0 0 (MQ below (va_Qi post (k_Post D (tyM cy) (wM h cy) A) A) (([.ref (h 31), .int p1] : List Value).toArray) s 0 0 A) (F0 m 31 ls []) := by
    intro x1 x2 S H locs ls hw hP hD hS hl
    unfold wM_moodClause_31 at hw
    refine lv_iload_n hx hb dX12_moodClause_31 rfl (lv_at hl 2 rfl) ?_
    obtain ⟨hc_1t, hc_1f⟩ := hw
    refine lv_if_eq (tgt := 39) hx hb dX12_moodClause_32 (by decide) (fun c_1 => ?_) (fun c_1 => ?_)
    · have hw := hc_1t c_1
      clear hc_1t hc_1f
      refine lv_aload_n hx hb dX12_moodClause_39 rfl (lv_at hl 0 rfl) ?_
      refine lv_bipush (v := 116) hx hb dX12_moodClause_40 (by decide) ?_
      refine lv_bipush (v := 111) hx hb dX12_moodClause_42 (by decide) ?_
      refine k_callSl (As := [.int 116, .int 111]) (rest := [.ref (h 31)]) ⟨hx, hb, hml, hown, hts⟩ (cM_w2 l D h cy _ _ _ _ hw) (va_cwS 2 hts gX12_moodClause_X12_w2 rfl rfl rfl (by decide +kernel) ⟨Nat.le_of_ble_eq_true rfl, Nat.le_of_ble_eq_true rfl⟩) hK hP hD hS hA rfl hl.1 rfl (Nat.le_of_ble_eq_true rfl) dX12_moodClause_44 ⟨Nat.zero_le _, Nat.zero_le _⟩ (fun r_2 S_3 H locs hw hP hD hS => ?_)
      refine lv_iload_n hx hb dX12_moodClause_47 rfl (lv_at hl 1 rfl) ?_
      refine lv_iconst (v := 3) hx hb dX12_moodClause_48 (by decide) ?_
      refine lv_iadd hx hb dX12_moodClause_49 ?_
      refine lv_bipush (v := 9) hx hb dX12_moodClause_50 (by decide) ?_
      refine k_callVi (As := [.long r_2, .int (x1 + 3), .int 9]) (rest := []) ⟨hx, hb, hml, hown, hts⟩ (cM_worded l D h cy _ _ _ _ _ hw) (cwV 3 hts gX12_moodClause_X12_worded rfl rfl rfl (by decide +kernel) ⟨Nat.le_of_ble_eq_true rfl, Nat.le_of_ble_eq_true rfl⟩) (va_recv hK hP (ci := 11) (q0 := 0) rfl rfl) hK hP hD hS hA rfl hl.1 rfl (Nat.le_of_ble_eq_true rfl) dX12_moodClause_52 ⟨Nat.zero_le _, Nat.zero_le _⟩ (fun r_4 S_5 H locs hw hP hD hS => ?_)
      exact W.iret (v := r_4) hx hb hr (fun t ht hW => ⟨⟨r_4, S_5, rfl, hw, by rw [ht]; exact hP, va_K.moved hW.alike hK, hD⟩, hS.F ht⟩) hS.2.2 dX12_moodClause_55
    · have hw := hc_1f c_1
      clear hc_1t hc_1f
      refine lv_iload_n hx hb dX12_moodClause_35 rfl (lv_at hl 2 rfl) ?_
      refine lv_goto (tgt := 55) hx hb dX12_moodClause_36 (by decide) ?_
      exact W.iret (v := x2) hx hb hr (fun t ht hW => ⟨⟨x2, S, rfl, hw, by rw [ht]; exact hP, va_K.moved hW.alike hK, hD⟩, hS.F ht⟩) hS.2.2 dX12_moodClause_55
  refine lv_aload_n hx hb dX12_moodClause_0 rfl (lv_at hl 0 rfl) ?_
  refine lv_iload_n hx hb dX12_moodClause_1 rfl (lv_at hl 1 rfl) ?_
  refine lv_iconst (v := 1) hx hb dX12_moodClause_2 (by decide) ?_
  refine lv_iadd hx hb dX12_moodClause_3 ?_
  refine lv_iconst (v := 0) hx hb dX12_moodClause_4 (by decide) ?_
  refine lv_bipush (v := 9) hx hb dX12_moodClause_5 (by decide) ?_
  refine k_callVi (As := [.int (p1 + 1), .int 0, .int 9]) (rest := []) ⟨hx, hb, hml, hown, hts⟩ (cM_figure l D h cy _ _ _ _ _ hw) (cwV 3 hts gX12_moodClause_X12_figure rfl rfl rfl (by decide +kernel) ⟨Nat.le_of_ble_eq_true rfl, Nat.le_of_ble_eq_true rfl⟩) (va_recv hK hP (ci := 11) (q0 := 0) rfl rfl) hK hP hD hS hA rfl hl.1 rfl (Nat.le_of_ble_eq_true rfl) dX12_moodClause_7 ⟨Nat.zero_le _, Nat.zero_le _⟩ (fun r_6 S_7 H locs hw hP hD hS => ?_)
  refine lv_istore_n (lv' := [(2, .int r_6), (0, .ref (h 31)), (1, .int p1)]) hx hb dX12_moodClause_10 rfl hl (by decide) rfl (fun ls hl => ?_)
  refine lv_iload_n hx hb dX12_moodClause_11 rfl (lv_at hl 0 rfl) ?_
  obtain ⟨hc_8t, hc_8f⟩ := hw
  refine lv_if_ne (tgt := 31) hx hb dX12_moodClause_12 (by decide) (fun c_8 => ?_) (fun c_8 => ?_)
  · have hw := hc_8f c_8
    clear hc_8t hc_8f
    exact J_31 p1 r_6 S_7 _ _ _ hw hP hD hS (lv_sub hl [1, 2, 0] rfl)
  · have hw := hc_8t c_8
    clear hc_8t hc_8f
    refine lv_aload_n hx hb dX12_moodClause_15 rfl (lv_at hl 1 rfl) ?_
    refine lv_bipush (v := 98) hx hb dX12_moodClause_16 (by decide) ?_
    refine lv_bipush (v := 121) hx hb dX12_moodClause_18 (by decide) ?_
    refine k_callSl (As := [.int 98, .int 121]) (rest := [.ref (h 31)]) ⟨hx, hb, hml, hown, hts⟩ (cM_w2 l D h cy _ _ _ _ hw) (va_cwS 2 hts gX12_moodClause_X12_w2 rfl rfl rfl (by decide +kernel) ⟨Nat.le_of_ble_eq_true rfl, Nat.le_of_ble_eq_true rfl⟩) hK hP hD hS hA rfl hl.1 rfl (Nat.le_of_ble_eq_true rfl) dX12_moodClause_20 ⟨Nat.zero_le _, Nat.zero_le _⟩ (fun r_9 S_10 H locs hw hP hD hS => ?_)
    refine lv_iload_n hx hb dX12_moodClause_23 rfl (lv_at hl 2 rfl) ?_
    refine lv_iconst (v := 2) hx hb dX12_moodClause_24 (by decide) ?_
    refine lv_iadd hx hb dX12_moodClause_25 ?_
    refine lv_iconst (v := 4) hx hb dX12_moodClause_26 (by decide) ?_
    refine k_callVi (As := [.long r_9, .int (p1 + 2), .int 4]) (rest := []) ⟨hx, hb, hml, hown, hts⟩ (cM_worded l D h cy _ _ _ _ _ hw) (cwV 3 hts gX12_moodClause_X12_worded rfl rfl rfl (by decide +kernel) ⟨Nat.le_of_ble_eq_true rfl, Nat.le_of_ble_eq_true rfl⟩) (va_recv hK hP (ci := 11) (q0 := 0) rfl rfl) hK hP hD hS hA rfl hl.1 rfl (Nat.le_of_ble_eq_true rfl) dX12_moodClause_27 ⟨Nat.zero_le _, Nat.zero_le _⟩ (fun r_11 S_12 H locs hw hP hD hS => ?_)
    refine lv_istore_n (lv' := [(2, .int r_11), (0, .ref (h 31)), (1, .int p1)]) hx hb dX12_moodClause_30 rfl hl (by decide) rfl (fun ls hl => ?_)
    exact J_31 p1 r_11 S_12 _ _ _ hw hP hD hS (lv_sub hl [1, 2, 0] rfl)
def wM_pair (p1 : Int32) (p2 : Int32) (p3 : Int32) (p4 : Int64) (p5 : Int32) (S : MS) (post : Int32 → MS → Prop) : Prop := wM_figure (p1 + 1) p2 p3 S (fun r_1 S_2 => ((r_1 = 0 → wM_worded p4 (p1 + 2) p5 S_2 (fun r_4 S_5 => post r_4 S_5)) ∧ (¬ (r_1 = 0) → post r_1 S_2)))
set_option maxHeartbeats 4000000 in
set_option maxRecDepth 100000 in
theorem cM_pair (l : Launch) (D : va_G) (h : Nat → Nat) (cy : Nat → ClassId) (p1 : Int32) (p2 : Int32) (p3 : Int32) (p4 : Int64) (p5 : Int32) (S : MS) (post : Int32 → MS → Prop) (hw : wM_pair p1 p2 p3 p4 p5 S post) : k_Mi l yX12_pair wsX12_pair { frames := 4, cells := 0, slots := 0, locals := 89 } D (tyM cy) (wM h cy) [.ref (h 31), .int p1, .int p2, .int p3, .long p4, .int p5] S post := by
  intro sz
  refine Met.ofW (cc := cX12_pair) (maxL := 8) (ret := (some .int)) (by decide) rfl ?_
  intro p e s m args below meth c s₁ B hml hv
  obtain ⟨rfl, hsz, hP, hK, hD0⟩ := hv
  have hx := B.exec
  have hb := B.bytes
  have hr := B.returns
  have hts := atoms_spec (ws := wsX12_pair) B.pre
  have hown : s.vm.findClass RX12 = some m.cls := findClass_of_methodNamed B.named
  have hlocks := B.notSynchronized
  subst hsz
  have hD := hD0.self (sz := s.heap.size)
  generalize hAe : va_A (wM h cy S) s.heap.size = A at hD ⊢
  have hA : ∀ q : Nat, s.heap.size ≤ q → A q := fun q h => by rw [← hAe]; exact Or.inr h
  have hS : va_S A s.heap s.heap [] := va_S.rf
  have hl := lv_entry ([.ref (h 31), .int p1, .int p2, .int p3, .long p4, .int p5]) (n := 8) (Nat.le_of_ble_eq_true rfl)
  rw [lg_entry_eq]
  generalize (lg_sl ([.ref (h 31), .int p1, .int p2, .int p3, .long p4, .int p5]) ++ List.replicate (8 - (lg_sl ([.ref (h 31), .int p1, .int p2, .int p3, .long p4, .int p5])).length) Slot.unset).toArray = ls at hl ⊢
  have hl : lv_has ls 8 [(0, .ref (h 31)), (1, .int p1), (2, .int p2), (3, .int p3), (4, .long p4), (6, .int p5)] := hl
  unfold wM_pair at hw
  clear hD0
  refine lv_aload_n hx hb dX12_pair_0 rfl (lv_at hl 0 rfl) ?_
  refine lv_iload_n hx hb dX12_pair_1 rfl (lv_at hl 1 rfl) ?_
  refine lv_iconst (v := 1) hx hb dX12_pair_2 (by decide) ?_
  refine lv_iadd hx hb dX12_pair_3 ?_
  refine lv_iload_n hx hb dX12_pair_4 rfl (lv_at hl 2 rfl) ?_
  refine lv_iload_n hx hb dX12_pair_5 rfl (lv_at hl 3 rfl) ?_
  refine k_callVi (As := [.int (p1 + 1), .int p2, .int p3]) (rest := []) ⟨hx, hb, hml, hown, hts⟩ (cM_figure l D h cy _ _ _ _ _ hw) (cwV 3 hts gX12_pair_X12_figure rfl rfl rfl (by decide +kernel) ⟨Nat.le_of_ble_eq_true rfl, Nat.le_of_ble_eq_true rfl⟩) (va_recv hK hP (ci := 11) (q0 := 0) rfl rfl) hK hP hD hS hA rfl hl.1 rfl (Nat.le_of_ble_eq_true rfl) dX12_pair_6 ⟨Nat.zero_le _, Nat.zero_le _⟩ (fun r_1 S_2 H locs hw hP hD hS => ?_)
  refine lv_istore (lv' := [(7, .int r_1), (0, .ref (h 31)), (1, .int p1), (2, .int p2), (3, .int p3), (4, .long p4), (6, .int p5)]) hx hb dX12_pair_9 hl (by decide) rfl (fun ls hl => ?_)
  refine lv_iload hx hb dX12_pair_11 (lv_at hl 0 rfl) ?_
  obtain ⟨hc_3t, hc_3f⟩ := hw
  refine lv_if_eq (tgt := 21) hx hb dX12_pair_13 (by decide) (fun c_3 => ?_) (fun c_3 => ?_)
  · have hw := hc_3t c_3
    clear hc_3t hc_3f
    refine lv_aload_n hx hb dX12_pair_21 rfl (lv_at hl 1 rfl) ?_
    refine lv_lload hx hb dX12_pair_22 (lv_at hl 5 rfl) ?_
    refine lv_iload_n hx hb dX12_pair_24 rfl (lv_at hl 2 rfl) ?_
    refine lv_iconst (v := 2) hx hb dX12_pair_25 (by decide) ?_
    refine lv_iadd hx hb dX12_pair_26 ?_
    refine lv_iload hx hb dX12_pair_27 (lv_at hl 6 rfl) ?_
    refine k_callVi (As := [.long p4, .int (p1 + 2), .int p5]) (rest := []) ⟨hx, hb, hml, hown, hts⟩ (cM_worded l D h cy _ _ _ _ _ hw) (cwV 3 hts gX12_pair_X12_worded rfl rfl rfl (by decide +kernel) ⟨Nat.le_of_ble_eq_true rfl, Nat.le_of_ble_eq_true rfl⟩) (va_recv hK hP (ci := 11) (q0 := 0) rfl rfl) hK hP hD hS hA rfl hl.1 rfl (Nat.le_of_ble_eq_true rfl) dX12_pair_29 ⟨Nat.zero_le _, Nat.zero_le _⟩ (fun r_4 S_5 H locs hw hP hD hS => ?_)
    exact W.iret (v := r_4) hx hb hr (fun t ht hW => ⟨⟨r_4, S_5, rfl, hw, by rw [ht]; exact hP, va_K.moved hW.alike hK, hD⟩, hS.F ht⟩) hS.2.2 dX12_pair_32
  · have hw := hc_3f c_3
    clear hc_3t hc_3f
    refine lv_iload hx hb dX12_pair_16 (lv_at hl 0 rfl) ?_
    refine lv_goto (tgt := 32) hx hb dX12_pair_18 (by decide) ?_
    exact W.iret (v := r_1) hx hb hr (fun t ht hW => ⟨⟨r_1, S_2, rfl, hw, by rw [ht]; exact hP, va_K.moved hW.alike hK, hD⟩, hS.F ht⟩) hS.2.2 dX12_pair_32
def wM_body (p1 : Int32) (p2 : Int32) (S : MS) (post : Int32 → MS → Prop) : Prop := ((p1 = 3 → wM_w5 103 114 105 101 102 S (fun r_1 S_2 => wM_pair p2 0 3 r_1 99 S_2 (fun r_3 S_4 => post r_3 S_4))) ∧ (p1 = 4 → wM_w3 97 103 101 S (fun r_6 S_7 => wM_pair p2 1 9 r_6 99 S_7 (fun r_8 S_9 => post r_8 S_9))) ∧ (p1 = 5 → wM_moodClause p2 S (fun r_11 S_12 => post r_11 S_12)) ∧ (p1 = 6 → wM_w2 116 111 S (fun r_14 S_15 => wM_pair p2 0 4 r_14 5 S_15 (fun r_16 S_17 => post r_16 S_17))) ∧ (p1 = 7 → wM_w2 98 121 S (fun r_19 S_20 => wM_pair p2 0 4 r_19 4 S_20 (fun r_21 S_22 => post r_21 S_22))) ∧ (p1 = 8 → wM_figure (p2 + 1) 0 4 S (fun r_24 S_25 => post r_24 S_25)) ∧ (p1 = 9 → wM_figure (p2 + 1) 1 60 S (fun r_27 S_28 => post r_27 S_28)) ∧ (¬ p1 = 3 → ¬ p1 = 4 → ¬ p1 = 5 → ¬ p1 = 6 → ¬ p1 = 7 → ¬ p1 = 8 → ¬ p1 = 9 → wM_lawClause p2 S (fun r_30 S_31 => post r_30 S_31)))
set_option maxHeartbeats 4000000 in
set_option maxRecDepth 100000 in
theorem cM_body (l : Launch) (D : va_G) (h : Nat → Nat) (cy : Nat → ClassId) (p1 : Int32) (p2 : Int32) (S : MS) (post : Int32 → MS → Prop) (hw : wM_body p1 p2 S post) : k_Mi l yX12_body wsX12_body { frames := 8, cells := 0, slots := 0, locals := 174 } D (tyM cy) (wM h cy) [.ref (h 31), .int p1, .int p2] S post := by
  intro sz
  refine Met.ofW (cc := cX12_body) (maxL := 3) (ret := (some .int)) (by decide) rfl ?_
  intro p e s m args below meth c s₁ B hml hv
  obtain ⟨rfl, hsz, hP, hK, hD0⟩ := hv
  have hx := B.exec
  have hb := B.bytes
  have hr := B.returns
  have hts := atoms_spec (ws := wsX12_body) B.pre
  have hown : s.vm.findClass RX12 = some m.cls := findClass_of_methodNamed B.named
  have hlocks := B.notSynchronized
  subst hsz
  have hD := hD0.self (sz := s.heap.size)
  generalize hAe : va_A (wM h cy S) s.heap.size = A at hD ⊢
  have hA : ∀ q : Nat, s.heap.size ≤ q → A q := fun q h => by rw [← hAe]; exact Or.inr h
  have hS : va_S A s.heap s.heap [] := va_S.rf
  have hl := lv_entry ([.ref (h 31), .int p1, .int p2]) (n := 3) (Nat.le_of_ble_eq_true rfl)
  rw [lg_entry_eq]
  generalize (lg_sl ([.ref (h 31), .int p1, .int p2]) ++ List.replicate (3 - (lg_sl ([.ref (h 31), .int p1, .int p2])).length) Slot.unset).toArray = ls at hl ⊢
  have hl : lv_has ls 3 [(0, .ref (h 31)), (1, .int p1), (2, .int p2)] := hl
  unfold wM_body at hw
  clear hD0
  refine lv_iload_n hx hb dX12_body_0 rfl (lv_at hl 1 rfl) ?_
  obtain ⟨hc_5, hw⟩ := hw
  by_cases c_5 : p1 = 3
  · have hw := hc_5 c_5
    refine lv_tableIn (off := 43) (tgt := 44) hx hb dX12_body_1 (by rw [c_5]; decide) (by rw [c_5]; decide) (by rw [c_5]; rfl) (by decide) ?_
    refine lv_aload_n hx hb dX12_body_44 rfl (lv_at hl 0 rfl) ?_
    refine lv_iload_n hx hb dX12_body_45 rfl (lv_at hl 2 rfl) ?_
    refine lv_iconst (v := 0) hx hb dX12_body_46 (by decide) ?_
    refine lv_iconst (v := 3) hx hb dX12_body_47 (by decide) ?_
    refine lv_bipush (v := 103) hx hb dX12_body_48 (by decide) ?_
    refine lv_bipush (v := 114) hx hb dX12_body_50 (by decide) ?_
    refine lv_bipush (v := 105) hx hb dX12_body_52 (by decide) ?_
    refine lv_bipush (v := 101) hx hb dX12_body_54 (by decide) ?_
    refine lv_bipush (v := 102) hx hb dX12_body_56 (by decide) ?_
    refine k_callSl (As := [.int 103, .int 114, .int 105, .int 101, .int 102]) (rest := [.int 3, .int 0, .int p2, .ref (h 31)]) ⟨hx, hb, hml, hown, hts⟩ (cM_w5 l D h cy _ _ _ _ _ _ _ hw) (va_cwS 5 hts gX12_body_X12_w5 rfl rfl rfl (by decide +kernel) ⟨Nat.le_of_ble_eq_true rfl, Nat.le_of_ble_eq_true rfl⟩) hK hP hD hS hA rfl hl.1 rfl (Nat.le_of_ble_eq_true rfl) dX12_body_58 ⟨Nat.zero_le _, Nat.zero_le _⟩ (fun r_1 S_2 H locs hw hP hD hS => ?_)
    refine lv_bipush (v := 99) hx hb dX12_body_61 (by decide) ?_
    refine k_callVi (As := [.int p2, .int 0, .int 3, .long r_1, .int 99]) (rest := []) ⟨hx, hb, hml, hown, hts⟩ (cM_pair l D h cy _ _ _ _ _ _ _ hw) (cwV 5 hts gX12_body_X12_pair rfl rfl rfl (by decide +kernel) ⟨Nat.le_of_ble_eq_true rfl, Nat.le_of_ble_eq_true rfl⟩) (va_recv hK hP (ci := 11) (q0 := 0) rfl rfl) hK hP hD hS hA rfl hl.1 rfl (Nat.le_of_ble_eq_true rfl) dX12_body_63 ⟨Nat.zero_le _, Nat.zero_le _⟩ (fun r_3 S_4 H locs hw hP hD hS => ?_)
    exact W.iret (v := r_3) hx hb hr (fun t ht hW => ⟨⟨r_3, S_4, rfl, hw, by rw [ht]; exact hP, va_K.moved hW.alike hK, hD⟩, hS.F ht⟩) hS.2.2 dX12_body_66
  obtain ⟨hc_10, hw⟩ := hw
  by_cases c_10 : p1 = 4
  · have hw := hc_10 c_10
    refine lv_tableIn (off := 66) (tgt := 67) hx hb dX12_body_1 (by rw [c_10]; decide) (by rw [c_10]; decide) (by rw [c_10]; rfl) (by decide) ?_
    refine lv_aload_n hx hb dX12_body_67 rfl (lv_at hl 0 rfl) ?_
    refine lv_iload_n hx hb dX12_body_68 rfl (lv_at hl 2 rfl) ?_
    refine lv_iconst (v := 1) hx hb dX12_body_69 (by decide) ?_
    refine lv_bipush (v := 9) hx hb dX12_body_70 (by decide) ?_
    refine lv_bipush (v := 97) hx hb dX12_body_72 (by decide) ?_
    refine lv_bipush (v := 103) hx hb dX12_body_74 (by decide) ?_
    refine lv_bipush (v := 101) hx hb dX12_body_76 (by decide) ?_
    refine k_callSl (As := [.int 97, .int 103, .int 101]) (rest := [.int 9, .int 1, .int p2, .ref (h 31)]) ⟨hx, hb, hml, hown, hts⟩ (cM_w3 l D h cy _ _ _ _ _ hw) (va_cwS 3 hts gX12_body_X12_w3 rfl rfl rfl (by decide +kernel) ⟨Nat.le_of_ble_eq_true rfl, Nat.le_of_ble_eq_true rfl⟩) hK hP hD hS hA rfl hl.1 rfl (Nat.le_of_ble_eq_true rfl) dX12_body_78 ⟨Nat.zero_le _, Nat.zero_le _⟩ (fun r_6 S_7 H locs hw hP hD hS => ?_)
    refine lv_bipush (v := 99) hx hb dX12_body_81 (by decide) ?_
    refine k_callVi (As := [.int p2, .int 1, .int 9, .long r_6, .int 99]) (rest := []) ⟨hx, hb, hml, hown, hts⟩ (cM_pair l D h cy _ _ _ _ _ _ _ hw) (cwV 5 hts gX12_body_X12_pair rfl rfl rfl (by decide +kernel) ⟨Nat.le_of_ble_eq_true rfl, Nat.le_of_ble_eq_true rfl⟩) (va_recv hK hP (ci := 11) (q0 := 0) rfl rfl) hK hP hD hS hA rfl hl.1 rfl (Nat.le_of_ble_eq_true rfl) dX12_body_83 ⟨Nat.zero_le _, Nat.zero_le _⟩ (fun r_8 S_9 H locs hw hP hD hS => ?_)
    exact W.iret (v := r_8) hx hb hr (fun t ht hW => ⟨⟨r_8, S_9, rfl, hw, by rw [ht]; exact hP, va_K.moved hW.alike hK, hD⟩, hS.F ht⟩) hS.2.2 dX12_body_86
  obtain ⟨hc_13, hw⟩ := hw
  by_cases c_13 : p1 = 5
  · have hw := hc_13 c_13
    refine lv_tableIn (off := 86) (tgt := 87) hx hb dX12_body_1 (by rw [c_13]; decide) (by rw [c_13]; decide) (by rw [c_13]; rfl) (by decide) ?_
    refine lv_aload_n hx hb dX12_body_87 rfl (lv_at hl 0 rfl) ?_
    refine lv_iload_n hx hb dX12_body_88 rfl (lv_at hl 2 rfl) ?_
    refine k_callVi (As := [.int p2]) (rest := []) ⟨hx, hb, hml, hown, hts⟩ (cM_moodClause l D h cy _ _ _ hw) (cwV 1 hts gX12_body_X12_moodClause rfl rfl rfl (by decide +kernel) ⟨Nat.le_of_ble_eq_true rfl, Nat.le_of_ble_eq_true rfl⟩) (va_recv hK hP (ci := 11) (q0 := 0) rfl rfl) hK hP hD hS hA rfl hl.1 rfl (Nat.le_of_ble_eq_true rfl) dX12_body_89 ⟨Nat.zero_le _, Nat.zero_le _⟩ (fun r_11 S_12 H locs hw hP hD hS => ?_)
    exact W.iret (v := r_11) hx hb hr (fun t ht hW => ⟨⟨r_11, S_12, rfl, hw, by rw [ht]; exact hP, va_K.moved hW.alike hK, hD⟩, hS.F ht⟩) hS.2.2 dX12_body_92
  obtain ⟨hc_18, hw⟩ := hw
  by_cases c_18 : p1 = 6
  · have hw := hc_18 c_18
    refine lv_tableIn (off := 92) (tgt := 93) hx hb dX12_body_1 (by rw [c_18]; decide) (by rw [c_18]; decide) (by rw [c_18]; rfl) (by decide) ?_
    refine lv_aload_n hx hb dX12_body_93 rfl (lv_at hl 0 rfl) ?_
    refine lv_iload_n hx hb dX12_body_94 rfl (lv_at hl 2 rfl) ?_
    refine lv_iconst (v := 0) hx hb dX12_body_95 (by decide) ?_
    refine lv_iconst (v := 4) hx hb dX12_body_96 (by decide) ?_
    refine lv_bipush (v := 116) hx hb dX12_body_97 (by decide) ?_
    refine lv_bipush (v := 111) hx hb dX12_body_99 (by decide) ?_
    refine k_callSl (As := [.int 116, .int 111]) (rest := [.int 4, .int 0, .int p2, .ref (h 31)]) ⟨hx, hb, hml, hown, hts⟩ (cM_w2 l D h cy _ _ _ _ hw) (va_cwS 2 hts gX12_body_X12_w2 rfl rfl rfl (by decide +kernel) ⟨Nat.le_of_ble_eq_true rfl, Nat.le_of_ble_eq_true rfl⟩) hK hP hD hS hA rfl hl.1 rfl (Nat.le_of_ble_eq_true rfl) dX12_body_101 ⟨Nat.zero_le _, Nat.zero_le _⟩ (fun r_14 S_15 H locs hw hP hD hS => ?_)
    refine lv_iconst (v := 5) hx hb dX12_body_104 (by decide) ?_
    refine k_callVi (As := [.int p2, .int 0, .int 4, .long r_14, .int 5]) (rest := []) ⟨hx, hb, hml, hown, hts⟩ (cM_pair l D h cy _ _ _ _ _ _ _ hw) (cwV 5 hts gX12_body_X12_pair rfl rfl rfl (by decide +kernel) ⟨Nat.le_of_ble_eq_true rfl, Nat.le_of_ble_eq_true rfl⟩) (va_recv hK hP (ci := 11) (q0 := 0) rfl rfl) hK hP hD hS hA rfl hl.1 rfl (Nat.le_of_ble_eq_true rfl) dX12_body_105 ⟨Nat.zero_le _, Nat.zero_le _⟩ (fun r_16 S_17 H locs hw hP hD hS => ?_)
    exact W.iret (v := r_16) hx hb hr (fun t ht hW => ⟨⟨r_16, S_17, rfl, hw, by rw [ht]; exact hP, va_K.moved hW.alike hK, hD⟩, hS.F ht⟩) hS.2.2 dX12_body_108
  obtain ⟨hc_23, hw⟩ := hw
  by_cases c_23 : p1 = 7
  · have hw := hc_23 c_23
    refine lv_tableIn (off := 108) (tgt := 109) hx hb dX12_body_1 (by rw [c_23]; decide) (by rw [c_23]; decide) (by rw [c_23]; rfl) (by decide) ?_
    refine lv_aload_n hx hb dX12_body_109 rfl (lv_at hl 0 rfl) ?_
    refine lv_iload_n hx hb dX12_body_110 rfl (lv_at hl 2 rfl) ?_
    refine lv_iconst (v := 0) hx hb dX12_body_111 (by decide) ?_
    refine lv_iconst (v := 4) hx hb dX12_body_112 (by decide) ?_
    refine lv_bipush (v := 98) hx hb dX12_body_113 (by decide) ?_
    refine lv_bipush (v := 121) hx hb dX12_body_115 (by decide) ?_
    refine k_callSl (As := [.int 98, .int 121]) (rest := [.int 4, .int 0, .int p2, .ref (h 31)]) ⟨hx, hb, hml, hown, hts⟩ (cM_w2 l D h cy _ _ _ _ hw) (va_cwS 2 hts gX12_body_X12_w2 rfl rfl rfl (by decide +kernel) ⟨Nat.le_of_ble_eq_true rfl, Nat.le_of_ble_eq_true rfl⟩) hK hP hD hS hA rfl hl.1 rfl (Nat.le_of_ble_eq_true rfl) dX12_body_117 ⟨Nat.zero_le _, Nat.zero_le _⟩ (fun r_19 S_20 H locs hw hP hD hS => ?_)
    refine lv_iconst (v := 4) hx hb dX12_body_120 (by decide) ?_
    refine k_callVi (As := [.int p2, .int 0, .int 4, .long r_19, .int 4]) (rest := []) ⟨hx, hb, hml, hown, hts⟩ (cM_pair l D h cy _ _ _ _ _ _ _ hw) (cwV 5 hts gX12_body_X12_pair rfl rfl rfl (by decide +kernel) ⟨Nat.le_of_ble_eq_true rfl, Nat.le_of_ble_eq_true rfl⟩) (va_recv hK hP (ci := 11) (q0 := 0) rfl rfl) hK hP hD hS hA rfl hl.1 rfl (Nat.le_of_ble_eq_true rfl) dX12_body_121 ⟨Nat.zero_le _, Nat.zero_le _⟩ (fun r_21 S_22 H locs hw hP hD hS => ?_)
    exact W.iret (v := r_21) hx hb hr (fun t ht hW => ⟨⟨r_21, S_22, rfl, hw, by rw [ht]; exact hP, va_K.moved hW.alike hK, hD⟩, hS.F ht⟩) hS.2.2 dX12_body_124
  obtain ⟨hc_26, hw⟩ := hw
  by_cases c_26 : p1 = 8
  · have hw := hc_26 c_26
    refine lv_tableIn (off := 124) (tgt := 125) hx hb dX12_body_1 (by rw [c_26]; decide) (by rw [c_26]; decide) (by rw [c_26]; rfl) (by decide) ?_
    refine lv_aload_n hx hb dX12_body_125 rfl (lv_at hl 0 rfl) ?_
    refine lv_iload_n hx hb dX12_body_126 rfl (lv_at hl 2 rfl) ?_
    refine lv_iconst (v := 1) hx hb dX12_body_127 (by decide) ?_
    refine lv_iadd hx hb dX12_body_128 ?_
    refine lv_iconst (v := 0) hx hb dX12_body_129 (by decide) ?_
    refine lv_iconst (v := 4) hx hb dX12_body_130 (by decide) ?_
    refine k_callVi (As := [.int (p2 + 1), .int 0, .int 4]) (rest := []) ⟨hx, hb, hml, hown, hts⟩ (cM_figure l D h cy _ _ _ _ _ hw) (cwV 3 hts gX12_body_X12_figure rfl rfl rfl (by decide +kernel) ⟨Nat.le_of_ble_eq_true rfl, Nat.le_of_ble_eq_true rfl⟩) (va_recv hK hP (ci := 11) (q0 := 0) rfl rfl) hK hP hD hS hA rfl hl.1 rfl (Nat.le_of_ble_eq_true rfl) dX12_body_131 ⟨Nat.zero_le _, Nat.zero_le _⟩ (fun r_24 S_25 H locs hw hP hD hS => ?_)
    exact W.iret (v := r_24) hx hb hr (fun t ht hW => ⟨⟨r_24, S_25, rfl, hw, by rw [ht]; exact hP, va_K.moved hW.alike hK, hD⟩, hS.F ht⟩) hS.2.2 dX12_body_134
  obtain ⟨hc_29, hw⟩ := hw
  by_cases c_29 : p1 = 9
  · have hw := hc_29 c_29
    refine lv_tableIn (off := 134) (tgt := 135) hx hb dX12_body_1 (by rw [c_29]; decide) (by rw [c_29]; decide) (by rw [c_29]; rfl) (by decide) ?_
    refine lv_aload_n hx hb dX12_body_135 rfl (lv_at hl 0 rfl) ?_
    refine lv_iload_n hx hb dX12_body_136 rfl (lv_at hl 2 rfl) ?_
    refine lv_iconst (v := 1) hx hb dX12_body_137 (by decide) ?_
    refine lv_iadd hx hb dX12_body_138 ?_
    refine lv_iconst (v := 1) hx hb dX12_body_139 (by decide) ?_
    refine lv_bipush (v := 60) hx hb dX12_body_140 (by decide) ?_
    refine k_callVi (As := [.int (p2 + 1), .int 1, .int 60]) (rest := []) ⟨hx, hb, hml, hown, hts⟩ (cM_figure l D h cy _ _ _ _ _ hw) (cwV 3 hts gX12_body_X12_figure rfl rfl rfl (by decide +kernel) ⟨Nat.le_of_ble_eq_true rfl, Nat.le_of_ble_eq_true rfl⟩) (va_recv hK hP (ci := 11) (q0 := 0) rfl rfl) hK hP hD hS hA rfl hl.1 rfl (Nat.le_of_ble_eq_true rfl) dX12_body_142 ⟨Nat.zero_le _, Nat.zero_le _⟩ (fun r_27 S_28 H locs hw hP hD hS => ?_)
    exact W.iret (v := r_27) hx hb hr (fun t ht hW => ⟨⟨r_27, S_28, rfl, hw, by rw [ht]; exact hP, va_K.moved hW.alike hK, hD⟩, hS.F ht⟩) hS.2.2 dX12_body_145
  have hw := hw c_5 c_10 c_13 c_18 c_23 c_26 c_29
  have c_5n := lv_neT c_5 (a := 3) (by decide)
  have c_10n := lv_neT c_10 (a := 4) (by decide)
  have c_13n := lv_neT c_13 (a := 5) (by decide)
  have c_18n := lv_neT c_18 (a := 6) (by decide)
  have c_23n := lv_neT c_23 (a := 7) (by decide)
  have c_26n := lv_neT c_26 (a := 8) (by decide)
  have c_29n := lv_neT c_29 (a := 9) (by decide)
  refine lv_tableOut (tgt := 146) hx hb dX12_body_1 (by omega) (by decide) ?_
  refine lv_aload_n hx hb dX12_body_146 rfl (lv_at hl 0 rfl) ?_
  refine lv_iload_n hx hb dX12_body_147 rfl (lv_at hl 2 rfl) ?_
  refine k_callVi (As := [.int p2]) (rest := []) ⟨hx, hb, hml, hown, hts⟩ (cM_lawClause l D h cy _ _ _ hw) (cwV 1 hts gX12_body_X12_lawClause rfl rfl rfl (by decide +kernel) ⟨Nat.le_of_ble_eq_true rfl, Nat.le_of_ble_eq_true rfl⟩) (va_recv hK hP (ci := 11) (q0 := 0) rfl rfl) hK hP hD hS hA rfl hl.1 rfl (Nat.le_of_ble_eq_true rfl) dX12_body_148 ⟨Nat.zero_le _, Nat.zero_le _⟩ (fun r_30 S_31 H locs hw hP hD hS => ?_)
  exact W.iret (v := r_30) hx hb hr (fun t ht hW => ⟨⟨r_30, S_31, rfl, hw, by rw [ht]; exact hP, va_K.moved hW.alike hK, hD⟩, hS.F ht⟩) hS.2.2 dX12_body_151
def wM_sortOf (S : MS) (post : Int32 → MS → Prop) : Prop := wM_w5 101 97 115 101 115 S (fun r_1 S_2 => wM_isWord r_1 S_2 (fun r_3 S_4 => ((r_3 = 0 → wM_w6 108 97 117 103 104 115 S_4 (fun r_6 S_7 => wM_isWord r_6 S_7 (fun r_8 S_9 => ((r_8 = 0 → wM_w5 103 114 111 119 115 S_9 (fun r_11 S_12 => wM_isWord r_11 S_12 (fun r_13 S_14 => ((r_13 = 0 → wM_w5 104 111 117 115 101 S_14 (fun r_16 S_17 => wM_isWord r_16 S_17 (fun r_18 S_19 => ((r_18 = 0 → wM_w5 99 108 111 119 110 S_19 (fun r_21 S_22 => wM_isWord r_21 S_22 (fun r_23 S_24 => ((r_23 = 0 → wM_w4 109 111 111 100 S_24 (fun r_26 S_27 => wM_isWord r_26 S_27 (fun r_28 S_29 => ((r_28 = 0 → wM_w4 115 101 110 100 S_29 (fun r_31 S_32 => wM_isWord r_31 S_32 (fun r_33 S_34 => ((r_33 = 0 → wM_w4 102 97 108 108 S_34 (fun r_36 S_37 => wM_isWord r_36 S_37 (fun r_38 S_39 => ((r_38 = 0 → wM_w4 114 101 115 116 S_39 (fun r_41 S_42 => wM_isWord r_41 S_42 (fun r_43 S_44 => ((r_43 = 0 → wM_w3 100 97 121 S_44 (fun r_46 S_47 => wM_isWord r_46 S_47 (fun r_48 S_49 => ((r_48 = 0 → post (-1) S_49) ∧ (¬ (r_48 = 0) → post 9 S_49))))) ∧ (¬ (r_43 = 0) → post 8 S_44))))) ∧ (¬ (r_38 = 0) → post 7 S_39))))) ∧ (¬ (r_33 = 0) → post 6 S_34))))) ∧ (¬ (r_28 = 0) → post 5 S_29))))) ∧ (¬ (r_23 = 0) → post 4 S_24))))) ∧ (¬ (r_18 = 0) → post 3 S_19))))) ∧ (¬ (r_13 = 0) → post 2 S_14))))) ∧ (¬ (r_8 = 0) → post 1 S_9))))) ∧ (¬ (r_3 = 0) → post 0 S_4))))
set_option maxHeartbeats 4000000 in
set_option maxRecDepth 100000 in
theorem cM_sortOf (l : Launch) (D : va_G) (h : Nat → Nat) (cy : Nat → ClassId) (S : MS) (post : Int32 → MS → Prop) (hw : wM_sortOf S post) : k_Mi l yX12_sortOf wsX12_sortOf { frames := 5, cells := 0, slots := 0, locals := 115 } D (tyM cy) (wM h cy) [.ref (h 31)] S post := by
  intro sz
  refine Met.ofW (cc := cX12_sortOf) (maxL := 1) (ret := (some .int)) (by decide) rfl ?_
  intro p e s m args below meth c s₁ B hml hv
  obtain ⟨rfl, hsz, hP, hK, hD0⟩ := hv
  have hx := B.exec
  have hb := B.bytes
  have hr := B.returns
  have hts := atoms_spec (ws := wsX12_sortOf) B.pre
  have hown : s.vm.findClass RX12 = some m.cls := findClass_of_methodNamed B.named
  have hlocks := B.notSynchronized
  subst hsz
  have hD := hD0.self (sz := s.heap.size)
  generalize hAe : va_A (wM h cy S) s.heap.size = A at hD ⊢
  have hA : ∀ q : Nat, s.heap.size ≤ q → A q := fun q h => by rw [← hAe]; exact Or.inr h
  have hS : va_S A s.heap s.heap [] := va_S.rf
  have hl := lv_entry ([.ref (h 31)]) (n := 1) (Nat.le_of_ble_eq_true rfl)
  rw [lg_entry_eq]
  generalize (lg_sl ([.ref (h 31)]) ++ List.replicate (1 - (lg_sl ([.ref (h 31)])).length) Slot.unset).toArray = ls at hl ⊢
  have hl : lv_has ls 1 [(0, .ref (h 31))] := hl
  unfold wM_sortOf at hw
  clear hD0
  refine lv_aload_n hx hb dX12_sortOf_0 rfl (lv_at hl 0 rfl) ?_
  refine lv_bipush (v := 101) hx hb dX12_sortOf_1 (by decide) ?_
  refine lv_bipush (v := 97) hx hb dX12_sortOf_3 (by decide) ?_
  refine lv_bipush (v := 115) hx hb dX12_sortOf_5 (by decide) ?_
  refine lv_bipush (v := 101) hx hb dX12_sortOf_7 (by decide) ?_
  refine lv_bipush (v := 115) hx hb dX12_sortOf_9 (by decide) ?_
  refine k_callSl (As := [.int 101, .int 97, .int 115, .int 101, .int 115]) (rest := [.ref (h 31)]) ⟨hx, hb, hml, hown, hts⟩ (cM_w5 l D h cy _ _ _ _ _ _ _ hw) (va_cwS 5 hts gX12_sortOf_X12_w5 rfl rfl rfl (by decide +kernel) ⟨Nat.le_of_ble_eq_true rfl, Nat.le_of_ble_eq_true rfl⟩) hK hP hD hS hA rfl hl.1 rfl (Nat.le_of_ble_eq_true rfl) dX12_sortOf_11 ⟨Nat.zero_le _, Nat.zero_le _⟩ (fun r_1 S_2 H locs hw hP hD hS => ?_)
  refine k_callVi (As := [.long r_1]) (rest := []) ⟨hx, hb, hml, hown, hts⟩ (cM_isWord l D h cy _ _ _ hw) (cwV 1 hts gX12_sortOf_X12_isWord rfl rfl rfl (by decide +kernel) ⟨Nat.le_of_ble_eq_true rfl, Nat.le_of_ble_eq_true rfl⟩) (va_recv hK hP (ci := 11) (q0 := 0) rfl rfl) hK hP hD hS hA rfl hl.1 rfl (Nat.le_of_ble_eq_true rfl) dX12_sortOf_14 ⟨Nat.zero_le _, Nat.zero_le _⟩ (fun r_3 S_4 H locs hw hP hD hS => ?_)
  obtain ⟨hc_5t, hc_5f⟩ := hw
  refine lv_if_eq (tgt := 22) hx hb dX12_sortOf_17 (by decide) (fun c_5 => ?_) (fun c_5 => ?_)
  · have hw := hc_5t c_5
    clear hc_5t hc_5f
    refine lv_aload_n hx hb dX12_sortOf_22 rfl (lv_at hl 0 rfl) ?_
    refine lv_bipush (v := 108) hx hb dX12_sortOf_23 (by decide) ?_
    refine lv_bipush (v := 97) hx hb dX12_sortOf_25 (by decide) ?_
    refine lv_bipush (v := 117) hx hb dX12_sortOf_27 (by decide) ?_
    refine lv_bipush (v := 103) hx hb dX12_sortOf_29 (by decide) ?_
    refine lv_bipush (v := 104) hx hb dX12_sortOf_31 (by decide) ?_
    refine lv_bipush (v := 115) hx hb dX12_sortOf_33 (by decide) ?_
    refine k_callSl (As := [.int 108, .int 97, .int 117, .int 103, .int 104, .int 115]) (rest := [.ref (h 31)]) ⟨hx, hb, hml, hown, hts⟩ (cM_w6 l D h cy _ _ _ _ _ _ _ _ hw) (va_cwS 6 hts gX12_sortOf_X12_w6 rfl rfl rfl (by decide +kernel) ⟨Nat.le_of_ble_eq_true rfl, Nat.le_of_ble_eq_true rfl⟩) hK hP hD hS hA rfl hl.1 rfl (Nat.le_of_ble_eq_true rfl) dX12_sortOf_35 ⟨Nat.zero_le _, Nat.zero_le _⟩ (fun r_6 S_7 H locs hw hP hD hS => ?_)
    refine k_callVi (As := [.long r_6]) (rest := []) ⟨hx, hb, hml, hown, hts⟩ (cM_isWord l D h cy _ _ _ hw) (cwV 1 hts gX12_sortOf_X12_isWord rfl rfl rfl (by decide +kernel) ⟨Nat.le_of_ble_eq_true rfl, Nat.le_of_ble_eq_true rfl⟩) (va_recv hK hP (ci := 11) (q0 := 0) rfl rfl) hK hP hD hS hA rfl hl.1 rfl (Nat.le_of_ble_eq_true rfl) dX12_sortOf_38 ⟨Nat.zero_le _, Nat.zero_le _⟩ (fun r_8 S_9 H locs hw hP hD hS => ?_)
    obtain ⟨hc_10t, hc_10f⟩ := hw
    refine lv_if_eq (tgt := 46) hx hb dX12_sortOf_41 (by decide) (fun c_10 => ?_) (fun c_10 => ?_)
    · have hw := hc_10t c_10
      clear hc_10t hc_10f
      refine lv_aload_n hx hb dX12_sortOf_46 rfl (lv_at hl 0 rfl) ?_
      refine lv_bipush (v := 103) hx hb dX12_sortOf_47 (by decide) ?_
      refine lv_bipush (v := 114) hx hb dX12_sortOf_49 (by decide) ?_
      refine lv_bipush (v := 111) hx hb dX12_sortOf_51 (by decide) ?_
      refine lv_bipush (v := 119) hx hb dX12_sortOf_53 (by decide) ?_
      refine lv_bipush (v := 115) hx hb dX12_sortOf_55 (by decide) ?_
      refine k_callSl (As := [.int 103, .int 114, .int 111, .int 119, .int 115]) (rest := [.ref (h 31)]) ⟨hx, hb, hml, hown, hts⟩ (cM_w5 l D h cy _ _ _ _ _ _ _ hw) (va_cwS 5 hts gX12_sortOf_X12_w5 rfl rfl rfl (by decide +kernel) ⟨Nat.le_of_ble_eq_true rfl, Nat.le_of_ble_eq_true rfl⟩) hK hP hD hS hA rfl hl.1 rfl (Nat.le_of_ble_eq_true rfl) dX12_sortOf_57 ⟨Nat.zero_le _, Nat.zero_le _⟩ (fun r_11 S_12 H locs hw hP hD hS => ?_)
      refine k_callVi (As := [.long r_11]) (rest := []) ⟨hx, hb, hml, hown, hts⟩ (cM_isWord l D h cy _ _ _ hw) (cwV 1 hts gX12_sortOf_X12_isWord rfl rfl rfl (by decide +kernel) ⟨Nat.le_of_ble_eq_true rfl, Nat.le_of_ble_eq_true rfl⟩) (va_recv hK hP (ci := 11) (q0 := 0) rfl rfl) hK hP hD hS hA rfl hl.1 rfl (Nat.le_of_ble_eq_true rfl) dX12_sortOf_60 ⟨Nat.zero_le _, Nat.zero_le _⟩ (fun r_13 S_14 H locs hw hP hD hS => ?_)
      obtain ⟨hc_15t, hc_15f⟩ := hw
      refine lv_if_eq (tgt := 68) hx hb dX12_sortOf_63 (by decide) (fun c_15 => ?_) (fun c_15 => ?_)
      · have hw := hc_15t c_15
        clear hc_15t hc_15f
        refine lv_aload_n hx hb dX12_sortOf_68 rfl (lv_at hl 0 rfl) ?_
        refine lv_bipush (v := 104) hx hb dX12_sortOf_69 (by decide) ?_
        refine lv_bipush (v := 111) hx hb dX12_sortOf_71 (by decide) ?_
        refine lv_bipush (v := 117) hx hb dX12_sortOf_73 (by decide) ?_
        refine lv_bipush (v := 115) hx hb dX12_sortOf_75 (by decide) ?_
        refine lv_bipush (v := 101) hx hb dX12_sortOf_77 (by decide) ?_
        refine k_callSl (As := [.int 104, .int 111, .int 117, .int 115, .int 101]) (rest := [.ref (h 31)]) ⟨hx, hb, hml, hown, hts⟩ (cM_w5 l D h cy _ _ _ _ _ _ _ hw) (va_cwS 5 hts gX12_sortOf_X12_w5 rfl rfl rfl (by decide +kernel) ⟨Nat.le_of_ble_eq_true rfl, Nat.le_of_ble_eq_true rfl⟩) hK hP hD hS hA rfl hl.1 rfl (Nat.le_of_ble_eq_true rfl) dX12_sortOf_79 ⟨Nat.zero_le _, Nat.zero_le _⟩ (fun r_16 S_17 H locs hw hP hD hS => ?_)
        refine k_callVi (As := [.long r_16]) (rest := []) ⟨hx, hb, hml, hown, hts⟩ (cM_isWord l D h cy _ _ _ hw) (cwV 1 hts gX12_sortOf_X12_isWord rfl rfl rfl (by decide +kernel) ⟨Nat.le_of_ble_eq_true rfl, Nat.le_of_ble_eq_true rfl⟩) (va_recv hK hP (ci := 11) (q0 := 0) rfl rfl) hK hP hD hS hA rfl hl.1 rfl (Nat.le_of_ble_eq_true rfl) dX12_sortOf_82 ⟨Nat.zero_le _, Nat.zero_le _⟩ (fun r_18 S_19 H locs hw hP hD hS => ?_)
        obtain ⟨hc_20t, hc_20f⟩ := hw
        refine lv_if_eq (tgt := 90) hx hb dX12_sortOf_85 (by decide) (fun c_20 => ?_) (fun c_20 => ?_)
        · have hw := hc_20t c_20
          clear hc_20t hc_20f
          refine lv_aload_n hx hb dX12_sortOf_90 rfl (lv_at hl 0 rfl) ?_
          refine lv_bipush (v := 99) hx hb dX12_sortOf_91 (by decide) ?_
          refine lv_bipush (v := 108) hx hb dX12_sortOf_93 (by decide) ?_
          refine lv_bipush (v := 111) hx hb dX12_sortOf_95 (by decide) ?_
          refine lv_bipush (v := 119) hx hb dX12_sortOf_97 (by decide) ?_
          refine lv_bipush (v := 110) hx hb dX12_sortOf_99 (by decide) ?_
          refine k_callSl (As := [.int 99, .int 108, .int 111, .int 119, .int 110]) (rest := [.ref (h 31)]) ⟨hx, hb, hml, hown, hts⟩ (cM_w5 l D h cy _ _ _ _ _ _ _ hw) (va_cwS 5 hts gX12_sortOf_X12_w5 rfl rfl rfl (by decide +kernel) ⟨Nat.le_of_ble_eq_true rfl, Nat.le_of_ble_eq_true rfl⟩) hK hP hD hS hA rfl hl.1 rfl (Nat.le_of_ble_eq_true rfl) dX12_sortOf_101 ⟨Nat.zero_le _, Nat.zero_le _⟩ (fun r_21 S_22 H locs hw hP hD hS => ?_)
          refine k_callVi (As := [.long r_21]) (rest := []) ⟨hx, hb, hml, hown, hts⟩ (cM_isWord l D h cy _ _ _ hw) (cwV 1 hts gX12_sortOf_X12_isWord rfl rfl rfl (by decide +kernel) ⟨Nat.le_of_ble_eq_true rfl, Nat.le_of_ble_eq_true rfl⟩) (va_recv hK hP (ci := 11) (q0 := 0) rfl rfl) hK hP hD hS hA rfl hl.1 rfl (Nat.le_of_ble_eq_true rfl) dX12_sortOf_104 ⟨Nat.zero_le _, Nat.zero_le _⟩ (fun r_23 S_24 H locs hw hP hD hS => ?_)
          obtain ⟨hc_25t, hc_25f⟩ := hw
          refine lv_if_eq (tgt := 112) hx hb dX12_sortOf_107 (by decide) (fun c_25 => ?_) (fun c_25 => ?_)
          · have hw := hc_25t c_25
            clear hc_25t hc_25f
            refine lv_aload_n hx hb dX12_sortOf_112 rfl (lv_at hl 0 rfl) ?_
            refine lv_bipush (v := 109) hx hb dX12_sortOf_113 (by decide) ?_
            refine lv_bipush (v := 111) hx hb dX12_sortOf_115 (by decide) ?_
            refine lv_bipush (v := 111) hx hb dX12_sortOf_117 (by decide) ?_
            refine lv_bipush (v := 100) hx hb dX12_sortOf_119 (by decide) ?_
            refine k_callSl (As := [.int 109, .int 111, .int 111, .int 100]) (rest := [.ref (h 31)]) ⟨hx, hb, hml, hown, hts⟩ (cM_w4 l D h cy _ _ _ _ _ _ hw) (va_cwS 4 hts gX12_sortOf_X12_w4 rfl rfl rfl (by decide +kernel) ⟨Nat.le_of_ble_eq_true rfl, Nat.le_of_ble_eq_true rfl⟩) hK hP hD hS hA rfl hl.1 rfl (Nat.le_of_ble_eq_true rfl) dX12_sortOf_121 ⟨Nat.zero_le _, Nat.zero_le _⟩ (fun r_26 S_27 H locs hw hP hD hS => ?_)
            refine k_callVi (As := [.long r_26]) (rest := []) ⟨hx, hb, hml, hown, hts⟩ (cM_isWord l D h cy _ _ _ hw) (cwV 1 hts gX12_sortOf_X12_isWord rfl rfl rfl (by decide +kernel) ⟨Nat.le_of_ble_eq_true rfl, Nat.le_of_ble_eq_true rfl⟩) (va_recv hK hP (ci := 11) (q0 := 0) rfl rfl) hK hP hD hS hA rfl hl.1 rfl (Nat.le_of_ble_eq_true rfl) dX12_sortOf_124 ⟨Nat.zero_le _, Nat.zero_le _⟩ (fun r_28 S_29 H locs hw hP hD hS => ?_)
            obtain ⟨hc_30t, hc_30f⟩ := hw
            refine lv_if_eq (tgt := 132) hx hb dX12_sortOf_127 (by decide) (fun c_30 => ?_) (fun c_30 => ?_)
            · have hw := hc_30t c_30
              clear hc_30t hc_30f
              refine lv_aload_n hx hb dX12_sortOf_132 rfl (lv_at hl 0 rfl) ?_
              refine lv_bipush (v := 115) hx hb dX12_sortOf_133 (by decide) ?_
              refine lv_bipush (v := 101) hx hb dX12_sortOf_135 (by decide) ?_
              refine lv_bipush (v := 110) hx hb dX12_sortOf_137 (by decide) ?_
              refine lv_bipush (v := 100) hx hb dX12_sortOf_139 (by decide) ?_
              refine k_callSl (As := [.int 115, .int 101, .int 110, .int 100]) (rest := [.ref (h 31)]) ⟨hx, hb, hml, hown, hts⟩ (cM_w4 l D h cy _ _ _ _ _ _ hw) (va_cwS 4 hts gX12_sortOf_X12_w4 rfl rfl rfl (by decide +kernel) ⟨Nat.le_of_ble_eq_true rfl, Nat.le_of_ble_eq_true rfl⟩) hK hP hD hS hA rfl hl.1 rfl (Nat.le_of_ble_eq_true rfl) dX12_sortOf_141 ⟨Nat.zero_le _, Nat.zero_le _⟩ (fun r_31 S_32 H locs hw hP hD hS => ?_)
              refine k_callVi (As := [.long r_31]) (rest := []) ⟨hx, hb, hml, hown, hts⟩ (cM_isWord l D h cy _ _ _ hw) (cwV 1 hts gX12_sortOf_X12_isWord rfl rfl rfl (by decide +kernel) ⟨Nat.le_of_ble_eq_true rfl, Nat.le_of_ble_eq_true rfl⟩) (va_recv hK hP (ci := 11) (q0 := 0) rfl rfl) hK hP hD hS hA rfl hl.1 rfl (Nat.le_of_ble_eq_true rfl) dX12_sortOf_144 ⟨Nat.zero_le _, Nat.zero_le _⟩ (fun r_33 S_34 H locs hw hP hD hS => ?_)
              obtain ⟨hc_35t, hc_35f⟩ := hw
              refine lv_if_eq (tgt := 153) hx hb dX12_sortOf_147 (by decide) (fun c_35 => ?_) (fun c_35 => ?_)
              · have hw := hc_35t c_35
                clear hc_35t hc_35f
                refine lv_aload_n hx hb dX12_sortOf_153 rfl (lv_at hl 0 rfl) ?_
                refine lv_bipush (v := 102) hx hb dX12_sortOf_154 (by decide) ?_
                refine lv_bipush (v := 97) hx hb dX12_sortOf_156 (by decide) ?_
                refine lv_bipush (v := 108) hx hb dX12_sortOf_158 (by decide) ?_
                refine lv_bipush (v := 108) hx hb dX12_sortOf_160 (by decide) ?_
                refine k_callSl (As := [.int 102, .int 97, .int 108, .int 108]) (rest := [.ref (h 31)]) ⟨hx, hb, hml, hown, hts⟩ (cM_w4 l D h cy _ _ _ _ _ _ hw) (va_cwS 4 hts gX12_sortOf_X12_w4 rfl rfl rfl (by decide +kernel) ⟨Nat.le_of_ble_eq_true rfl, Nat.le_of_ble_eq_true rfl⟩) hK hP hD hS hA rfl hl.1 rfl (Nat.le_of_ble_eq_true rfl) dX12_sortOf_162 ⟨Nat.zero_le _, Nat.zero_le _⟩ (fun r_36 S_37 H locs hw hP hD hS => ?_)
                refine k_callVi (As := [.long r_36]) (rest := []) ⟨hx, hb, hml, hown, hts⟩ (cM_isWord l D h cy _ _ _ hw) (cwV 1 hts gX12_sortOf_X12_isWord rfl rfl rfl (by decide +kernel) ⟨Nat.le_of_ble_eq_true rfl, Nat.le_of_ble_eq_true rfl⟩) (va_recv hK hP (ci := 11) (q0 := 0) rfl rfl) hK hP hD hS hA rfl hl.1 rfl (Nat.le_of_ble_eq_true rfl) dX12_sortOf_165 ⟨Nat.zero_le _, Nat.zero_le _⟩ (fun r_38 S_39 H locs hw hP hD hS => ?_)
                obtain ⟨hc_40t, hc_40f⟩ := hw
                refine lv_if_eq (tgt := 174) hx hb dX12_sortOf_168 (by decide) (fun c_40 => ?_) (fun c_40 => ?_)
                · have hw := hc_40t c_40
                  clear hc_40t hc_40f
                  refine lv_aload_n hx hb dX12_sortOf_174 rfl (lv_at hl 0 rfl) ?_
                  refine lv_bipush (v := 114) hx hb dX12_sortOf_175 (by decide) ?_
                  refine lv_bipush (v := 101) hx hb dX12_sortOf_177 (by decide) ?_
                  refine lv_bipush (v := 115) hx hb dX12_sortOf_179 (by decide) ?_
                  refine lv_bipush (v := 116) hx hb dX12_sortOf_181 (by decide) ?_
                  refine k_callSl (As := [.int 114, .int 101, .int 115, .int 116]) (rest := [.ref (h 31)]) ⟨hx, hb, hml, hown, hts⟩ (cM_w4 l D h cy _ _ _ _ _ _ hw) (va_cwS 4 hts gX12_sortOf_X12_w4 rfl rfl rfl (by decide +kernel) ⟨Nat.le_of_ble_eq_true rfl, Nat.le_of_ble_eq_true rfl⟩) hK hP hD hS hA rfl hl.1 rfl (Nat.le_of_ble_eq_true rfl) dX12_sortOf_183 ⟨Nat.zero_le _, Nat.zero_le _⟩ (fun r_41 S_42 H locs hw hP hD hS => ?_)
                  refine k_callVi (As := [.long r_41]) (rest := []) ⟨hx, hb, hml, hown, hts⟩ (cM_isWord l D h cy _ _ _ hw) (cwV 1 hts gX12_sortOf_X12_isWord rfl rfl rfl (by decide +kernel) ⟨Nat.le_of_ble_eq_true rfl, Nat.le_of_ble_eq_true rfl⟩) (va_recv hK hP (ci := 11) (q0 := 0) rfl rfl) hK hP hD hS hA rfl hl.1 rfl (Nat.le_of_ble_eq_true rfl) dX12_sortOf_186 ⟨Nat.zero_le _, Nat.zero_le _⟩ (fun r_43 S_44 H locs hw hP hD hS => ?_)
                  obtain ⟨hc_45t, hc_45f⟩ := hw
                  refine lv_if_eq (tgt := 197) hx hb dX12_sortOf_189 (by decide) (fun c_45 => ?_) (fun c_45 => ?_)
                  · have hw := hc_45t c_45
                    clear hc_45t hc_45f
                    refine lv_aload_n hx hb dX12_sortOf_197 rfl (lv_at hl 0 rfl) ?_
                    refine lv_bipush (v := 100) hx hb dX12_sortOf_198 (by decide) ?_
                    refine lv_bipush (v := 97) hx hb dX12_sortOf_200 (by decide) ?_
                    refine lv_bipush (v := 121) hx hb dX12_sortOf_202 (by decide) ?_
                    refine k_callSl (As := [.int 100, .int 97, .int 121]) (rest := [.ref (h 31)]) ⟨hx, hb, hml, hown, hts⟩ (cM_w3 l D h cy _ _ _ _ _ hw) (va_cwS 3 hts gX12_sortOf_X12_w3 rfl rfl rfl (by decide +kernel) ⟨Nat.le_of_ble_eq_true rfl, Nat.le_of_ble_eq_true rfl⟩) hK hP hD hS hA rfl hl.1 rfl (Nat.le_of_ble_eq_true rfl) dX12_sortOf_204 ⟨Nat.zero_le _, Nat.zero_le _⟩ (fun r_46 S_47 H locs hw hP hD hS => ?_)
                    refine k_callVi (As := [.long r_46]) (rest := []) ⟨hx, hb, hml, hown, hts⟩ (cM_isWord l D h cy _ _ _ hw) (cwV 1 hts gX12_sortOf_X12_isWord rfl rfl rfl (by decide +kernel) ⟨Nat.le_of_ble_eq_true rfl, Nat.le_of_ble_eq_true rfl⟩) (va_recv hK hP (ci := 11) (q0 := 0) rfl rfl) hK hP hD hS hA rfl hl.1 rfl (Nat.le_of_ble_eq_true rfl) dX12_sortOf_207 ⟨Nat.zero_le _, Nat.zero_le _⟩ (fun r_48 S_49 H locs hw hP hD hS => ?_)
                    obtain ⟨hc_50t, hc_50f⟩ := hw
                    refine lv_if_eq (tgt := 218) hx hb dX12_sortOf_210 (by decide) (fun c_50 => ?_) (fun c_50 => ?_)
                    · have hw := hc_50t c_50
                      clear hc_50t hc_50f
                      refine lv_iconst (v := (-1)) hx hb dX12_sortOf_218 (by decide) ?_
                      exact W.iret (v := (-1)) hx hb hr (fun t ht hW => ⟨⟨(-1), S_49, rfl, hw, by rw [ht]; exact hP, va_K.moved hW.alike hK, hD⟩, hS.F ht⟩) hS.2.2 dX12_sortOf_219
                    · have hw := hc_50f c_50
                      clear hc_50t hc_50f
                      refine lv_bipush (v := 9) hx hb dX12_sortOf_213 (by decide) ?_
                      refine lv_goto (tgt := 219) hx hb dX12_sortOf_215 (by decide) ?_
                      exact W.iret (v := 9) hx hb hr (fun t ht hW => ⟨⟨9, S_49, rfl, hw, by rw [ht]; exact hP, va_K.moved hW.alike hK, hD⟩, hS.F ht⟩) hS.2.2 dX12_sortOf_219
                  · have hw := hc_45f c_45
                    clear hc_45t hc_45f
                    refine lv_bipush (v := 8) hx hb dX12_sortOf_192 (by decide) ?_
                    refine lv_goto (tgt := 219) hx hb dX12_sortOf_194 (by decide) ?_
                    exact W.iret (v := 8) hx hb hr (fun t ht hW => ⟨⟨8, S_44, rfl, hw, by rw [ht]; exact hP, va_K.moved hW.alike hK, hD⟩, hS.F ht⟩) hS.2.2 dX12_sortOf_219
                · have hw := hc_40f c_40
                  clear hc_40t hc_40f
                  refine lv_bipush (v := 7) hx hb dX12_sortOf_171 (by decide) ?_
                  exact W.iret (v := 7) hx hb hr (fun t ht hW => ⟨⟨7, S_39, rfl, hw, by rw [ht]; exact hP, va_K.moved hW.alike hK, hD⟩, hS.F ht⟩) hS.2.2 dX12_sortOf_173
              · have hw := hc_35f c_35
                clear hc_35t hc_35f
                refine lv_bipush (v := 6) hx hb dX12_sortOf_150 (by decide) ?_
                exact W.iret (v := 6) hx hb hr (fun t ht hW => ⟨⟨6, S_34, rfl, hw, by rw [ht]; exact hP, va_K.moved hW.alike hK, hD⟩, hS.F ht⟩) hS.2.2 dX12_sortOf_152
            · have hw := hc_30f c_30
              clear hc_30t hc_30f
              refine lv_iconst (v := 5) hx hb dX12_sortOf_130 (by decide) ?_
              exact W.iret (v := 5) hx hb hr (fun t ht hW => ⟨⟨5, S_29, rfl, hw, by rw [ht]; exact hP, va_K.moved hW.alike hK, hD⟩, hS.F ht⟩) hS.2.2 dX12_sortOf_131
          · have hw := hc_25f c_25
            clear hc_25t hc_25f
            refine lv_iconst (v := 4) hx hb dX12_sortOf_110 (by decide) ?_
            exact W.iret (v := 4) hx hb hr (fun t ht hW => ⟨⟨4, S_24, rfl, hw, by rw [ht]; exact hP, va_K.moved hW.alike hK, hD⟩, hS.F ht⟩) hS.2.2 dX12_sortOf_111
        · have hw := hc_20f c_20
          clear hc_20t hc_20f
          refine lv_iconst (v := 3) hx hb dX12_sortOf_88 (by decide) ?_
          exact W.iret (v := 3) hx hb hr (fun t ht hW => ⟨⟨3, S_19, rfl, hw, by rw [ht]; exact hP, va_K.moved hW.alike hK, hD⟩, hS.F ht⟩) hS.2.2 dX12_sortOf_89
      · have hw := hc_15f c_15
        clear hc_15t hc_15f
        refine lv_iconst (v := 2) hx hb dX12_sortOf_66 (by decide) ?_
        exact W.iret (v := 2) hx hb hr (fun t ht hW => ⟨⟨2, S_14, rfl, hw, by rw [ht]; exact hP, va_K.moved hW.alike hK, hD⟩, hS.F ht⟩) hS.2.2 dX12_sortOf_67
    · have hw := hc_10f c_10
      clear hc_10t hc_10f
      refine lv_iconst (v := 1) hx hb dX12_sortOf_44 (by decide) ?_
      exact W.iret (v := 1) hx hb hr (fun t ht hW => ⟨⟨1, S_9, rfl, hw, by rw [ht]; exact hP, va_K.moved hW.alike hK, hD⟩, hS.F ht⟩) hS.2.2 dX12_sortOf_45
  · have hw := hc_5f c_5
    clear hc_5t hc_5f
    refine lv_iconst (v := 0) hx hb dX12_sortOf_20 (by decide) ?_
    exact W.iret (v := 0) hx hb hr (fun t ht hW => ⟨⟨0, S_4, rfl, hw, by rw [ht]; exact hP, va_K.moved hW.alike hK, hD⟩, hS.F ht⟩) hS.2.2 dX12_sortOf_21
def wM_clause_65 (post : Int32 → MS → Prop) (x1 : Int32) (x2 : Int32) (S : MS) : Prop := (∀ S_1 : MS, S_1 = (ms_set_sort0 S x1) → wM_nextToken S_1 (fun S_3 => (vp_in (((ms_text0 S_3) + 1) + (4 * x2)) 2820 ∧ ∀ S_4 : MS, S_4 = (ms_set_texts S_3 (upd (ms_texts S_3) ((((ms_text0 S_3) + 1) + (4 * x2)).toNatClampNeg) x1)) → wM_body x1 (((ms_text0 S_3) + 1) + (4 * x2)) S_4 (fun r_5 S_6 => ((r_5 = 0 → (vp_in (ms_text0 S_6) 2820 ∧ (vp_in (ms_text0 S_6) 2820 ∧ ∀ S_8 : MS, S_8 = (ms_set_texts S_6 (upd (ms_texts S_6) ((ms_text0 S_6).toNatClampNeg) (((ms_texts S_6) (ms_text0 S_6).toNatClampNeg) + 1))) → (((ms_token S_8) = 59 → wM_nextToken S_8 (fun S_11 => post 0 S_11)) ∧ (¬ ((ms_token S_8) = 59) → post 1 S_8))))) ∧ (¬ (r_5 = 0) → post r_5 S_6))))))
def wM_clause_29 (post : Int32 → MS → Prop) (x1 : Int32) (S : MS) : Prop := (vp_in (ms_text0 S) 2820 ∧ ((((ms_texts S) (ms_text0 S).toNatClampNeg) = 24 → post 6 S) ∧ (¬ (((ms_texts S) (ms_text0 S).toNatClampNeg) = 24) → ((2 < x1 → wM_clause_65 post x1 ((ms_texts S) (ms_text0 S).toNatClampNeg) S) ∧ (¬ (2 < x1) → (∀ S_3 : MS, S_3 = (ms_set_once S ((ms_once S) ||| (k_shl 1 x1))) → wM_clause_65 post x1 ((ms_texts S) (ms_text0 S).toNatClampNeg) S_3))))))
def wM_clause (S : MS) (post : Int32 → MS → Prop) : Prop := wM_sortOf S (fun r_1 S_2 => ((0 ≤ r_1 → ((2 < r_1 → wM_clause_29 post r_1 S_2) ∧ (¬ (2 < r_1) → wM_has (ms_once S_2) r_1 S_2 (fun r_5 S_6 => ((r_5 = 0 → wM_clause_29 post r_1 S_6) ∧ (¬ (r_5 = 0) → post 4 S_6)))))) ∧ (¬ (0 ≤ r_1) → post 1 S_2)))
set_option maxHeartbeats 4000000 in
set_option maxRecDepth 100000 in
theorem cM_clause (l : Launch) (D : va_G) (h : Nat → Nat) (cy : Nat → ClassId) (S : MS) (post : Int32 → MS → Prop) (hw : wM_clause S post) : k_Mi l yX12_clause wsX12_clause { frames := 9, cells := 0, slots := 0, locals := 196 } D (tyM cy) (wM h cy) [.ref (h 31)] S post := by
  intro sz
  refine Met.ofW (cc := cX12_clause) (maxL := 5) (ret := (some .int)) (by decide) rfl ?_
  intro p e s m args below meth c s₁ B hml hv
  obtain ⟨rfl, hsz, hP, hK, hD0⟩ := hv
  have hx := B.exec
  have hb := B.bytes
  have hr := B.returns
  have hts := atoms_spec (ws := wsX12_clause) B.pre
  have hown : s.vm.findClass RX12 = some m.cls := findClass_of_methodNamed B.named
  have hlocks := B.notSynchronized
  subst hsz
  have hD := hD0.self (sz := s.heap.size)
  generalize hAe : va_A (wM h cy S) s.heap.size = A at hD ⊢
  have hA : ∀ q : Nat, s.heap.size ≤ q → A q := fun q h => by rw [← hAe]; exact Or.inr h
  have hS : va_S A s.heap s.heap [] := va_S.rf
  have hin : ∀ w ∈ wsX120, w ∈ wsX12_clause := fun _ h => List.mem_cons_of_mem _ (List.mem_append_right _ h)
  have w16 := hts (.fieldLink RX12 16 "ClownsMournModel" "texts" "[I") (List.mem_of_getElem? (i := 2) rfl)
  have w113 := hts (.fieldLink RX12 113 "ClownsMournModel" "token" "I") (List.mem_of_getElem? (i := 5) rfl)
  have w151 := hts (.fieldLink RX12 151 "ClownsMournModel" "text0" "I") (List.mem_of_getElem? (i := 3) rfl)
  have w161 := hts (.fieldLink RX12 161 "ClownsMournModel" "sort0" "I") (List.mem_of_getElem? (i := 4) rfl)
  have w259 := hts (.fieldLink RX12 259 "ClownsMournModel" "once" "I") (List.mem_of_getElem? (i := 1) rfl)
  have hl := lv_entry ([.ref (h 31)]) (n := 5) (Nat.le_of_ble_eq_true rfl)
  rw [lg_entry_eq]
  generalize (lg_sl ([.ref (h 31)]) ++ List.replicate (5 - (lg_sl ([.ref (h 31)])).length) Slot.unset).toArray = ls at hl ⊢
  have hl : lv_has ls 5 [(0, .ref (h 31))] := hl
  unfold wM_clause at hw
  clear hD0
  have J_65 : ∀ (x1 : Int32) (x2 : Int32) (S : MS) (H : Heap) (locs : List Loc) (ls : Array Slot), wM_clause_65 post x1 x2 S → va_P D vwCl (wM h cy S) H → va_D A (wM h cy S) → va_S A s.heap H locs → lv_has ls 5 [(0, .ref (h 31)), (1, .int x1), (2, .int x2)] → W p l e (headSpec wsX12_clause { frames := 9, cells := 0, slots := 0, locals := 196 }).room s m (([.ref (h 31)] : List Value).toArray) below meth c H locs 0 0 (MQ below (va_Qi post (k_Post D (tyM cy) (wM h cy) A) A) (([.ref (h 31)] : List Value).toArray) s 0 0 A) (F0 m 65 ls []) := by
    intro x1 x2 S H locs ls hw hP hD hS hl
    unfold wM_clause_65 at hw
    refine lv_aload_n hx hb dX12_clause_65 rfl (lv_at hl 0 rfl) ?_
    refine lv_iload_n hx hb dX12_clause_66 rfl (lv_at hl 1 rfl) ?_
    refine va_put (D := D) (ci := 11) (v := .int x1) (ty := .int) (C := RX12) (T := TX12) (N := 31) hx hb hts hin tyX12 tyX12_ok nmX12 hown hK hP hD hS 0 rfl rfl 14 (by decide) w161 (fun _ h9 => h9) rfl (tyX12_ok 14 (by decide)) rfl rfl (Nat.le_of_ble_eq_true rfl) dX12_clause_67 (fun H locs hP hD hS => ?_)
    obtain ⟨S_1, eS_1⟩ : ∃ z : MS, z = (ms_set_sort0 S x1) := ⟨_, rfl⟩
    have hw := hw S_1 eS_1
    have hP : va_P D vwCl (wM h cy S_1) H := by rw [eS_1, ← wMp_sort0]; exact hP
    have hD : va_D A (wM h cy S_1) := by rw [eS_1, ← wMp_sort0]; exact hD
    refine lv_aload_n hx hb dX12_clause_70 rfl (lv_at hl 0 rfl) ?_
    refine k_callVv (As := []) (rest := []) ⟨hx, hb, hml, hown, hts⟩ (cM_nextToken l D h cy _ _ hw) (cwV 0 hts gX12_clause_X12_nextToken rfl rfl rfl (by decide +kernel) ⟨Nat.le_of_ble_eq_true rfl, Nat.le_of_ble_eq_true rfl⟩) (va_recv hK hP (ci := 11) (q0 := 0) rfl rfl) hK hP hD hS hA rfl hl.1 rfl (Nat.le_of_ble_eq_true rfl) dX12_clause_71 ⟨Nat.zero_le _, Nat.zero_le _⟩ (fun S_3 H locs hw hP hD hS => ?_)
    refine lv_aload_n hx hb dX12_clause_74 rfl (lv_at hl 0 rfl) ?_
    refine va_get (D := D) (ci := 11) (v := .int (ms_text0 S_3)) (C := RX12) (T := TX12) (N := 31) hx hb hts hin hown hK hP 0 rfl rfl 12 (by decide) w151 (fun _ h9 => h9) rfl dX12_clause_75 ?_
    refine lv_iconst (v := 1) hx hb dX12_clause_78 (by decide) ?_
    refine lv_iadd hx hb dX12_clause_79 ?_
    refine lv_iconst (v := 4) hx hb dX12_clause_80 (by decide) ?_
    refine lv_iload_n hx hb dX12_clause_81 rfl (lv_at hl 2 rfl) ?_
    refine lv_imul hx hb dX12_clause_82 ?_
    refine lv_iadd hx hb dX12_clause_83 ?_
    refine lv_istore_n (lv' := [(3, .int (((ms_text0 S_3) + 1) + (4 * x2))), (0, .ref (h 31)), (1, .int x1), (2, .int x2)]) hx hb dX12_clause_84 rfl hl (by decide) rfl (fun ls hl => ?_)
    refine lv_aload_n hx hb dX12_clause_85 rfl (lv_at hl 1 rfl) ?_
    refine va_get (D := D) (ci := 11) (v := .ref (h 2)) (C := RX12) (T := TX12) (N := 31) hx hb hts hin hown hK hP 0 rfl rfl 2 (by decide) w16 (fun _ h9 => h9) rfl dX12_clause_86 ?_
    refine lv_iload_n hx hb dX12_clause_89 rfl (lv_at hl 0 rfl) ?_
    refine lv_iload_n hx hb dX12_clause_90 rfl (lv_at hl 2 rfl) ?_
    obtain ⟨hi_14, hw⟩ := hw
    refine va_iast (f := (ms_texts S_3)) hx hb hK hP hD hS 3 2 rfl rfl hi_14 dX12_clause_91 (fun H locs hP hD hS => ?_)
    obtain ⟨S_4, eS_4⟩ : ∃ z : MS, z = (ms_set_texts S_3 (upd (ms_texts S_3) ((((ms_text0 S_3) + 1) + (4 * x2)).toNatClampNeg) x1)) := ⟨_, rfl⟩
    have hw := hw S_4 eS_4
    have hP : va_P D vwCl (wM h cy S_4) H := by rw [eS_4, ← wMs_texts]; exact hP
    have hD : va_D A (wM h cy S_4) := by rw [eS_4, ← wMs_texts]; exact hD
    refine lv_aload_n hx hb dX12_clause_92 rfl (lv_at hl 1 rfl) ?_
    refine lv_iload_n hx hb dX12_clause_93 rfl (lv_at hl 2 rfl) ?_
    refine lv_iload_n hx hb dX12_clause_94 rfl (lv_at hl 0 rfl) ?_
    refine k_callVi (As := [.int x1, .int (((ms_text0 S_3) + 1) + (4 * x2))]) (rest := []) ⟨hx, hb, hml, hown, hts⟩ (cM_body l D h cy _ _ _ _ hw) (cwV 2 hts gX12_clause_X12_body rfl rfl rfl (by decide +kernel) ⟨Nat.le_of_ble_eq_true rfl, Nat.le_of_ble_eq_true rfl⟩) (va_recv hK hP (ci := 11) (q0 := 0) rfl rfl) hK hP hD hS hA rfl hl.1 rfl (Nat.le_of_ble_eq_true rfl) dX12_clause_95 ⟨Nat.zero_le _, Nat.zero_le _⟩ (fun r_5 S_6 H locs hw hP hD hS => ?_)
    refine lv_istore (lv' := [(4, .int r_5), (3, .int (((ms_text0 S_3) + 1) + (4 * x2))), (0, .ref (h 31)), (1, .int x1), (2, .int x2)]) hx hb dX12_clause_98 hl (by decide) rfl (fun ls hl => ?_)
    refine lv_iload hx hb dX12_clause_100 (lv_at hl 0 rfl) ?_
    obtain ⟨hc_7t, hc_7f⟩ := hw
    refine lv_if_eq (tgt := 108) hx hb dX12_clause_102 (by decide) (fun c_7 => ?_) (fun c_7 => ?_)
    · have hw := hc_7t c_7
      clear hc_7t hc_7f
      refine lv_aload_n hx hb dX12_clause_108 rfl (lv_at hl 2 rfl) ?_
      refine va_get (D := D) (ci := 11) (v := .ref (h 2)) (C := RX12) (T := TX12) (N := 31) hx hb hts hin hown hK hP 0 rfl rfl 2 (by decide) w16 (fun _ h9 => h9) rfl dX12_clause_109 ?_
      refine lv_aload_n hx hb dX12_clause_112 rfl (lv_at hl 2 rfl) ?_
      refine va_get (D := D) (ci := 11) (v := .int (ms_text0 S_6)) (C := RX12) (T := TX12) (N := 31) hx hb hts hin hown hK hP 0 rfl rfl 12 (by decide) w151 (fun _ h9 => h9) rfl dX12_clause_113 ?_
      refine lv_dup2_11 hx hb dX12_clause_116 rfl rfl ?_
      obtain ⟨hi_13, hw⟩ := hw
      refine va_iald (f := (ms_texts S_6)) hx hb hK hP 3 2 rfl rfl hi_13 dX12_clause_117 ?_
      refine lv_iconst (v := 1) hx hb dX12_clause_118 (by decide) ?_
      refine lv_iadd hx hb dX12_clause_119 ?_
      obtain ⟨hi_12, hw⟩ := hw
      refine va_iast (f := (ms_texts S_6)) hx hb hK hP hD hS 3 2 rfl rfl hi_12 dX12_clause_120 (fun H locs hP hD hS => ?_)
      obtain ⟨S_8, eS_8⟩ : ∃ z : MS, z = (ms_set_texts S_6 (upd (ms_texts S_6) ((ms_text0 S_6).toNatClampNeg) (((ms_texts S_6) (ms_text0 S_6).toNatClampNeg) + 1))) := ⟨_, rfl⟩
      have hw := hw S_8 eS_8
      have hP : va_P D vwCl (wM h cy S_8) H := by rw [eS_8, ← wMs_texts]; exact hP
      have hD : va_D A (wM h cy S_8) := by rw [eS_8, ← wMs_texts]; exact hD
      refine lv_aload_n hx hb dX12_clause_121 rfl (lv_at hl 2 rfl) ?_
      refine va_get (D := D) (ci := 11) (v := .int (ms_token S_8)) (C := RX12) (T := TX12) (N := 31) hx hb hts hin hown hK hP 0 rfl rfl 9 (by decide) w113 (fun _ h9 => h9) rfl dX12_clause_122 ?_
      refine lv_bipush (v := 59) hx hb dX12_clause_125 (by decide) ?_
      obtain ⟨hc_9t, hc_9f⟩ := hw
      refine lv_icmp_eq (tgt := 132) hx hb dX12_clause_127 (by decide) (fun c_9 => ?_) (fun c_9 => ?_)
      · have hw := hc_9t c_9
        clear hc_9t hc_9f
        refine lv_aload_n hx hb dX12_clause_132 rfl (lv_at hl 2 rfl) ?_
        refine k_callVv (As := []) (rest := []) ⟨hx, hb, hml, hown, hts⟩ (cM_nextToken l D h cy _ _ hw) (cwV 0 hts gX12_clause_X12_nextToken rfl rfl rfl (by decide +kernel) ⟨Nat.le_of_ble_eq_true rfl, Nat.le_of_ble_eq_true rfl⟩) (va_recv hK hP (ci := 11) (q0 := 0) rfl rfl) hK hP hD hS hA rfl hl.1 rfl (Nat.le_of_ble_eq_true rfl) dX12_clause_133 ⟨Nat.zero_le _, Nat.zero_le _⟩ (fun S_11 H locs hw hP hD hS => ?_)
        refine lv_iconst (v := 0) hx hb dX12_clause_136 (by decide) ?_
        exact W.iret (v := 0) hx hb hr (fun t ht hW => ⟨⟨0, S_11, rfl, hw, by rw [ht]; exact hP, va_K.moved hW.alike hK, hD⟩, hS.F ht⟩) hS.2.2 dX12_clause_137
      · have hw := hc_9f c_9
        clear hc_9t hc_9f
        refine lv_iconst (v := 1) hx hb dX12_clause_130 (by decide) ?_
        exact W.iret (v := 1) hx hb hr (fun t ht hW => ⟨⟨1, S_8, rfl, hw, by rw [ht]; exact hP, va_K.moved hW.alike hK, hD⟩, hS.F ht⟩) hS.2.2 dX12_clause_131
    · have hw := hc_7f c_7
      clear hc_7t hc_7f
      refine lv_iload hx hb dX12_clause_105 (lv_at hl 0 rfl) ?_
      exact W.iret (v := r_5) hx hb hr (fun t ht hW => ⟨⟨r_5, S_6, rfl, hw, by rw [ht]; exact hP, va_K.moved hW.alike hK, hD⟩, hS.F ht⟩) hS.2.2 dX12_clause_107
  have J_29 : ∀ (x1 : Int32) (S : MS) (H : Heap) (locs : List Loc) (ls : Array Slot), wM_clause_29 post x1 S → va_P D vwCl (wM h cy S) H → va_D A (wM h cy S) → va_S A s.heap H locs → lv_has ls 5 [(0, .ref (h 31)), (1, .int x1)] → W p l e (headSpec wsX12_clause { frames := 9, cells := 0, slots := 0, locals := 196 }).room s m (([.ref (h 31)] : List Value).toArray) below meth c H locs 0 0 (MQ below (va_Qi post (k_Post D (tyM cy) (wM h cy) A) A) (([.ref (h 31)] : List Value).toArray) s 0 0 A) (F0 m 29 ls []) := by
    intro x1 S H locs ls hw hP hD hS hl
    unfold wM_clause_29 at hw
    refine lv_aload_n hx hb dX12_clause_29 rfl (lv_at hl 0 rfl) ?_
    refine va_get (D := D) (ci := 11) (v := .ref (h 2)) (C := RX12) (T := TX12) (N := 31) hx hb hts hin hown hK hP 0 rfl rfl 2 (by decide) w16 (fun _ h9 => h9) rfl dX12_clause_30 ?_
    refine lv_aload_n hx hb dX12_clause_33 rfl (lv_at hl 0 rfl) ?_
    refine va_get (D := D) (ci := 11) (v := .int (ms_text0 S)) (C := RX12) (T := TX12) (N := 31) hx hb hts hin hown hK hP 0 rfl rfl 12 (by decide) w151 (fun _ h9 => h9) rfl dX12_clause_34 ?_
    obtain ⟨hi_18, hw⟩ := hw
    refine va_iald (f := (ms_texts S)) hx hb hK hP 3 2 rfl rfl hi_18 dX12_clause_37 ?_
    refine lv_istore_n (lv' := [(2, .int ((ms_texts S) (ms_text0 S).toNatClampNeg)), (0, .ref (h 31)), (1, .int x1)]) hx hb dX12_clause_38 rfl hl (by decide) rfl (fun ls hl => ?_)
    refine lv_iload_n hx hb dX12_clause_39 rfl (lv_at hl 0 rfl) ?_
    refine lv_bipush (v := 24) hx hb dX12_clause_40 (by decide) ?_
    obtain ⟨hc_15t, hc_15f⟩ := hw
    refine lv_icmp_ne (tgt := 48) hx hb dX12_clause_42 (by decide) (fun c_15 => ?_) (fun c_15 => ?_)
    · have hw := hc_15f c_15
      clear hc_15t hc_15f
      refine lv_iload_n hx hb dX12_clause_48 rfl (lv_at hl 2 rfl) ?_
      refine lv_iconst (v := 2) hx hb dX12_clause_49 (by decide) ?_
      obtain ⟨hc_16t, hc_16f⟩ := hw
      refine lv_icmp_gt (tgt := 65) hx hb dX12_clause_50 (by decide) (fun c_16 => ?_) (fun c_16 => ?_)
      · have hw := hc_16t c_16
        clear hc_16t hc_16f
        exact J_65 x1 ((ms_texts S) (ms_text0 S).toNatClampNeg) S _ _ _ hw hP hD hS (lv_sub hl [1, 2, 0] rfl)
      · have hw := hc_16f c_16
        clear hc_16t hc_16f
        refine lv_aload_n hx hb dX12_clause_53 rfl (lv_at hl 1 rfl) ?_
        refine lv_dup hx hb dX12_clause_54 rfl ?_
        refine va_get (D := D) (ci := 11) (v := .int (ms_once S)) (C := RX12) (T := TX12) (N := 31) hx hb hts hin hown hK hP 0 rfl rfl 19 (by decide) w259 (fun _ h9 => h9) rfl dX12_clause_55 ?_
        refine lv_iconst (v := 1) hx hb dX12_clause_58 (by decide) ?_
        refine lv_iload_n hx hb dX12_clause_59 rfl (lv_at hl 2 rfl) ?_
        refine k_ishl hx hb dX12_clause_60 ?_
        refine lv_ior hx hb dX12_clause_61 ?_
        refine va_put (D := D) (ci := 11) (v := .int ((ms_once S) ||| (k_shl 1 x1))) (ty := .int) (C := RX12) (T := TX12) (N := 31) hx hb hts hin tyX12 tyX12_ok nmX12 hown hK hP hD hS 0 rfl rfl 19 (by decide) w259 (fun _ h9 => h9) rfl (tyX12_ok 19 (by decide)) rfl rfl (Nat.le_of_ble_eq_true rfl) dX12_clause_62 (fun H locs hP hD hS => ?_)
        obtain ⟨S_17, eS_17⟩ : ∃ z : MS, z = (ms_set_once S ((ms_once S) ||| (k_shl 1 x1))) := ⟨_, rfl⟩
        have hw := hw S_17 eS_17
        have hP : va_P D vwCl (wM h cy S_17) H := by rw [eS_17, ← wMp_once]; exact hP
        have hD : va_D A (wM h cy S_17) := by rw [eS_17, ← wMp_once]; exact hD
        exact J_65 x1 ((ms_texts S) (ms_text0 S).toNatClampNeg) S_17 _ _ _ hw hP hD hS (lv_sub hl [1, 2, 0] rfl)
    · have hw := hc_15t c_15
      clear hc_15t hc_15f
      refine lv_bipush (v := 6) hx hb dX12_clause_45 (by decide) ?_
      exact W.iret (v := 6) hx hb hr (fun t ht hW => ⟨⟨6, S, rfl, hw, by rw [ht]; exact hP, va_K.moved hW.alike hK, hD⟩, hS.F ht⟩) hS.2.2 dX12_clause_47
  refine lv_aload_n hx hb dX12_clause_0 rfl (lv_at hl 0 rfl) ?_
  refine k_callVi (As := []) (rest := []) ⟨hx, hb, hml, hown, hts⟩ (cM_sortOf l D h cy _ _ hw) (cwV 0 hts gX12_clause_X12_sortOf rfl rfl rfl (by decide +kernel) ⟨Nat.le_of_ble_eq_true rfl, Nat.le_of_ble_eq_true rfl⟩) (va_recv hK hP (ci := 11) (q0 := 0) rfl rfl) hK hP hD hS hA rfl hl.1 rfl (Nat.le_of_ble_eq_true rfl) dX12_clause_1 ⟨Nat.zero_le _, Nat.zero_le _⟩ (fun r_19 S_20 H locs hw hP hD hS => ?_)
  refine lv_istore_n (lv' := [(1, .int r_19), (0, .ref (h 31))]) hx hb dX12_clause_4 rfl hl (by decide) rfl (fun ls hl => ?_)
  refine lv_iload_n hx hb dX12_clause_5 rfl (lv_at hl 0 rfl) ?_
  obtain ⟨hc_21t, hc_21f⟩ := hw
  refine lv_if_ge (tgt := 11) hx hb dX12_clause_6 (by decide) (fun c_21 => ?_) (fun c_21 => ?_)
  · have hw := hc_21t c_21
    clear hc_21t hc_21f
    refine lv_iload_n hx hb dX12_clause_11 rfl (lv_at hl 0 rfl) ?_
    refine lv_iconst (v := 2) hx hb dX12_clause_12 (by decide) ?_
    obtain ⟨hc_22t, hc_22f⟩ := hw
    refine lv_icmp_gt (tgt := 29) hx hb dX12_clause_13 (by decide) (fun c_22 => ?_) (fun c_22 => ?_)
    · have hw := hc_22t c_22
      clear hc_22t hc_22f
      exact J_29 r_19 S_20 _ _ _ hw hP hD hS (lv_sub hl [1, 0] rfl)
    · have hw := hc_22f c_22
      clear hc_22t hc_22f
      refine lv_aload_n hx hb dX12_clause_16 rfl (lv_at hl 1 rfl) ?_
      refine va_get (D := D) (ci := 11) (v := .int (ms_once S_20)) (C := RX12) (T := TX12) (N := 31) hx hb hts hin hown hK hP 0 rfl rfl 19 (by decide) w259 (fun _ h9 => h9) rfl dX12_clause_17 ?_
      refine lv_iload_n hx hb dX12_clause_20 rfl (lv_at hl 0 rfl) ?_
      refine k_callSi (As := [.int (ms_once S_20), .int r_19]) (rest := []) ⟨hx, hb, hml, hown, hts⟩ (cM_has l D h cy _ _ _ _ hw) (va_cwS 2 hts gX12_clause_X12_has rfl rfl rfl (by decide +kernel) ⟨Nat.le_of_ble_eq_true rfl, Nat.le_of_ble_eq_true rfl⟩) hK hP hD hS hA rfl hl.1 rfl (Nat.le_of_ble_eq_true rfl) dX12_clause_21 ⟨Nat.zero_le _, Nat.zero_le _⟩ (fun r_23 S_24 H locs hw hP hD hS => ?_)
      obtain ⟨hc_25t, hc_25f⟩ := hw
      refine lv_if_eq (tgt := 29) hx hb dX12_clause_24 (by decide) (fun c_25 => ?_) (fun c_25 => ?_)
      · have hw := hc_25t c_25
        clear hc_25t hc_25f
        exact J_29 r_19 S_24 _ _ _ hw hP hD hS (lv_sub hl [1, 0] rfl)
      · have hw := hc_25f c_25
        clear hc_25t hc_25f
        refine lv_iconst (v := 4) hx hb dX12_clause_27 (by decide) ?_
        exact W.iret (v := 4) hx hb hr (fun t ht hW => ⟨⟨4, S_24, rfl, hw, by rw [ht]; exact hP, va_K.moved hW.alike hK, hD⟩, hS.F ht⟩) hS.2.2 dX12_clause_28
  · have hw := hc_21f c_21
    clear hc_21t hc_21f
    refine lv_iconst (v := 1) hx hb dX12_clause_9 (by decide) ?_
    exact W.iret (v := 1) hx hb hr (fun t ht hW => ⟨⟨1, S_20, rfl, hw, by rw [ht]; exact hP, va_K.moved hW.alike hK, hD⟩, hS.F ht⟩) hS.2.2 dX12_clause_10
def wM_readText_43 (post : Int32 → MS → Prop) : Nat → MS → Prop
  | 0, _ => False
  | n + 1, S => (((ms_token S) = 0 → post 0 S) ∧ (¬ ((ms_token S) = 0) → wM_clause S (fun r_2 S_3 => ((r_2 = 0 → wM_readText_43 post n S_3) ∧ (¬ (r_2 = 0) → post r_2 S_3)))))
def wM_readText (S : MS) (post : Int32 → MS → Prop) : Prop := (∀ S_1 : MS, S_1 = (ms_set_text0 S (705 * ((ms_a S) 2))) → (vp_in (ms_text0 S_1) 2820 ∧ ∀ S_2 : MS, S_2 = (ms_set_texts S_1 (upd (ms_texts S_1) ((ms_text0 S_1).toNatClampNeg) 0)) → (∀ S_3 : MS, S_3 = (ms_set_written S_2 0) → (∀ S_4 : MS, S_4 = (ms_set_once S_3 0) → (∀ S_5 : MS, S_5 = (ms_set_at S_4 0) → wM_nextToken S_5 (fun S_7 => ∃ k_ : Nat, wM_readText_43 post k_ S_7))))))
set_option maxHeartbeats 4000000 in
set_option maxRecDepth 100000 in
theorem cM_readText (l : Launch) (D : va_G) (h : Nat → Nat) (cy : Nat → ClassId) (S : MS) (post : Int32 → MS → Prop) (hw : wM_readText S post) : k_Mi l yX12_readText wsX12_readText { frames := 10, cells := 0, slots := 0, locals := 220 } D (tyM cy) (wM h cy) [.ref (h 31)] S post := by
  intro sz
  refine Met.ofW (cc := cX12_readText) (maxL := 2) (ret := (some .int)) (by decide) rfl ?_
  intro p e s m args below meth c s₁ B hml hv
  obtain ⟨rfl, hsz, hP, hK, hD0⟩ := hv
  have hx := B.exec
  have hb := B.bytes
  have hr := B.returns
  have hts := atoms_spec (ws := wsX12_readText) B.pre
  have hown : s.vm.findClass RX12 = some m.cls := findClass_of_methodNamed B.named
  have hlocks := B.notSynchronized
  subst hsz
  have hD := hD0.self (sz := s.heap.size)
  generalize hAe : va_A (wM h cy S) s.heap.size = A at hD ⊢
  have hA : ∀ q : Nat, s.heap.size ≤ q → A q := fun q h => by rw [← hAe]; exact Or.inr h
  have hS : va_S A s.heap s.heap [] := va_S.rf
  have hin : ∀ w ∈ wsX120, w ∈ wsX12_readText := fun _ h => List.mem_cons_of_mem _ (List.mem_append_right _ h)
  have w7 := hts (.fieldLink RX12 7 "ClownsMournModel" "a" "[I") (List.mem_of_getElem? (i := 1) rfl)
  have w16 := hts (.fieldLink RX12 16 "ClownsMournModel" "texts" "[I") (List.mem_of_getElem? (i := 3) rfl)
  have w103 := hts (.fieldLink RX12 103 "ClownsMournModel" "at" "I") (List.mem_of_getElem? (i := 6) rfl)
  have w113 := hts (.fieldLink RX12 113 "ClownsMournModel" "token" "I") (List.mem_of_getElem? (i := 7) rfl)
  have w151 := hts (.fieldLink RX12 151 "ClownsMournModel" "text0" "I") (List.mem_of_getElem? (i := 2) rfl)
  have w154 := hts (.fieldLink RX12 154 "ClownsMournModel" "written" "I") (List.mem_of_getElem? (i := 4) rfl)
  have w259 := hts (.fieldLink RX12 259 "ClownsMournModel" "once" "I") (List.mem_of_getElem? (i := 5) rfl)
  have hl := lv_entry ([.ref (h 31)]) (n := 2) (Nat.le_of_ble_eq_true rfl)
  rw [lg_entry_eq]
  generalize (lg_sl ([.ref (h 31)]) ++ List.replicate (2 - (lg_sl ([.ref (h 31)])).length) Slot.unset).toArray = ls at hl ⊢
  have hl : lv_has ls 2 [(0, .ref (h 31))] := hl
  unfold wM_readText at hw
  clear hD0
  have L_43 : ∀ (n43 : Nat) (S : MS) (H : Heap) (locs : List Loc) (ls : Array Slot), wM_readText_43 post n43 S → va_P D vwCl (wM h cy S) H → va_D A (wM h cy S) → va_S A s.heap H locs → lv_has ls 2 [(0, .ref (h 31))] → W p l e (headSpec wsX12_readText { frames := 10, cells := 0, slots := 0, locals := 220 }).room s m (([.ref (h 31)] : List Value).toArray) below meth c H locs 0 0 (MQ below (va_Qi post (k_Post D (tyM cy) (wM h cy) A) A) (([.ref (h 31)] : List Value).toArray) s 0 0 A) (F0 m 43 ls []) := by
    intro n43
    induction n43 with
    | zero => intro S H locs ls hw; exact False.elim hw
    | succ n43 ih_43 =>
      intro S H locs ls hw hP hD hS hl
      unfold wM_readText_43 at hw
      refine lv_aload_n hx hb dX12_readText_43 rfl (lv_at hl 0 rfl) ?_
      refine va_get (D := D) (ci := 11) (v := .int (ms_token S)) (C := RX12) (T := TX12) (N := 31) hx hb hts hin hown hK hP 0 rfl rfl 9 (by decide) w113 (fun _ h9 => h9) rfl dX12_readText_44 ?_
      obtain ⟨hc_1t, hc_1f⟩ := hw
      refine lv_if_eq (tgt := 64) hx hb dX12_readText_47 (by decide) (fun c_1 => ?_) (fun c_1 => ?_)
      · have hw := hc_1t c_1
        clear hc_1t hc_1f
        refine lv_iconst (v := 0) hx hb dX12_readText_64 (by decide) ?_
        exact W.iret (v := 0) hx hb hr (fun t ht hW => ⟨⟨0, S, rfl, hw, by rw [ht]; exact hP, va_K.moved hW.alike hK, hD⟩, hS.F ht⟩) hS.2.2 dX12_readText_65
      · have hw := hc_1f c_1
        clear hc_1t hc_1f
        refine lv_aload_n hx hb dX12_readText_50 rfl (lv_at hl 0 rfl) ?_
        refine k_callVi (As := []) (rest := []) ⟨hx, hb, hml, hown, hts⟩ (cM_clause l D h cy _ _ hw) (cwV 0 hts gX12_readText_X12_clause rfl rfl rfl (by decide +kernel) ⟨Nat.le_of_ble_eq_true rfl, Nat.le_of_ble_eq_true rfl⟩) (va_recv hK hP (ci := 11) (q0 := 0) rfl rfl) hK hP hD hS hA rfl hl.1 rfl (Nat.le_of_ble_eq_true rfl) dX12_readText_51 ⟨Nat.zero_le _, Nat.zero_le _⟩ (fun r_2 S_3 H locs hw hP hD hS => ?_)
        refine lv_istore_n (lv' := [(1, .int r_2), (0, .ref (h 31))]) hx hb dX12_readText_54 rfl hl (by decide) rfl (fun ls hl => ?_)
        refine lv_iload_n hx hb dX12_readText_55 rfl (lv_at hl 0 rfl) ?_
        obtain ⟨hc_4t, hc_4f⟩ := hw
        refine lv_if_eq (tgt := 61) hx hb dX12_readText_56 (by decide) (fun c_4 => ?_) (fun c_4 => ?_)
        · have hw := hc_4t c_4
          clear hc_4t hc_4f
          refine lv_goto (tgt := 43) hx hb dX12_readText_61 (by decide) ?_
          exact ih_43 S_3 _ _ _ hw hP hD hS (lv_sub hl [1] rfl)
        · have hw := hc_4f c_4
          clear hc_4t hc_4f
          refine lv_iload_n hx hb dX12_readText_59 rfl (lv_at hl 0 rfl) ?_
          exact W.iret (v := r_2) hx hb hr (fun t ht hW => ⟨⟨r_2, S_3, rfl, hw, by rw [ht]; exact hP, va_K.moved hW.alike hK, hD⟩, hS.F ht⟩) hS.2.2 dX12_readText_60
  refine lv_aload_n hx hb dX12_readText_0 rfl (lv_at hl 0 rfl) ?_
  refine lv_sipush (v := 705) hx hb dX12_readText_1 (by decide) ?_
  refine lv_aload_n hx hb dX12_readText_4 rfl (lv_at hl 0 rfl) ?_
  refine va_get (D := D) (ci := 11) (v := .ref (h 0)) (C := RX12) (T := TX12) (N := 31) hx hb hts hin hown hK hP 0 rfl rfl 0 (by decide) w7 (fun _ h9 => h9) rfl dX12_readText_5 ?_
  refine lv_iconst (v := 2) hx hb dX12_readText_8 (by decide) ?_
  refine k_iald (f := (ms_a S)) (j := 2) hx hb hK hP 1 0 rfl rfl (by decide +kernel) rfl dX12_readText_9 ?_
  refine lv_imul hx hb dX12_readText_10 ?_
  refine va_put (D := D) (ci := 11) (v := .int (705 * ((ms_a S) 2))) (ty := .int) (C := RX12) (T := TX12) (N := 31) hx hb hts hin tyX12 tyX12_ok nmX12 hown hK hP hD hS 0 rfl rfl 12 (by decide) w151 (fun _ h9 => h9) rfl (tyX12_ok 12 (by decide)) rfl rfl (Nat.le_of_ble_eq_true rfl) dX12_readText_11 (fun H locs hP hD hS => ?_)
  obtain ⟨S_5, eS_5⟩ : ∃ z : MS, z = (ms_set_text0 S (705 * ((ms_a S) 2))) := ⟨_, rfl⟩
  have hw := hw S_5 eS_5
  have hP : va_P D vwCl (wM h cy S_5) H := by rw [eS_5, ← wMp_text0]; exact hP
  have hD : va_D A (wM h cy S_5) := by rw [eS_5, ← wMp_text0]; exact hD
  refine lv_aload_n hx hb dX12_readText_14 rfl (lv_at hl 0 rfl) ?_
  refine va_get (D := D) (ci := 11) (v := .ref (h 2)) (C := RX12) (T := TX12) (N := 31) hx hb hts hin hown hK hP 0 rfl rfl 2 (by decide) w16 (fun _ h9 => h9) rfl dX12_readText_15 ?_
  refine lv_aload_n hx hb dX12_readText_18 rfl (lv_at hl 0 rfl) ?_
  refine va_get (D := D) (ci := 11) (v := .int (ms_text0 S_5)) (C := RX12) (T := TX12) (N := 31) hx hb hts hin hown hK hP 0 rfl rfl 12 (by decide) w151 (fun _ h9 => h9) rfl dX12_readText_19 ?_
  refine lv_iconst (v := 0) hx hb dX12_readText_22 (by decide) ?_
  obtain ⟨hi_12, hw⟩ := hw
  refine va_iast (f := (ms_texts S_5)) hx hb hK hP hD hS 3 2 rfl rfl hi_12 dX12_readText_23 (fun H locs hP hD hS => ?_)
  obtain ⟨S_6, eS_6⟩ : ∃ z : MS, z = (ms_set_texts S_5 (upd (ms_texts S_5) ((ms_text0 S_5).toNatClampNeg) 0)) := ⟨_, rfl⟩
  have hw := hw S_6 eS_6
  have hP : va_P D vwCl (wM h cy S_6) H := by rw [eS_6, ← wMs_texts]; exact hP
  have hD : va_D A (wM h cy S_6) := by rw [eS_6, ← wMs_texts]; exact hD
  refine lv_aload_n hx hb dX12_readText_24 rfl (lv_at hl 0 rfl) ?_
  refine lv_iconst (v := 0) hx hb dX12_readText_25 (by decide) ?_
  refine va_put (D := D) (ci := 11) (v := .int 0) (ty := .int) (C := RX12) (T := TX12) (N := 31) hx hb hts hin tyX12 tyX12_ok nmX12 hown hK hP hD hS 0 rfl rfl 13 (by decide) w154 (fun _ h9 => h9) rfl (tyX12_ok 13 (by decide)) rfl rfl (Nat.le_of_ble_eq_true rfl) dX12_readText_26 (fun H locs hP hD hS => ?_)
  obtain ⟨S_7, eS_7⟩ : ∃ z : MS, z = (ms_set_written S_6 0) := ⟨_, rfl⟩
  have hw := hw S_7 eS_7
  have hP : va_P D vwCl (wM h cy S_7) H := by rw [eS_7, ← wMp_written]; exact hP
  have hD : va_D A (wM h cy S_7) := by rw [eS_7, ← wMp_written]; exact hD
  refine lv_aload_n hx hb dX12_readText_29 rfl (lv_at hl 0 rfl) ?_
  refine lv_iconst (v := 0) hx hb dX12_readText_30 (by decide) ?_
  refine va_put (D := D) (ci := 11) (v := .int 0) (ty := .int) (C := RX12) (T := TX12) (N := 31) hx hb hts hin tyX12 tyX12_ok nmX12 hown hK hP hD hS 0 rfl rfl 19 (by decide) w259 (fun _ h9 => h9) rfl (tyX12_ok 19 (by decide)) rfl rfl (Nat.le_of_ble_eq_true rfl) dX12_readText_31 (fun H locs hP hD hS => ?_)
  obtain ⟨S_8, eS_8⟩ : ∃ z : MS, z = (ms_set_once S_7 0) := ⟨_, rfl⟩
  have hw := hw S_8 eS_8
  have hP : va_P D vwCl (wM h cy S_8) H := by rw [eS_8, ← wMp_once]; exact hP
  have hD : va_D A (wM h cy S_8) := by rw [eS_8, ← wMp_once]; exact hD
  refine lv_aload_n hx hb dX12_readText_34 rfl (lv_at hl 0 rfl) ?_
  refine lv_iconst (v := 0) hx hb dX12_readText_35 (by decide) ?_
  refine va_put (D := D) (ci := 11) (v := .int 0) (ty := .int) (C := RX12) (T := TX12) (N := 31) hx hb hts hin tyX12 tyX12_ok nmX12 hown hK hP hD hS 0 rfl rfl 7 (by decide) w103 (fun _ h9 => h9) rfl (tyX12_ok 7 (by decide)) rfl rfl (Nat.le_of_ble_eq_true rfl) dX12_readText_36 (fun H locs hP hD hS => ?_)
  obtain ⟨S_9, eS_9⟩ : ∃ z : MS, z = (ms_set_at S_8 0) := ⟨_, rfl⟩
  have hw := hw S_9 eS_9
  have hP : va_P D vwCl (wM h cy S_9) H := by rw [eS_9, ← wMp_at]; exact hP
  have hD : va_D A (wM h cy S_9) := by rw [eS_9, ← wMp_at]; exact hD
  refine lv_aload_n hx hb dX12_readText_39 rfl (lv_at hl 0 rfl) ?_
  refine k_callVv (As := []) (rest := []) ⟨hx, hb, hml, hown, hts⟩ (cM_nextToken l D h cy _ _ hw) (cwV 0 hts gX12_readText_X12_nextToken rfl rfl rfl (by decide +kernel) ⟨Nat.le_of_ble_eq_true rfl, Nat.le_of_ble_eq_true rfl⟩) (va_recv hK hP (ci := 11) (q0 := 0) rfl rfl) hK hP hD hS hA rfl hl.1 rfl (Nat.le_of_ble_eq_true rfl) dX12_readText_40 ⟨Nat.zero_le _, Nat.zero_le _⟩ (fun S_11 H locs hw hP hD hS => ?_)
  obtain ⟨n_43, hw⟩ := hw
  exact L_43 n_43 S_11 _ _ _ hw hP hD hS (lv_sub hl [0] rfl)
