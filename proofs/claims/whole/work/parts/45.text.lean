def wC_X11_text (S : CS) (post : Int32 → CS → Prop) : Prop := ((cx_c_textCount S < 4 → wC_X6_readTape S (fun r S1 => ((r = none → post (-1) S1) ∧ (∀ a : Nat, r = some a → wC_X0_addText (some a) S1 (fun r2 S2 => post r2 S2))))) ∧ (¬ cx_c_textCount S < 4 → post (-1) S))
set_option maxHeartbeats 4000000 in
theorem cC_X11_text (l : Launch) (D : va_G) (h : Nat → Nat) (cy : Nat → ClassId) (S : CS) (post : Int32 → CS → Prop) (hw : wC_X11_text S post) : e_MiA clE l yX11_text wsX11_text { frames := 74, cells := 4, slots := 406, locals := 1624 } D (tyC cy) (wC h cy) [.ref (h 0)] S post 4 406 := by
  intro sz
  refine Met.ofW (cc := cX11_text) (maxL := 2) (ret := (some .int)) (by decide) rfl ?_
  intro p e s m args below meth c s₁ B hml hv
  obtain ⟨rfl, hsz, hP, hK, hD0, hs⟩ := hv
  have hx := B.exec
  have hb := B.bytes
  have hr := B.returns
  have hlocks := B.notSynchronized
  have hts := atoms_spec (ws := wsX11_text) B.pre
  have hown : s.vm.findClass RX11 = some m.cls := findClass_of_methodNamed B.named
  subst hsz
  have hD := hD0.self (sz := s.heap.size)
  generalize hAe : va_A (wC h cy S) s.heap.size = A at hD hs ⊢
  have hA : ∀ q : Nat, s.heap.size ≤ q → A q := fun q h => by rw [← hAe]; exact Or.inr h
  have hS : va_S A s.heap s.heap [] := va_S.rf
  have hin11 : ∀ w ∈ wsX110, w ∈ wsX11_text := fun _ h => List.mem_cons_of_mem _ (List.mem_append_left _ (List.mem_append_left _ (List.mem_append_left _ (List.mem_append_right _ h))))
  have hin0 : ∀ w ∈ wsX00, w ∈ wsX11_text := fun _ h => List.mem_cons_of_mem _ (List.mem_append_left _ (List.mem_append_left _ (List.mem_append_right _ h)))
  have hin6 : ∀ w ∈ wsX60, w ∈ wsX11_text := fun _ h => List.mem_cons_of_mem _ (List.mem_append_left _ (List.mem_append_right _ h))
  have hin9 : ∀ w ∈ wsX90, w ∈ wsX11_text := fun _ h => List.mem_cons_of_mem _ (List.mem_append_right _ h)
  have hl := lv_entry ([.ref (h 0)]) (n := 2) (Nat.le_of_ble_eq_true rfl)
  rw [lg_entry_eq]
  generalize (lg_sl ([.ref (h 0)]) ++ List.replicate (2 - (lg_sl ([.ref (h 0)])).length) Slot.unset).toArray = ls at hl ⊢
  have hl : lv_has ls 2 [(0, .ref (h 0))] := hl
  unfold wC_X11_text at hw
  obtain ⟨hw1, hw2⟩ := hw
  refine lv_aload_n hx hb dX11_text_0 rfl (lv_at hl 0 rfl) ?_
  refine va_get (D := D) (ci := 10) (v := .ref (h 1)) (C := RX11) (T := TX11) (N := 9) hx hb hts hin11 hown hK hP 0 rfl rfl 0 (by decide) (hts (.fieldLink RX11 10 "ClownsMourn" "city" "LClownsMourn$City;") (List.mem_of_getElem? (i := 1) rfl)) (fun _ h9 => h9) rfl dX11_text_1 ?_
  refine va_get (D := D) (ci := 0) (v := .int (cx_c_textCount S)) (C := RX0) (T := TX0) (N := 16) hx hb hts hin0 hown hK hP 1 rfl rfl 7 (by decide) (hts (.fieldLink RX11 110 "ClownsMourn$City" "textCount" "I") (List.mem_of_getElem? (i := 2) rfl)) (fun _ h9 => h9) rfl dX11_text_4 ?_
  refine lv_iconst (v := 4) hx hb dX11_text_7 (by decide) ?_
  refine lv_icmp_lt (tgt := 13) hx hb dX11_text_8 (by decide) (fun c1 => ?_) (fun c1 => ?_)
  · have hw := hw1 c1
    refine lv_aload_n hx hb dX11_text_13 rfl (lv_at hl 0 rfl) ?_
    refine va_get (D := D) (ci := 10) (v := .ref (h 5)) (C := RX11) (T := TX11) (N := 9) hx hb hts hin11 hown hK hP 0 rfl rfl 2 (by decide) (hts (.fieldLink RX11 22 "ClownsMourn" "reader" "LClownsMourn$Reader;") (List.mem_of_getElem? (i := 3) rfl)) (fun _ h9 => h9) rfl dX11_text_14 ?_
    have hFc := k_free (wf := wC h cy) (S := S) hD hS hA
    refine va_callq (va_runV (As := []) (rest := []) ⟨hx, hb, hml, hown, hts⟩ (cC_X6_readTape l D h cy S _ hw s.heap.size) (cwV 0 hts gX11_text_X6_readTape rfl rfl rfl (by decide +kernel) ⟨Nat.le_of_ble_eq_true rfl, Nat.le_of_ble_eq_true rfl⟩) ⟨e_blind clE_stable, va_recv hK hP (ci := 6) (q0 := 5) rfl rfl, e_here clE_stable hs hK hP hD hS hA⟩ rfl rfl hl.1 rfl (lv_room (Nat.le_of_ble_eq_true rfl)) dX11_text_17 ⟨Nat.le_of_ble_eq_true rfl, Nat.le_of_ble_eq_true rfl⟩) hS (fun q _ h => hFc q h) hFc (fun r S1 t H locs ht hvm hw hB hz1 hk1_ hS => ?_)
    obtain ⟨hP1, -, hD1⟩ := hB
    rw [ht] at hP1
    have hD := hD1.weaken (fun k q _ h => hFc q.1 h)
    have hP := hP1
    clear hP1 hD1
    obtain ⟨hwn, hws⟩ := hw
    refine k_astore_nq (lv' := [(1, va_rf r), (0, .ref (h 0))]) hx hb dX11_text_20 rfl hl (by decide) rfl (fun ls hl => ?_)
    refine k_aload_nq hx hb dX11_text_21 rfl (lv_at hl 0 rfl) ?_
    refine k_ifnonnull (tgt := 29) hx hb dX11_text_22 (by decide) (fun c2 => ?_) (fun a c2 => ?_)
    · have hw := hwn c2
      refine lv_iconst (v := -1) hx hb dX11_text_25 (by decide) ?_
      refine lv_goto (tgt := 37) hx hb dX11_text_26 (by decide) ?_
      exact W.iret (v := -1) hx hb hr (fun t ht hW => ⟨⟨-1, S1, rfl, hw, by rw [ht]; exact hP, va_K.moved hW.alike hK, hD⟩, hS.F ht⟩) hS.2.2 dX11_text_37
    · have hw := hws a c2
      rw [c2] at hl
      have hl : lv_has ls 2 [(1, .ref a), (0, .ref (h 0))] := hl
      refine lv_aload_n hx hb dX11_text_29 rfl (lv_at hl 1 rfl) ?_
      refine va_get (D := D) (ci := 10) (v := .ref (h 1)) (C := RX11) (T := TX11) (N := 9) hx hb hts hin11 hown hK hP 0 rfl rfl 0 (by decide) (hts (.fieldLink RX11 10 "ClownsMourn" "city" "LClownsMourn$City;") (List.mem_of_getElem? (i := 1) rfl)) (fun _ h9 => h9) rfl dX11_text_30 ?_
      refine lv_aload_n hx hb dX11_text_33 rfl (lv_at hl 0 rfl) ?_
      refine e_callVi (As := [.ref a]) (rest := []) clE_stable hs ⟨hx, hb, hml, hown, hts⟩ (cC_X0_addText l D h cy _ _ _ hw) (cwV 1 hts gX11_text_X0_addText rfl rfl rfl (by decide +kernel) ⟨Nat.le_of_ble_eq_true rfl, Nat.le_of_ble_eq_true rfl⟩) (va_recv hK hP (ci := 0) (q0 := 1) rfl rfl) hK hP hD hS hA rfl hl.1 rfl (Nat.le_of_ble_eq_true rfl) dX11_text_34 ⟨Nat.le_of_ble_eq_true rfl, Nat.le_of_ble_eq_true rfl⟩ (fun r2 S2 H locs hw hP hD hS => ?_)
      exact W.iret (v := r2) hx hb hr (fun t ht hW => ⟨⟨r2, S2, rfl, hw, by rw [ht]; exact hP, va_K.moved hW.alike hK, hD⟩, hS.F ht⟩) hS.2.2 dX11_text_37
  · have hw := hw2 c1
    refine lv_iconst (v := -1) hx hb dX11_text_11 (by decide) ?_
    refine W.widen (k := 4) (n := 406) (Nat.zero_le _) (Nat.zero_le _) ?_
    exact W.iret (v := -1) hx hb hr (fun t ht hW => ⟨⟨-1, S, rfl, hw, by rw [ht]; exact hP, va_K.moved hW.alike hK, hD⟩, hS.F ht⟩) hS.2.2 dX11_text_12
