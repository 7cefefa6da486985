def wC_X11_growsAsTold_2 (post : Int32 → CS → Prop) : Nat → Option Nat → Int32 → CS → Prop
  | 0, _, _, _ => False
  | n + 1, x1, x2, S => (((cx_c_grownCount S) ≤ x2 → post 1 S) ∧ (¬ ((cx_c_grownCount S) ≤ x2) → wC_X3_growing x1 ((k_at 8 (cx_c_growns S) x2) / 10) S (fun r_2 S_3 => ((r_2 = (k_rem (k_at 8 (cx_c_growns S) x2) 10) → wC_X11_growsAsTold_2 post n x1 (x2 + 1) S_3) ∧ (¬ (r_2 = (k_rem (k_at 8 (cx_c_growns S) x2) 10)) → post 0 S_3)))))
def wC_X11_growsAsTold (p1 : Option Nat) (S : CS) (post : Int32 → CS → Prop) : Prop := ∃ k_ : Nat, wC_X11_growsAsTold_2 post k_ p1 0 S
set_option maxHeartbeats 4000000 in
set_option maxRecDepth 100000 in
theorem cC_X11_growsAsTold (l : Launch) (D : va_G) (h : Nat → Nat) (cy : Nat → ClassId) (p1 : Option Nat) (S : CS) (post : Int32 → CS → Prop) (hw : wC_X11_growsAsTold p1 S post) : e_Mi clE l yX11_growsAsTold wsX11_growsAsTold { frames := 4, cells := 0, slots := 0, locals := 99 } D (tyC cy) (wC h cy) [.ref (h 0), va_rf p1] S post := by
  intro sz
  refine Met.ofW (cc := cX11_growsAsTold) (maxL := 4) (ret := (some .boolean)) (by decide) rfl ?_
  intro p e s m args below meth c s₁ B hml hv
  obtain ⟨rfl, hsz, hP, hK, hD0, hs⟩ := hv
  have hx := B.exec
  have hb := B.bytes
  have hr := B.returns
  have hts := atoms_spec (ws := wsX11_growsAsTold) B.pre
  have hown : s.vm.findClass RX11 = some m.cls := findClass_of_methodNamed B.named
  have hlocks := B.notSynchronized
  subst hsz
  have hD := hD0.self (sz := s.heap.size)
  generalize hAe : va_A (wC h cy S) s.heap.size = A at hD hs ⊢
  have hA : ∀ q : Nat, s.heap.size ≤ q → A q := fun q h => by rw [← hAe]; exact Or.inr h
  have hS : va_S A s.heap s.heap [] := va_S.rf
  have hin11 : ∀ w ∈ wsX110, w ∈ wsX11_growsAsTold := fun _ h => List.mem_cons_of_mem _ (List.mem_append_left _ (List.mem_append_left _ (List.mem_append_left _ (List.mem_append_right _ h))))
  have hin0 : ∀ w ∈ wsX00, w ∈ wsX11_growsAsTold := fun _ h => List.mem_cons_of_mem _ (List.mem_append_left _ (List.mem_append_left _ (List.mem_append_right _ h)))
  have hin3 : ∀ w ∈ wsX30, w ∈ wsX11_growsAsTold := fun _ h => List.mem_cons_of_mem _ (List.mem_append_left _ (List.mem_append_right _ h))
  have hin9 : ∀ w ∈ wsX90, w ∈ wsX11_growsAsTold := fun _ h => List.mem_cons_of_mem _ (List.mem_append_right _ h)
  have w10 := hts (.fieldLink RX11 10 "ClownsMourn" "city" "LClownsMourn$City;") (List.mem_of_getElem? (i := 1) rfl)
  have w31 := hts (.fieldLink RX11 31 "ClownsMourn" "laws" "LClownsMourn$Laws;") (List.mem_of_getElem? (i := 4) rfl)
  have w336 := hts (.fieldLink RX11 336 "ClownsMourn$City" "grownCount" "I") (List.mem_of_getElem? (i := 2) rfl)
  have w339 := hts (.fieldLink RX11 339 "ClownsMourn$City" "growns" "[I") (List.mem_of_getElem? (i := 3) rfl)
  have hl := lv_entry ([.ref (h 0), va_rf p1]) (n := 4) (by cases p1 <;> exact Nat.le_of_ble_eq_true rfl)
  rw [lg_entry_eq]
  generalize (lg_sl ([.ref (h 0), va_rf p1]) ++ List.replicate (4 - (lg_sl ([.ref (h 0), va_rf p1])).length) Slot.unset).toArray = ls at hl ⊢
  have hl : lv_has ls 4 [(0, .ref (h 0)), (1, va_rf p1)] := by cases p1 <;> exact hl
  unfold wC_X11_growsAsTold at hw
  clear hD0
  have L_2 : ∀ (n2 : Nat) (x1 : Option Nat) (x2 : Int32) (S : CS) (H : Heap) (locs : List Loc) (ls : Array Slot), wC_X11_growsAsTold_2 post n2 x1 x2 S → va_P D vwCl (wC h cy S) H → va_D A (wC h cy S) → va_S A s.heap H locs → lv_has ls 4 [(0, .ref (h 0)), (1, va_rf x1), (2, .int x2)] → W p l e (headSpec wsX11_growsAsTold { frames := 4, cells := 0, slots := 0, locals := 99 }).room s m (([.ref (h 0), va_rf p1] : List Value).toArray) below meth c H locs 0 0 (MQ below (va_Qi post (k_Post D (tyC cy) (wC h cy) A) A) (([.ref (h 0), va_rf p1] : List Value).toArray) s 0 0 A) (F0 m 2 ls []) := by
    intro n2
    induction n2 with
    | zero => intro x1 x2 S H locs ls hw; exact False.elim hw
    | succ n2 ih_2 =>
      intro x1 x2 S H locs ls hw hP hD hS hl
      unfold wC_X11_growsAsTold_2 at hw
      refine lv_iload_n hx hb dX11_growsAsTold_2 rfl (lv_at hl 2 rfl) ?_
      refine lv_aload_n hx hb dX11_growsAsTold_3 rfl (lv_at hl 0 rfl) ?_
      refine va_get (D := D) (ci := 10) (v := .ref (h 1)) (C := RX11) (T := TX11) (N := 9) hx hb hts hin11 hown hK hP 0 rfl rfl 0 (by decide) w10 (fun _ h9 => h9) rfl dX11_growsAsTold_4 ?_
      refine va_get (D := D) (ci := 0) (v := .int (cx_c_grownCount S)) (C := RX0) (T := TX0) (N := 16) hx hb hts hin0 hown hK hP 1 rfl rfl 15 (by decide) w336 (fun _ h9 => h9) rfl dX11_growsAsTold_7 ?_
      obtain ⟨hc_1t, hc_1f⟩ := hw
      refine lv_icmp_ge (tgt := 52) hx hb dX11_growsAsTold_10 (by decide) (fun c_1 => ?_) (fun c_1 => ?_)
      · have hw := hc_1t c_1
        clear hc_1t hc_1f
        refine lv_iconst (v := 1) hx hb dX11_growsAsTold_52 (by decide) ?_
        exact W.zret (v := 1) hx hb hr (by decide +kernel) (fun t ht hW => ⟨⟨1, S, rfl, hw, by rw [ht]; exact hP, va_K.moved hW.alike hK, hD⟩, hS.F ht⟩) hS.2.2 dX11_growsAsTold_53
      · have hw := hc_1f c_1
        clear hc_1t hc_1f
        refine lv_aload_n hx hb dX11_growsAsTold_13 rfl (lv_at hl 0 rfl) ?_
        refine va_get (D := D) (ci := 10) (v := .ref (h 1)) (C := RX11) (T := TX11) (N := 9) hx hb hts hin11 hown hK hP 0 rfl rfl 0 (by decide) w10 (fun _ h9 => h9) rfl dX11_growsAsTold_14 ?_
        refine va_get (D := D) (ci := 0) (v := .ref (h 22)) (C := RX0) (T := TX0) (N := 16) hx hb hts hin0 hown hK hP 1 rfl rfl 14 (by decide) w339 (fun _ h9 => h9) rfl dX11_growsAsTold_17 ?_
        refine lv_iload_n hx hb dX11_growsAsTold_20 rfl (lv_at hl 2 rfl) ?_
        refine e_callSi (As := [.ref (h 22), .int x2]) (rest := []) clE_stable hs ⟨hx, hb, hml, hown, hts⟩ (cA_at l D clE (tyC cy) (wC h cy) S 22 10 _ _ 8 (cx_c_growns S) rfl rfl (by decide) _ (fun r S0 => r = k_at 8 (cx_c_growns S) x2 ∧ S = S0) ⟨rfl, rfl⟩) (va_cwS 2 hts gX11_growsAsTold_X11_at rfl rfl rfl (by decide +kernel) ⟨Nat.le_of_ble_eq_true rfl, Nat.le_of_ble_eq_true rfl⟩) hK hP hD hS hA rfl hl.1 rfl (Nat.le_of_ble_eq_true rfl) dX11_growsAsTold_21 ⟨Nat.zero_le _, Nat.zero_le _⟩ (fun r_ S_ H locs hq hP hD hS => ?_)
        obtain ⟨rfl, rfl⟩ := hq
        refine lv_istore_n (lv' := [(3, .int (k_at 8 (cx_c_growns S) x2)), (0, .ref (h 0)), (1, va_rf x1), (2, .int x2)]) hx hb dX11_growsAsTold_24 rfl hl (by decide) rfl (fun ls hl => ?_)
        refine lv_aload_n hx hb dX11_growsAsTold_25 rfl (lv_at hl 1 rfl) ?_
        refine va_get (D := D) (ci := 10) (v := .ref (h 6)) (C := RX11) (T := TX11) (N := 9) hx hb hts hin11 hown hK hP 0 rfl rfl 3 (by decide) w31 (fun _ h9 => h9) rfl dX11_growsAsTold_26 ?_
        refine k_aload_nq hx hb dX11_growsAsTold_29 rfl (lv_at hl 2 rfl) ?_
        refine lv_iload_n hx hb dX11_growsAsTold_30 rfl (lv_at hl 0 rfl) ?_
        refine lv_bipush (v := 10) hx hb dX11_growsAsTold_31 (by decide) ?_
        refine lv_idiv hx hb dX11_growsAsTold_33 (by decide) ?_
        refine e_callVi (As := [va_rf x1, .int ((k_at 8 (cx_c_growns S) x2) / 10)]) (rest := []) clE_stable hs ⟨hx, hb, hml, hown, hts⟩ (cC_X3_growing l D h cy _ _ _ _ hw) (cwV 2 hts gX11_growsAsTold_X3_growing rfl rfl rfl (by decide +kernel) ⟨Nat.le_of_ble_eq_true rfl, Nat.le_of_ble_eq_true rfl⟩) (va_recv hK hP (ci := 3) (q0 := 6) rfl rfl) hK hP hD hS hA rfl hl.1 rfl (Nat.le_of_ble_eq_true rfl) dX11_growsAsTold_34 ⟨Nat.zero_le _, Nat.zero_le _⟩ (fun r_2 S_3 H locs hw hP hD hS => ?_)
        refine lv_iload_n hx hb dX11_growsAsTold_37 rfl (lv_at hl 0 rfl) ?_
        refine lv_bipush (v := 10) hx hb dX11_growsAsTold_38 (by decide) ?_
        refine k_irem hx hb dX11_growsAsTold_40 (by decide) ?_
        obtain ⟨hc_4t, hc_4f⟩ := hw
        refine lv_icmp_eq (tgt := 46) hx hb dX11_growsAsTold_41 (by decide) (fun c_4 => ?_) (fun c_4 => ?_)
        · have hw := hc_4t c_4
          clear hc_4t hc_4f
          refine lv_iinc (v := x2 + 1) (lv' := [(2, .int (x2 + 1)), (3, .int (k_at 8 (cx_c_growns S) x2)), (0, .ref (h 0)), (1, va_rf x1)]) hx hb dX11_growsAsTold_46 hl (k := 3) rfl (k_inc (by decide)) (by decide) (by simp [List.filter, k_cat]) (fun ls hl => ?_)
          refine lv_goto (tgt := 2) hx hb dX11_growsAsTold_49 (by decide) ?_
          exact ih_2 x1 (x2 + 1) S_3 _ _ _ hw hP hD hS (lv_sub hl [2, 3, 0] rfl)
        · have hw := hc_4f c_4
          clear hc_4t hc_4f
          refine lv_iconst (v := 0) hx hb dX11_growsAsTold_44 (by decide) ?_
          exact W.zret (v := 0) hx hb hr (by decide +kernel) (fun t ht hW => ⟨⟨0, S_3, rfl, hw, by rw [ht]; exact hP, va_K.moved hW.alike hK, hD⟩, hS.F ht⟩) hS.2.2 dX11_growsAsTold_45
  refine lv_iconst (v := 0) hx hb dX11_growsAsTold_0 (by decide) ?_
  refine lv_istore_n (lv' := [(2, .int 0), (0, .ref (h 0)), (1, va_rf p1)]) hx hb dX11_growsAsTold_1 rfl hl (by decide) (by simp [List.filter, k_cat]) (fun ls hl => ?_)
  obtain ⟨n_2, hw⟩ := hw
  exact L_2 n_2 p1 0 S _ _ _ hw hP hD hS (lv_sub hl [1, 2, 0] rfl)
def wC_X11_whose_4 (post : Int32 → CS → Prop) : Nat → Int32 → Int32 → CS → Prop
  | 0, _, _, _ => False
  | n + 1, x1, x2, S => (((cx_c_textCount S) ≤ x2 → post x1 S) ∧ (¬ ((cx_c_textCount S) ≤ x2) → wC_X0_textAt x2 S (fun r_2 S_3 => wC_X11_growsAsTold r_2 S_3 (fun r_4 S_5 => ((r_4 = 0 → wC_X11_whose_4 post n x1 (x2 + 1) S_5) ∧ (¬ (r_4 = 0) → wC_X11_whose_4 post n (x1 ||| (k_shl 1 x2)) (x2 + 1) S_5))))))
def wC_X11_whose (S : CS) (post : Int32 → CS → Prop) : Prop := ∃ k_ : Nat, wC_X11_whose_4 post k_ 0 0 S
set_option maxHeartbeats 4000000 in
set_option maxRecDepth 100000 in
theorem cC_X11_whose (l : Launch) (D : va_G) (h : Nat → Nat) (cy : Nat → ClassId) (S : CS) (post : Int32 → CS → Prop) (hw : wC_X11_whose S post) : e_Mi clE l yX11_whose wsX11_whose { frames := 5, cells := 0, slots := 0, locals := 122 } D (tyC cy) (wC h cy) [.ref (h 0)] S post := by
  intro sz
  refine Met.ofW (cc := cX11_whose) (maxL := 3) (ret := (some .int)) (by decide) rfl ?_
  intro p e s m args below meth c s₁ B hml hv
  obtain ⟨rfl, hsz, hP, hK, hD0, hs⟩ := hv
  have hx := B.exec
  have hb := B.bytes
  have hr := B.returns
  have hts := atoms_spec (ws := wsX11_whose) B.pre
  have hown : s.vm.findClass RX11 = some m.cls := findClass_of_methodNamed B.named
  have hlocks := B.notSynchronized
  subst hsz
  have hD := hD0.self (sz := s.heap.size)
  generalize hAe : va_A (wC h cy S) s.heap.size = A at hD hs ⊢
  have hA : ∀ q : Nat, s.heap.size ≤ q → A q := fun q h => by rw [← hAe]; exact Or.inr h
  have hS : va_S A s.heap s.heap [] := va_S.rf
  have hin11 : ∀ w ∈ wsX110, w ∈ wsX11_whose := fun _ h => List.mem_cons_of_mem _ (List.mem_append_left _ (List.mem_append_left _ (List.mem_append_left _ (List.mem_append_right _ h))))
  have hin0 : ∀ w ∈ wsX00, w ∈ wsX11_whose := fun _ h => List.mem_cons_of_mem _ (List.mem_append_left _ (List.mem_append_left _ (List.mem_append_right _ h)))
  have hin3 : ∀ w ∈ wsX30, w ∈ wsX11_whose := fun _ h => List.mem_cons_of_mem _ (List.mem_append_left _ (List.mem_append_right _ h))
  have hin9 : ∀ w ∈ wsX90, w ∈ wsX11_whose := fun _ h => List.mem_cons_of_mem _ (List.mem_append_right _ h)
  have w10 := hts (.fieldLink RX11 10 "ClownsMourn" "city" "LClownsMourn$City;") (List.mem_of_getElem? (i := 1) rfl)
  have w110 := hts (.fieldLink RX11 110 "ClownsMourn$City" "textCount" "I") (List.mem_of_getElem? (i := 2) rfl)
  have hl := lv_entry ([.ref (h 0)]) (n := 3) (Nat.le_of_ble_eq_true rfl)
  rw [lg_entry_eq]
  generalize (lg_sl ([.ref (h 0)]) ++ List.replicate (3 - (lg_sl ([.ref (h 0)])).length) Slot.unset).toArray = ls at hl ⊢
  have hl : lv_has ls 3 [(0, .ref (h 0))] := hl
  unfold wC_X11_whose at hw
  clear hD0
  have L_4 : ∀ (n4 : Nat) (x1 : Int32) (x2 : Int32) (S : CS) (H : Heap) (locs : List Loc) (ls : Array Slot), wC_X11_whose_4 post n4 x1 x2 S → va_P D vwCl (wC h cy S) H → va_D A (wC h cy S) → va_S A s.heap H locs → lv_has ls 3 [(0, .ref (h 0)), (1, .int x1), (2, .int x2)] → W p l e (headSpec wsX11_whose { frames := 5, cells := 0, slots := 0, locals := 122 }).room s m (([.ref (h 0)] : List Value).toArray) below meth c H locs 0 0 (MQ below (va_Qi post (k_Post D (tyC cy) (wC h cy) A) A) (([.ref (h 0)] : List Value).toArray) s 0 0 A) (F0 m 4 ls []) := by
    intro n4
    induction n4 with
    | zero => intro x1 x2 S H locs ls hw; exact False.elim hw
    | succ n4 ih_4 =>
      intro x1 x2 S H locs ls hw hP hD hS hl
      unfold wC_X11_whose_4 at hw
      refine lv_iload_n hx hb dX11_whose_4 rfl (lv_at hl 2 rfl) ?_
      refine lv_aload_n hx hb dX11_whose_5 rfl (lv_at hl 0 rfl) ?_
      refine va_get (D := D) (ci := 10) (v := .ref (h 1)) (C := RX11) (T := TX11) (N := 9) hx hb hts hin11 hown hK hP 0 rfl rfl 0 (by decide) w10 (fun _ h9 => h9) rfl dX11_whose_6 ?_
      refine va_get (D := D) (ci := 0) (v := .int (cx_c_textCount S)) (C := RX0) (T := TX0) (N := 16) hx hb hts hin0 hown hK hP 1 rfl rfl 7 (by decide) w110 (fun _ h9 => h9) rfl dX11_whose_9 ?_
      obtain ⟨hc_1t, hc_1f⟩ := hw
      refine lv_icmp_ge (tgt := 42) hx hb dX11_whose_12 (by decide) (fun c_1 => ?_) (fun c_1 => ?_)
      · have hw := hc_1t c_1
        clear hc_1t hc_1f
        refine lv_iload_n hx hb dX11_whose_42 rfl (lv_at hl 1 rfl) ?_
        exact W.iret (v := x1) hx hb hr (fun t ht hW => ⟨⟨x1, S, rfl, hw, by rw [ht]; exact hP, va_K.moved hW.alike hK, hD⟩, hS.F ht⟩) hS.2.2 dX11_whose_43
      · have hw := hc_1f c_1
        clear hc_1t hc_1f
        refine lv_aload_n hx hb dX11_whose_15 rfl (lv_at hl 0 rfl) ?_
        refine lv_aload_n hx hb dX11_whose_16 rfl (lv_at hl 0 rfl) ?_
        refine va_get (D := D) (ci := 10) (v := .ref (h 1)) (C := RX11) (T := TX11) (N := 9) hx hb hts hin11 hown hK hP 0 rfl rfl 0 (by decide) w10 (fun _ h9 => h9) rfl dX11_whose_17 ?_
        refine lv_iload_n hx hb dX11_whose_20 rfl (lv_at hl 2 rfl) ?_
        refine e_callVq (As := [.int x2]) (rest := [.ref (h 0)]) clE_stable hs ⟨hx, hb, hml, hown, hts⟩ (cC_X0_textAt l D h cy _ _ _ hw) (cwV 1 hts gX11_whose_X0_textAt rfl rfl rfl (by decide +kernel) ⟨Nat.le_of_ble_eq_true rfl, Nat.le_of_ble_eq_true rfl⟩) (va_recv hK hP (ci := 0) (q0 := 1) rfl rfl) hK hP hD hS hA rfl hl.1 rfl (Nat.le_of_ble_eq_true rfl) dX11_whose_21 ⟨Nat.zero_le _, Nat.zero_le _⟩ (fun r_2 S_3 H locs hw hP hD hS => ?_)
        refine e_callVi (As := [va_rf r_2]) (rest := []) clE_stable hs ⟨hx, hb, hml, hown, hts⟩ (cC_X11_growsAsTold l D h cy _ _ _ hw) (cwV 1 hts gX11_whose_X11_growsAsTold rfl rfl rfl (by decide +kernel) ⟨Nat.le_of_ble_eq_true rfl, Nat.le_of_ble_eq_true rfl⟩) (va_recv hK hP (ci := 10) (q0 := 0) rfl rfl) hK hP hD hS hA rfl hl.1 rfl (Nat.le_of_ble_eq_true rfl) dX11_whose_24 ⟨Nat.zero_le _, Nat.zero_le _⟩ (fun r_4 S_5 H locs hw hP hD hS => ?_)
        obtain ⟨hc_6t, hc_6f⟩ := hw
        refine lv_if_eq (tgt := 36) hx hb dX11_whose_27 (by decide) (fun c_6 => ?_) (fun c_6 => ?_)
        · have hw := hc_6t c_6
          clear hc_6t hc_6f
          refine lv_iinc (v := x2 + 1) (lv' := [(2, .int (x2 + 1)), (0, .ref (h 0)), (1, .int x1)]) hx hb dX11_whose_36 hl (k := 2) rfl (k_inc (by decide)) (by decide) rfl (fun ls hl => ?_)
          refine lv_goto (tgt := 4) hx hb dX11_whose_39 (by decide) ?_
          exact ih_4 x1 (x2 + 1) S_5 _ _ _ hw hP hD hS (lv_sub hl [1, 2, 0] rfl)
        · have hw := hc_6f c_6
          clear hc_6t hc_6f
          refine lv_iload_n hx hb dX11_whose_30 rfl (lv_at hl 1 rfl) ?_
          refine lv_iconst (v := 1) hx hb dX11_whose_31 (by decide) ?_
          refine lv_iload_n hx hb dX11_whose_32 rfl (lv_at hl 2 rfl) ?_
          refine k_ishl hx hb dX11_whose_33 ?_
          refine lv_ior hx hb dX11_whose_34 ?_
          refine lv_istore_n (lv' := [(1, .int (x1 ||| (k_shl 1 x2))), (0, .ref (h 0)), (2, .int x2)]) hx hb dX11_whose_35 rfl hl (by decide) rfl (fun ls hl => ?_)
          refine lv_iinc (v := x2 + 1) (lv' := [(2, .int (x2 + 1)), (1, .int (x1 ||| (k_shl 1 x2))), (0, .ref (h 0))]) hx hb dX11_whose_36 hl (k := 2) rfl (k_inc (by decide)) (by decide) rfl (fun ls hl => ?_)
          refine lv_goto (tgt := 4) hx hb dX11_whose_39 (by decide) ?_
          exact ih_4 (x1 ||| (k_shl 1 x2)) (x2 + 1) S_5 _ _ _ hw hP hD hS (lv_sub hl [2, 1, 0] rfl)
  refine lv_iconst (v := 0) hx hb dX11_whose_0 (by decide) ?_
  refine lv_istore_n (lv' := [(1, .int 0), (0, .ref (h 0))]) hx hb dX11_whose_1 rfl hl (by decide) rfl (fun ls hl => ?_)
  refine lv_iconst (v := 0) hx hb dX11_whose_2 (by decide) ?_
  refine lv_istore_n (lv' := [(2, .int 0), (1, .int 0), (0, .ref (h 0))]) hx hb dX11_whose_3 rfl hl (by decide) rfl (fun ls hl => ?_)
  obtain ⟨n_4, hw⟩ := hw
  exact L_4 n_4 0 0 S _ _ _ hw hP hD hS (lv_sub hl [2, 1, 0] rfl)
def wC_X11_clocks_17 (post : Int32 → CS → Prop) : Nat → Int32 → Int32 → Int32 → CS → Prop
  | 0, _, _, _, _ => False
  | n + 1, x1, x2, x3, S => wC_X0_houseCount S (fun r_1 S_2 => ((r_1 ≤ x3 → post x2 S_2) ∧ (¬ (r_1 ≤ x3) → wC_X0_see 12 x3 S_2 (fun r_4 S_5 => ((r_4 = x1 → wC_X11_clocks_17 post n x1 (x2 ||| (k_shl 1 x3)) (x3 + 1) S_5) ∧ (¬ (r_4 = x1) → wC_X11_clocks_17 post n x1 x2 (x3 + 1) S_5))))))
def wC_X11_clocks (p1 : Int32) (S : CS) (post : Int32 → CS → Prop) : Prop := wC_X0_hasClown p1 S (fun r_1 S_2 => ((r_1 = 0 → post (-1) S_2) ∧ (¬ (r_1 = 0) → ∃ k_ : Nat, wC_X11_clocks_17 post k_ p1 0 0 S_2)))
set_option maxHeartbeats 4000000 in
set_option maxRecDepth 100000 in
theorem cC_X11_clocks (l : Launch) (D : va_G) (h : Nat → Nat) (cy : Nat → ClassId) (p1 : Int32) (S : CS) (post : Int32 → CS → Prop) (hw : wC_X11_clocks p1 S post) : e_Mi clE l yX11_clocks wsX11_clocks { frames := 2, cells := 0, slots := 0, locals := 43 } D (tyC cy) (wC h cy) [.ref (h 0), .int p1] S post := by
  intro sz
  refine Met.ofW (cc := cX11_clocks) (maxL := 4) (ret := (some .int)) (by decide) rfl ?_
  intro p e s m args below meth c s₁ B hml hv
  obtain ⟨rfl, hsz, hP, hK, hD0, hs⟩ := hv
  have hx := B.exec
  have hb := B.bytes
  have hr := B.returns
  have hts := atoms_spec (ws := wsX11_clocks) B.pre
  have hown : s.vm.findClass RX11 = some m.cls := findClass_of_methodNamed B.named
  have hlocks := B.notSynchronized
  subst hsz
  have hD := hD0.self (sz := s.heap.size)
  generalize hAe : va_A (wC h cy S) s.heap.size = A at hD hs ⊢
  have hA : ∀ q : Nat, s.heap.size ≤ q → A q := fun q h => by rw [← hAe]; exact Or.inr h
  have hS : va_S A s.heap s.heap [] := va_S.rf
  have hin11 : ∀ w ∈ wsX110, w ∈ wsX11_clocks := fun _ h => List.mem_cons_of_mem _ (List.mem_append_left _ (List.mem_append_right _ h))
  have hin0 : ∀ w ∈ wsX00, w ∈ wsX11_clocks := fun _ h => List.mem_cons_of_mem _ (List.mem_append_right _ h)
  have w10 := hts (.fieldLink RX11 10 "ClownsMourn" "city" "LClownsMourn$City;") (List.mem_of_getElem? (i := 1) rfl)
  have hl := lv_entry ([.ref (h 0), .int p1]) (n := 4) (Nat.le_of_ble_eq_true rfl)
  rw [lg_entry_eq]
  generalize (lg_sl ([.ref (h 0), .int p1]) ++ List.replicate (4 - (lg_sl ([.ref (h 0), .int p1])).length) Slot.unset).toArray = ls at hl ⊢
  have hl : lv_has ls 4 [(0, .ref (h 0)), (1, .int p1)] := hl
  unfold wC_X11_clocks at hw
  clear hD0
  have L_17 : ∀ (n17 : Nat) (x1 : Int32) (x2 : Int32) (x3 : Int32) (S : CS) (H : Heap) (locs : List Loc) (ls : Array Slot), wC_X11_clocks_17 post n17 x1 x2 x3 S → va_P D vwCl (wC h cy S) H → va_D A (wC h cy S) → va_S A s.heap H locs → lv_has ls 4 [(0, .ref (h 0)), (1, .int x1), (2, .int x2), (3, .int x3)] → W p l e (headSpec wsX11_clocks { frames := 2, cells := 0, slots := 0, locals := 43 }).room s m (([.ref (h 0), .int p1] : List Value).toArray) below meth c H locs 0 0 (MQ below (va_Qi post (k_Post D (tyC cy) (wC h cy) A) A) (([.ref (h 0), .int p1] : List Value).toArray) s 0 0 A) (F0 m 17 ls []) := by
    intro n17
    induction n17 with
    | zero => intro x1 x2 x3 S H locs ls hw; exact False.elim hw
    | succ n17 ih_17 =>
      intro x1 x2 x3 S H locs ls hw hP hD hS hl
      unfold wC_X11_clocks_17 at hw
      refine lv_iload_n hx hb dX11_clocks_17 rfl (lv_at hl 3 rfl) ?_
      refine lv_aload_n hx hb dX11_clocks_18 rfl (lv_at hl 0 rfl) ?_
      refine va_get (D := D) (ci := 10) (v := .ref (h 1)) (C := RX11) (T := TX11) (N := 9) hx hb hts hin11 hown hK hP 0 rfl rfl 0 (by decide) w10 (fun _ h9 => h9) rfl dX11_clocks_19 ?_
      refine e_callVi (As := []) (rest := [.int x3]) clE_stable hs ⟨hx, hb, hml, hown, hts⟩ (cC_X0_houseCount l D h cy _ _ hw) (cwV 0 hts gX11_clocks_X0_houseCount rfl rfl rfl (by decide +kernel) ⟨Nat.le_of_ble_eq_true rfl, Nat.le_of_ble_eq_true rfl⟩) (va_recv hK hP (ci := 0) (q0 := 1) rfl rfl) hK hP hD hS hA rfl hl.1 rfl (Nat.le_of_ble_eq_true rfl) dX11_clocks_22 ⟨Nat.zero_le _, Nat.zero_le _⟩ (fun r_1 S_2 H locs hw hP hD hS => ?_)
      obtain ⟨hc_3t, hc_3f⟩ := hw
      refine lv_icmp_ge (tgt := 54) hx hb dX11_clocks_25 (by decide) (fun c_3 => ?_) (fun c_3 => ?_)
      · have hw := hc_3t c_3
        clear hc_3t hc_3f
        refine lv_iload_n hx hb dX11_clocks_54 rfl (lv_at hl 2 rfl) ?_
        exact W.iret (v := x2) hx hb hr (fun t ht hW => ⟨⟨x2, S_2, rfl, hw, by rw [ht]; exact hP, va_K.moved hW.alike hK, hD⟩, hS.F ht⟩) hS.2.2 dX11_clocks_55
      · have hw := hc_3f c_3
        clear hc_3t hc_3f
        refine lv_aload_n hx hb dX11_clocks_28 rfl (lv_at hl 0 rfl) ?_
        refine va_get (D := D) (ci := 10) (v := .ref (h 1)) (C := RX11) (T := TX11) (N := 9) hx hb hts hin11 hown hK hP 0 rfl rfl 0 (by decide) w10 (fun _ h9 => h9) rfl dX11_clocks_29 ?_
        refine lv_bipush (v := 12) hx hb dX11_clocks_32 (by decide) ?_
        refine lv_iload_n hx hb dX11_clocks_34 rfl (lv_at hl 3 rfl) ?_
        refine e_callVi (As := [.int 12, .int x3]) (rest := []) clE_stable hs ⟨hx, hb, hml, hown, hts⟩ (cC_X0_see l D h cy _ _ _ _ hw) (cwV 2 hts gX11_clocks_X0_see rfl rfl rfl (by decide +kernel) ⟨Nat.le_of_ble_eq_true rfl, Nat.le_of_ble_eq_true rfl⟩) (va_recv hK hP (ci := 0) (q0 := 1) rfl rfl) hK hP hD hS hA rfl hl.1 rfl (Nat.le_of_ble_eq_true rfl) dX11_clocks_35 ⟨Nat.zero_le _, Nat.zero_le _⟩ (fun r_4 S_5 H locs hw hP hD hS => ?_)
        refine lv_iload_n hx hb dX11_clocks_38 rfl (lv_at hl 1 rfl) ?_
        obtain ⟨hc_6t, hc_6f⟩ := hw
        refine lv_icmp_ne (tgt := 48) hx hb dX11_clocks_39 (by decide) (fun c_6 => ?_) (fun c_6 => ?_)
        · have hw := hc_6f c_6
          clear hc_6t hc_6f
          refine lv_iinc (v := x3 + 1) (lv' := [(3, .int (x3 + 1)), (0, .ref (h 0)), (1, .int x1), (2, .int x2)]) hx hb dX11_clocks_48 hl (k := 3) rfl (k_inc (by decide)) (by decide) rfl (fun ls hl => ?_)
          refine lv_goto (tgt := 17) hx hb dX11_clocks_51 (by decide) ?_
          exact ih_17 x1 x2 (x3 + 1) S_5 _ _ _ hw hP hD hS (lv_sub hl [1, 2, 3, 0] rfl)
        · have hw := hc_6t c_6
          clear hc_6t hc_6f
          refine lv_iload_n hx hb dX11_clocks_42 rfl (lv_at hl 2 rfl) ?_
          refine lv_iconst (v := 1) hx hb dX11_clocks_43 (by decide) ?_
          refine lv_iload_n hx hb dX11_clocks_44 rfl (lv_at hl 3 rfl) ?_
          refine k_ishl hx hb dX11_clocks_45 ?_
          refine lv_ior hx hb dX11_clocks_46 ?_
          refine lv_istore_n (lv' := [(2, .int (x2 ||| (k_shl 1 x3))), (0, .ref (h 0)), (1, .int x1), (3, .int x3)]) hx hb dX11_clocks_47 rfl hl (by decide) rfl (fun ls hl => ?_)
          refine lv_iinc (v := x3 + 1) (lv' := [(3, .int (x3 + 1)), (2, .int (x2 ||| (k_shl 1 x3))), (0, .ref (h 0)), (1, .int x1)]) hx hb dX11_clocks_48 hl (k := 3) rfl (k_inc (by decide)) (by decide) rfl (fun ls hl => ?_)
          refine lv_goto (tgt := 17) hx hb dX11_clocks_51 (by decide) ?_
          exact ih_17 x1 (x2 ||| (k_shl 1 x3)) (x3 + 1) S_5 _ _ _ hw hP hD hS (lv_sub hl [2, 3, 1, 0] rfl)
  refine lv_aload_n hx hb dX11_clocks_0 rfl (lv_at hl 0 rfl) ?_
  refine va_get (D := D) (ci := 10) (v := .ref (h 1)) (C := RX11) (T := TX11) (N := 9) hx hb hts hin11 hown hK hP 0 rfl rfl 0 (by decide) w10 (fun _ h9 => h9) rfl dX11_clocks_1 ?_
  refine lv_iload_n hx hb dX11_clocks_4 rfl (lv_at hl 1 rfl) ?_
  refine e_callVi (As := [.int p1]) (rest := []) clE_stable hs ⟨hx, hb, hml, hown, hts⟩ (cC_X0_hasClown l D h cy _ _ _ hw) (cwV 1 hts gX11_clocks_X0_hasClown rfl rfl rfl (by decide +kernel) ⟨Nat.le_of_ble_eq_true rfl, Nat.le_of_ble_eq_true rfl⟩) (va_recv hK hP (ci := 0) (q0 := 1) rfl rfl) hK hP hD hS hA rfl hl.1 rfl (Nat.le_of_ble_eq_true rfl) dX11_clocks_5 ⟨Nat.zero_le _, Nat.zero_le _⟩ (fun r_7 S_8 H locs hw hP hD hS => ?_)
  obtain ⟨hc_9t, hc_9f⟩ := hw
  refine lv_if_ne (tgt := 13) hx hb dX11_clocks_8 (by decide) (fun c_9 => ?_) (fun c_9 => ?_)
  · have hw := hc_9f c_9
    clear hc_9t hc_9f
    refine lv_iconst (v := 0) hx hb dX11_clocks_13 (by decide) ?_
    refine lv_istore_n (lv' := [(2, .int 0), (0, .ref (h 0)), (1, .int p1)]) hx hb dX11_clocks_14 rfl hl (by decide) rfl (fun ls hl => ?_)
    refine lv_iconst (v := 0) hx hb dX11_clocks_15 (by decide) ?_
    refine lv_istore_n (lv' := [(3, .int 0), (2, .int 0), (0, .ref (h 0)), (1, .int p1)]) hx hb dX11_clocks_16 rfl hl (by decide) rfl (fun ls hl => ?_)
    obtain ⟨n_17, hw⟩ := hw
    exact L_17 n_17 p1 0 0 S_8 _ _ _ hw hP hD hS (lv_sub hl [2, 3, 1, 0] rfl)
  · have hw := hc_9t c_9
    clear hc_9t hc_9f
    refine lv_iconst (v := (-1)) hx hb dX11_clocks_11 (by decide) ?_
    exact W.iret (v := (-1)) hx hb hr (fun t ht hW => ⟨⟨(-1), S_8, rfl, hw, by rw [ht]; exact hP, va_K.moved hW.alike hK, hD⟩, hS.F ht⟩) hS.2.2 dX11_clocks_12
def wC_X0_highest_5 (post : Int32 → CS → Prop) : Nat → Int32 → Int32 → Int32 → Int32 → CS → Prop
  | 0, _, _, _, _, _ => False
  | n + 1, x1, x2, x3, x4, S => ((x2 ≤ x4 → post x3 S) ∧ (¬ (x2 ≤ x4) → ((x3 = (-1) → wC_X0_highest_5 post n x1 x2 x4 (x4 + 1) S) ∧ (¬ (x3 = (-1)) → wC_X0_see x1 x4 S (fun r_3 S_4 => wC_X0_see x1 x3 S_4 (fun r_5 S_6 => ((r_3 ≤ r_5 → wC_X0_highest_5 post n x1 x2 x3 (x4 + 1) S_6) ∧ (¬ (r_3 ≤ r_5) → wC_X0_highest_5 post n x1 x2 x4 (x4 + 1) S_6))))))))
def wC_X0_highest (p1 : Int32) (p2 : Int32) (S : CS) (post : Int32 → CS → Prop) : Prop := ∃ k_ : Nat, wC_X0_highest_5 post k_ p1 p2 (-1) 0 S
set_option maxHeartbeats 4000000 in
set_option maxRecDepth 100000 in
theorem cC_X0_highest (l : Launch) (D : va_G) (h : Nat → Nat) (cy : Nat → ClassId) (p1 : Int32) (p2 : Int32) (S : CS) (post : Int32 → CS → Prop) (hw : wC_X0_highest p1 p2 S post) : e_Mi clE l yX0_highest wsX0_highest { frames := 2, cells := 0, slots := 0, locals := 43 } D (tyC cy) (wC h cy) [.ref (h 1), .int p1, .int p2] S post := by
  intro sz
  refine Met.ofW (cc := cX0_highest) (maxL := 5) (ret := (some .int)) (by decide) rfl ?_
  intro p e s m args below meth c s₁ B hml hv
  obtain ⟨rfl, hsz, hP, hK, hD0, hs⟩ := hv
  have hx := B.exec
  have hb := B.bytes
  have hr := B.returns
  have hts := atoms_spec (ws := wsX0_highest) B.pre
  have hown : s.vm.findClass RX0 = some m.cls := findClass_of_methodNamed B.named
  have hlocks := B.notSynchronized
  subst hsz
  have hD := hD0.self (sz := s.heap.size)
  generalize hAe : va_A (wC h cy S) s.heap.size = A at hD hs ⊢
  have hA : ∀ q : Nat, s.heap.size ≤ q → A q := fun q h => by rw [← hAe]; exact Or.inr h
  have hS : va_S A s.heap s.heap [] := va_S.rf
  have hl := lv_entry ([.ref (h 1), .int p1, .int p2]) (n := 5) (Nat.le_of_ble_eq_true rfl)
  rw [lg_entry_eq]
  generalize (lg_sl ([.ref (h 1), .int p1, .int p2]) ++ List.replicate (5 - (lg_sl ([.ref (h 1), .int p1, .int p2])).length) Slot.unset).toArray = ls at hl ⊢
  have hl : lv_has ls 5 [(0, .ref (h 1)), (1, .int p1), (2, .int p2)] := hl
  unfold wC_X0_highest at hw
  clear hD0
  have L_5 : ∀ (n5 : Nat) (x1 : Int32) (x2 : Int32) (x3 : Int32) (x4 : Int32) (S : CS) (H : Heap) (locs : List Loc) (ls : Array Slot), wC_X0_highest_5 post n5 x1 x2 x3 x4 S → va_P D vwCl (wC h cy S) H → va_D A (wC h cy S) → va_S A s.heap H locs → lv_has ls 5 [(0, .ref (h 1)), (1, .int x1), (2, .int x2), (3, .int x3), (4, .int x4)] → W p l e (headSpec wsX0_highest { frames := 2, cells := 0, slots := 0, locals := 43 }).room s m (([.ref (h 1), .int p1, .int p2] : List Value).toArray) below meth c H locs 0 0 (MQ below (va_Qi post (k_Post D (tyC cy) (wC h cy) A) A) (([.ref (h 1), .int p1, .int p2] : List Value).toArray) s 0 0 A) (F0 m 5 ls []) := by
    intro n5
    induction n5 with
    | zero => intro x1 x2 x3 x4 S H locs ls hw; exact False.elim hw
    | succ n5 ih_5 =>
      intro x1 x2 x3 x4 S H locs ls hw hP hD hS hl
      unfold wC_X0_highest_5 at hw
      refine lv_iload hx hb dX0_highest_5 (lv_at hl 4 rfl) ?_
      refine lv_iload_n hx hb dX0_highest_7 rfl (lv_at hl 2 rfl) ?_
      obtain ⟨hc_1t, hc_1f⟩ := hw
      refine lv_icmp_ge (tgt := 41) hx hb dX0_highest_8 (by decide) (fun c_1 => ?_) (fun c_1 => ?_)
      · have hw := hc_1t c_1
        clear hc_1t hc_1f
        refine lv_iload_n hx hb dX0_highest_41 rfl (lv_at hl 3 rfl) ?_
        exact W.iret (v := x3) hx hb hr (fun t ht hW => ⟨⟨x3, S, rfl, hw, by rw [ht]; exact hP, va_K.moved hW.alike hK, hD⟩, hS.F ht⟩) hS.2.2 dX0_highest_42
      · have hw := hc_1f c_1
        clear hc_1t hc_1f
        refine lv_iload_n hx hb dX0_highest_11 rfl (lv_at hl 3 rfl) ?_
        refine lv_iconst (v := (-1)) hx hb dX0_highest_12 (by decide) ?_
        obtain ⟨hc_2t, hc_2f⟩ := hw
        refine lv_icmp_eq (tgt := 32) hx hb dX0_highest_13 (by decide) (fun c_2 => ?_) (fun c_2 => ?_)
        · have hw := hc_2t c_2
          clear hc_2t hc_2f
          refine lv_iload hx hb dX0_highest_32 (lv_at hl 4 rfl) ?_
          refine lv_istore_n (lv' := [(3, .int x4), (0, .ref (h 1)), (1, .int x1), (2, .int x2), (4, .int x4)]) hx hb dX0_highest_34 rfl hl (by decide) rfl (fun ls hl => ?_)
          refine lv_iinc (v := x4 + 1) (lv' := [(4, .int (x4 + 1)), (3, .int x4), (0, .ref (h 1)), (1, .int x1), (2, .int x2)]) hx hb dX0_highest_35 hl (k := 4) rfl (k_inc (by decide)) (by decide) rfl (fun ls hl => ?_)
          refine lv_goto (tgt := 5) hx hb dX0_highest_38 (by decide) ?_
          exact ih_5 x1 x2 x4 (x4 + 1) S _ _ _ hw hP hD hS (lv_sub hl [2, 3, 4, 1, 0] rfl)
        · have hw := hc_2f c_2
          clear hc_2t hc_2f
          refine lv_aload_n hx hb dX0_highest_16 rfl (lv_at hl 0 rfl) ?_
          refine lv_iload_n hx hb dX0_highest_17 rfl (lv_at hl 1 rfl) ?_
          refine lv_iload hx hb dX0_highest_18 (lv_at hl 4 rfl) ?_
          refine e_callVi (As := [.int x1, .int x4]) (rest := []) clE_stable hs ⟨hx, hb, hml, hown, hts⟩ (cC_X0_see l D h cy _ _ _ _ hw) (cwV 2 hts gX0_highest_X0_see rfl rfl rfl (by decide +kernel) ⟨Nat.le_of_ble_eq_true rfl, Nat.le_of_ble_eq_true rfl⟩) (va_recv hK hP (ci := 0) (q0 := 1) rfl rfl) hK hP hD hS hA rfl hl.1 rfl (Nat.le_of_ble_eq_true rfl) dX0_highest_20 ⟨Nat.zero_le _, Nat.zero_le _⟩ (fun r_3 S_4 H locs hw hP hD hS => ?_)
          refine lv_aload_n hx hb dX0_highest_23 rfl (lv_at hl 0 rfl) ?_
          refine lv_iload_n hx hb dX0_highest_24 rfl (lv_at hl 1 rfl) ?_
          refine lv_iload_n hx hb dX0_highest_25 rfl (lv_at hl 3 rfl) ?_
          refine e_callVi (As := [.int x1, .int x3]) (rest := [.int r_3]) clE_stable hs ⟨hx, hb, hml, hown, hts⟩ (cC_X0_see l D h cy _ _ _ _ hw) (cwV 2 hts gX0_highest_X0_see rfl rfl rfl (by decide +kernel) ⟨Nat.le_of_ble_eq_true rfl, Nat.le_of_ble_eq_true rfl⟩) (va_recv hK hP (ci := 0) (q0 := 1) rfl rfl) hK hP hD hS hA rfl hl.1 rfl (Nat.le_of_ble_eq_true rfl) dX0_highest_26 ⟨Nat.zero_le _, Nat.zero_le _⟩ (fun r_5 S_6 H locs hw hP hD hS => ?_)
          obtain ⟨hc_7t, hc_7f⟩ := hw
          refine lv_icmp_le (tgt := 35) hx hb dX0_highest_29 (by decide) (fun c_7 => ?_) (fun c_7 => ?_)
          · have hw := hc_7t c_7
            clear hc_7t hc_7f
            refine lv_iinc (v := x4 + 1) (lv' := [(4, .int (x4 + 1)), (0, .ref (h 1)), (1, .int x1), (2, .int x2), (3, .int x3)]) hx hb dX0_highest_35 hl (k := 4) rfl (k_inc (by decide)) (by decide) rfl (fun ls hl => ?_)
            refine lv_goto (tgt := 5) hx hb dX0_highest_38 (by decide) ?_
            exact ih_5 x1 x2 x3 (x4 + 1) S_6 _ _ _ hw hP hD hS (lv_sub hl [1, 2, 3, 4, 0] rfl)
          · have hw := hc_7f c_7
            clear hc_7t hc_7f
            refine lv_iload hx hb dX0_highest_32 (lv_at hl 4 rfl) ?_
            refine lv_istore_n (lv' := [(3, .int x4), (0, .ref (h 1)), (1, .int x1), (2, .int x2), (4, .int x4)]) hx hb dX0_highest_34 rfl hl (by decide) rfl (fun ls hl => ?_)
            refine lv_iinc (v := x4 + 1) (lv' := [(4, .int (x4 + 1)), (3, .int x4), (0, .ref (h 1)), (1, .int x1), (2, .int x2)]) hx hb dX0_highest_35 hl (k := 4) rfl (k_inc (by decide)) (by decide) rfl (fun ls hl => ?_)
            refine lv_goto (tgt := 5) hx hb dX0_highest_38 (by decide) ?_
            exact ih_5 x1 x2 x4 (x4 + 1) S_6 _ _ _ hw hP hD hS (lv_sub hl [2, 3, 4, 1, 0] rfl)
  refine lv_iconst (v := (-1)) hx hb dX0_highest_0 (by decide) ?_
  refine lv_istore_n (lv' := [(3, .int (-1)), (0, .ref (h 1)), (1, .int p1), (2, .int p2)]) hx hb dX0_highest_1 rfl hl (by decide) rfl (fun ls hl => ?_)
  refine lv_iconst (v := 0) hx hb dX0_highest_2 (by decide) ?_
  refine lv_istore (lv' := [(4, .int 0), (3, .int (-1)), (0, .ref (h 1)), (1, .int p1), (2, .int p2)]) hx hb dX0_highest_3 hl (by decide) rfl (fun ls hl => ?_)
  obtain ⟨n_5, hw⟩ := hw
  exact L_5 n_5 p1 p2 (-1) 0 S _ _ _ hw hP hD hS (lv_sub hl [2, 3, 4, 1, 0] rfl)
def wC_X11_saddest (S : CS) (post : Int32 → CS → Prop) : Prop := wC_X0_houseCount S (fun r_1 S_2 => wC_X0_highest 0 r_1 S_2 (fun r_3 S_4 => post r_3 S_4))
set_option maxHeartbeats 4000000 in
set_option maxRecDepth 100000 in
theorem cC_X11_saddest (l : Launch) (D : va_G) (h : Nat → Nat) (cy : Nat → ClassId) (S : CS) (post : Int32 → CS → Prop) (hw : wC_X11_saddest S post) : e_Mi clE l yX11_saddest wsX11_saddest { frames := 3, cells := 0, slots := 0, locals := 67 } D (tyC cy) (wC h cy) [.ref (h 0)] S post := by
  intro sz
  refine Met.ofW (cc := cX11_saddest) (maxL := 1) (ret := (some .int)) (by decide) rfl ?_
  intro p e s m args below meth c s₁ B hml hv
  obtain ⟨rfl, hsz, hP, hK, hD0, hs⟩ := hv
  have hx := B.exec
  have hb := B.bytes
  have hr := B.returns
  have hts := atoms_spec (ws := wsX11_saddest) B.pre
  have hown : s.vm.findClass RX11 = some m.cls := findClass_of_methodNamed B.named
  have hlocks := B.notSynchronized
  subst hsz
  have hD := hD0.self (sz := s.heap.size)
  generalize hAe : va_A (wC h cy S) s.heap.size = A at hD hs ⊢
  have hA : ∀ q : Nat, s.heap.size ≤ q → A q := fun q h => by rw [← hAe]; exact Or.inr h
  have hS : va_S A s.heap s.heap [] := va_S.rf
  have hin11 : ∀ w ∈ wsX110, w ∈ wsX11_saddest := fun _ h => List.mem_cons_of_mem _ (List.mem_append_left _ (List.mem_append_right _ h))
  have hin0 : ∀ w ∈ wsX00, w ∈ wsX11_saddest := fun _ h => List.mem_cons_of_mem _ (List.mem_append_right _ h)
  have w10 := hts (.fieldLink RX11 10 "ClownsMourn" "city" "LClownsMourn$City;") (List.mem_of_getElem? (i := 1) rfl)
  have hl := lv_entry ([.ref (h 0)]) (n := 1) (Nat.le_of_ble_eq_true rfl)
  rw [lg_entry_eq]
  generalize (lg_sl ([.ref (h 0)]) ++ List.replicate (1 - (lg_sl ([.ref (h 0)])).length) Slot.unset).toArray = ls at hl ⊢
  have hl : lv_has ls 1 [(0, .ref (h 0))] := hl
  unfold wC_X11_saddest at hw
  clear hD0
  refine lv_aload_n hx hb dX11_saddest_0 rfl (lv_at hl 0 rfl) ?_
  refine va_get (D := D) (ci := 10) (v := .ref (h 1)) (C := RX11) (T := TX11) (N := 9) hx hb hts hin11 hown hK hP 0 rfl rfl 0 (by decide) w10 (fun _ h9 => h9) rfl dX11_saddest_1 ?_
  refine lv_iconst (v := 0) hx hb dX11_saddest_4 (by decide) ?_
  refine lv_aload_n hx hb dX11_saddest_5 rfl (lv_at hl 0 rfl) ?_
  refine va_get (D := D) (ci := 10) (v := .ref (h 1)) (C := RX11) (T := TX11) (N := 9) hx hb hts hin11 hown hK hP 0 rfl rfl 0 (by decide) w10 (fun _ h9 => h9) rfl dX11_saddest_6 ?_
  refine e_callVi (As := []) (rest := [.int 0, .ref (h 1)]) clE_stable hs ⟨hx, hb, hml, hown, hts⟩ (cC_X0_houseCount l D h cy _ _ hw) (cwV 0 hts gX11_saddest_X0_houseCount rfl rfl rfl (by decide +kernel) ⟨Nat.le_of_ble_eq_true rfl, Nat.le_of_ble_eq_true rfl⟩) (va_recv hK hP (ci := 0) (q0 := 1) rfl rfl) hK hP hD hS hA rfl hl.1 rfl (Nat.le_of_ble_eq_true rfl) dX11_saddest_9 ⟨Nat.zero_le _, Nat.zero_le _⟩ (fun r_1 S_2 H locs hw hP hD hS => ?_)
  refine e_callVi (As := [.int 0, .int r_1]) (rest := []) clE_stable hs ⟨hx, hb, hml, hown, hts⟩ (cC_X0_highest l D h cy _ _ _ _ hw) (cwV 2 hts gX11_saddest_X0_highest rfl rfl rfl (by decide +kernel) ⟨Nat.le_of_ble_eq_true rfl, Nat.le_of_ble_eq_true rfl⟩) (va_recv hK hP (ci := 0) (q0 := 1) rfl rfl) hK hP hD hS hA rfl hl.1 rfl (Nat.le_of_ble_eq_true rfl) dX11_saddest_12 ⟨Nat.zero_le _, Nat.zero_le _⟩ (fun r_3 S_4 H locs hw hP hD hS => ?_)
  exact W.iret (v := r_3) hx hb hr (fun t ht hW => ⟨⟨r_3, S_4, rfl, hw, by rw [ht]; exact hP, va_K.moved hW.alike hK, hD⟩, hS.F ht⟩) hS.2.2 dX11_saddest_15
def wC_X11_tiredest (S : CS) (post : Int32 → CS → Prop) : Prop := wC_X0_clownCount S (fun r_1 S_2 => wC_X0_highest 24 r_1 S_2 (fun r_3 S_4 => post r_3 S_4))
set_option maxHeartbeats 4000000 in
set_option maxRecDepth 100000 in
theorem cC_X11_tiredest (l : Launch) (D : va_G) (h : Nat → Nat) (cy : Nat → ClassId) (S : CS) (post : Int32 → CS → Prop) (hw : wC_X11_tiredest S post) : e_Mi clE l yX11_tiredest wsX11_tiredest { frames := 3, cells := 0, slots := 0, locals := 67 } D (tyC cy) (wC h cy) [.ref (h 0)] S post := by
  intro sz
  refine Met.ofW (cc := cX11_tiredest) (maxL := 1) (ret := (some .int)) (by decide) rfl ?_
  intro p e s m args below meth c s₁ B hml hv
  obtain ⟨rfl, hsz, hP, hK, hD0, hs⟩ := hv
  have hx := B.exec
  have hb := B.bytes
  have hr := B.returns
  have hts := atoms_spec (ws := wsX11_tiredest) B.pre
  have hown : s.vm.findClass RX11 = some m.cls := findClass_of_methodNamed B.named
  have hlocks := B.notSynchronized
  subst hsz
  have hD := hD0.self (sz := s.heap.size)
  generalize hAe : va_A (wC h cy S) s.heap.size = A at hD hs ⊢
  have hA : ∀ q : Nat, s.heap.size ≤ q → A q := fun q h => by rw [← hAe]; exact Or.inr h
  have hS : va_S A s.heap s.heap [] := va_S.rf
  have hin11 : ∀ w ∈ wsX110, w ∈ wsX11_tiredest := fun _ h => List.mem_cons_of_mem _ (List.mem_append_left _ (List.mem_append_right _ h))
  have hin0 : ∀ w ∈ wsX00, w ∈ wsX11_tiredest := fun _ h => List.mem_cons_of_mem _ (List.mem_append_right _ h)
  have w10 := hts (.fieldLink RX11 10 "ClownsMourn" "city" "LClownsMourn$City;") (List.mem_of_getElem? (i := 1) rfl)
  have hl := lv_entry ([.ref (h 0)]) (n := 1) (Nat.le_of_ble_eq_true rfl)
  rw [lg_entry_eq]
  generalize (lg_sl ([.ref (h 0)]) ++ List.replicate (1 - (lg_sl ([.ref (h 0)])).length) Slot.unset).toArray = ls at hl ⊢
  have hl : lv_has ls 1 [(0, .ref (h 0))] := hl
  unfold wC_X11_tiredest at hw
  clear hD0
  refine lv_aload_n hx hb dX11_tiredest_0 rfl (lv_at hl 0 rfl) ?_
  refine va_get (D := D) (ci := 10) (v := .ref (h 1)) (C := RX11) (T := TX11) (N := 9) hx hb hts hin11 hown hK hP 0 rfl rfl 0 (by decide) w10 (fun _ h9 => h9) rfl dX11_tiredest_1 ?_
  refine lv_bipush (v := 24) hx hb dX11_tiredest_4 (by decide) ?_
  refine lv_aload_n hx hb dX11_tiredest_6 rfl (lv_at hl 0 rfl) ?_
  refine va_get (D := D) (ci := 10) (v := .ref (h 1)) (C := RX11) (T := TX11) (N := 9) hx hb hts hin11 hown hK hP 0 rfl rfl 0 (by decide) w10 (fun _ h9 => h9) rfl dX11_tiredest_7 ?_
  refine e_callVi (As := []) (rest := [.int 24, .ref (h 1)]) clE_stable hs ⟨hx, hb, hml, hown, hts⟩ (cC_X0_clownCount l D h cy _ _ hw) (cwV 0 hts gX11_tiredest_X0_clownCount rfl rfl rfl (by decide +kernel) ⟨Nat.le_of_ble_eq_true rfl, Nat.le_of_ble_eq_true rfl⟩) (va_recv hK hP (ci := 0) (q0 := 1) rfl rfl) hK hP hD hS hA rfl hl.1 rfl (Nat.le_of_ble_eq_true rfl) dX11_tiredest_10 ⟨Nat.zero_le _, Nat.zero_le _⟩ (fun r_1 S_2 H locs hw hP hD hS => ?_)
  refine e_callVi (As := [.int 24, .int r_1]) (rest := []) clE_stable hs ⟨hx, hb, hml, hown, hts⟩ (cC_X0_highest l D h cy _ _ _ _ hw) (cwV 2 hts gX11_tiredest_X0_highest rfl rfl rfl (by decide +kernel) ⟨Nat.le_of_ble_eq_true rfl, Nat.le_of_ble_eq_true rfl⟩) (va_recv hK hP (ci := 0) (q0 := 1) rfl rfl) hK hP hD hS hA rfl hl.1 rfl (Nat.le_of_ble_eq_true rfl) dX11_tiredest_13 ⟨Nat.zero_le _, Nat.zero_le _⟩ (fun r_3 S_4 H locs hw hP hD hS => ?_)
  exact W.iret (v := r_3) hx hb hr (fun t ht hW => ⟨⟨r_3, S_4, rfl, hw, by rw [ht]; exact hP, va_K.moved hW.alike hK, hD⟩, hS.F ht⟩) hS.2.2 dX11_tiredest_16
def wC_X11_sitting_4 (post : Int32 → CS → Prop) : Nat → Int32 → Int32 → CS → Prop
  | 0, _, _, _ => False
  | n + 1, x1, x2, S => wC_X0_clownCount S (fun r_1 S_2 => ((r_1 ≤ x2 → post x1 S_2) ∧ (¬ (r_1 ≤ x2) → wC_X0_isOut x2 S_2 (fun r_4 S_5 => ((r_4 = 0 → wC_X11_sitting_4 post n x1 (x2 + 1) S_5) ∧ (¬ (r_4 = 0) → wC_X0_see 24 x2 S_5 (fun r_7 S_8 => ((r_7 = 9 → wC_X11_sitting_4 post n (x1 ||| (k_shl 1 x2)) (x2 + 1) S_8) ∧ (¬ (r_7 = 9) → wC_X11_sitting_4 post n x1 (x2 + 1) S_8)))))))))
def wC_X11_sitting (S : CS) (post : Int32 → CS → Prop) : Prop := ∃ k_ : Nat, wC_X11_sitting_4 post k_ 0 0 S
set_option maxHeartbeats 4000000 in
set_option maxRecDepth 100000 in
theorem cC_X11_sitting (l : Launch) (D : va_G) (h : Nat → Nat) (cy : Nat → ClassId) (S : CS) (post : Int32 → CS → Prop) (hw : wC_X11_sitting S post) : e_Mi clE l yX11_sitting wsX11_sitting { frames := 3, cells := 0, slots := 0, locals := 64 } D (tyC cy) (wC h cy) [.ref (h 0)] S post := by
  intro sz
  refine Met.ofW (cc := cX11_sitting) (maxL := 3) (ret := (some .int)) (by decide) rfl ?_
  intro p e s m args below meth c s₁ B hml hv
  obtain ⟨rfl, hsz, hP, hK, hD0, hs⟩ := hv
  have hx := B.exec
  have hb := B.bytes
  have hr := B.returns
  have hts := atoms_spec (ws := wsX11_sitting) B.pre
  have hown : s.vm.findClass RX11 = some m.cls := findClass_of_methodNamed B.named
  have hlocks := B.notSynchronized
  subst hsz
  have hD := hD0.self (sz := s.heap.size)
  generalize hAe : va_A (wC h cy S) s.heap.size = A at hD hs ⊢
  have hA : ∀ q : Nat, s.heap.size ≤ q → A q := fun q h => by rw [← hAe]; exact Or.inr h
  have hS : va_S A s.heap s.heap [] := va_S.rf
  have hin11 : ∀ w ∈ wsX110, w ∈ wsX11_sitting := fun _ h => List.mem_cons_of_mem _ (List.mem_append_left _ (List.mem_append_right _ h))
  have hin0 : ∀ w ∈ wsX00, w ∈ wsX11_sitting := fun _ h => List.mem_cons_of_mem _ (List.mem_append_right _ h)
  have w10 := hts (.fieldLink RX11 10 "ClownsMourn" "city" "LClownsMourn$City;") (List.mem_of_getElem? (i := 1) rfl)
  have hl := lv_entry ([.ref (h 0)]) (n := 3) (Nat.le_of_ble_eq_true rfl)
  rw [lg_entry_eq]
  generalize (lg_sl ([.ref (h 0)]) ++ List.replicate (3 - (lg_sl ([.ref (h 0)])).length) Slot.unset).toArray = ls at hl ⊢
  have hl : lv_has ls 3 [(0, .ref (h 0))] := hl
  unfold wC_X11_sitting at hw
  clear hD0
  have L_4 : ∀ (n4 : Nat) (x1 : Int32) (x2 : Int32) (S : CS) (H : Heap) (locs : List Loc) (ls : Array Slot), wC_X11_sitting_4 post n4 x1 x2 S → va_P D vwCl (wC h cy S) H → va_D A (wC h cy S) → va_S A s.heap H locs → lv_has ls 3 [(0, .ref (h 0)), (1, .int x1), (2, .int x2)] → W p l e (headSpec wsX11_sitting { frames := 3, cells := 0, slots := 0, locals := 64 }).room s m (([.ref (h 0)] : List Value).toArray) below meth c H locs 0 0 (MQ below (va_Qi post (k_Post D (tyC cy) (wC h cy) A) A) (([.ref (h 0)] : List Value).toArray) s 0 0 A) (F0 m 4 ls []) := by
    intro n4
    induction n4 with
    | zero => intro x1 x2 S H locs ls hw; exact False.elim hw
    | succ n4 ih_4 =>
      intro x1 x2 S H locs ls hw hP hD hS hl
      unfold wC_X11_sitting_4 at hw
      refine lv_iload_n hx hb dX11_sitting_4 rfl (lv_at hl 2 rfl) ?_
      refine lv_aload_n hx hb dX11_sitting_5 rfl (lv_at hl 0 rfl) ?_
      refine va_get (D := D) (ci := 10) (v := .ref (h 1)) (C := RX11) (T := TX11) (N := 9) hx hb hts hin11 hown hK hP 0 rfl rfl 0 (by decide) w10 (fun _ h9 => h9) rfl dX11_sitting_6 ?_
      refine e_callVi (As := []) (rest := [.int x2]) clE_stable hs ⟨hx, hb, hml, hown, hts⟩ (cC_X0_clownCount l D h cy _ _ hw) (cwV 0 hts gX11_sitting_X0_clownCount rfl rfl rfl (by decide +kernel) ⟨Nat.le_of_ble_eq_true rfl, Nat.le_of_ble_eq_true rfl⟩) (va_recv hK hP (ci := 0) (q0 := 1) rfl rfl) hK hP hD hS hA rfl hl.1 rfl (Nat.le_of_ble_eq_true rfl) dX11_sitting_9 ⟨Nat.zero_le _, Nat.zero_le _⟩ (fun r_1 S_2 H locs hw hP hD hS => ?_)
      obtain ⟨hc_3t, hc_3f⟩ := hw
      refine lv_icmp_ge (tgt := 53) hx hb dX11_sitting_12 (by decide) (fun c_3 => ?_) (fun c_3 => ?_)
      · have hw := hc_3t c_3
        clear hc_3t hc_3f
        refine lv_iload_n hx hb dX11_sitting_53 rfl (lv_at hl 1 rfl) ?_
        exact W.iret (v := x1) hx hb hr (fun t ht hW => ⟨⟨x1, S_2, rfl, hw, by rw [ht]; exact hP, va_K.moved hW.alike hK, hD⟩, hS.F ht⟩) hS.2.2 dX11_sitting_54
      · have hw := hc_3f c_3
        clear hc_3t hc_3f
        refine lv_aload_n hx hb dX11_sitting_15 rfl (lv_at hl 0 rfl) ?_
        refine va_get (D := D) (ci := 10) (v := .ref (h 1)) (C := RX11) (T := TX11) (N := 9) hx hb hts hin11 hown hK hP 0 rfl rfl 0 (by decide) w10 (fun _ h9 => h9) rfl dX11_sitting_16 ?_
        refine lv_iload_n hx hb dX11_sitting_19 rfl (lv_at hl 2 rfl) ?_
        refine e_callVi (As := [.int x2]) (rest := []) clE_stable hs ⟨hx, hb, hml, hown, hts⟩ (cC_X0_isOut l D h cy _ _ _ hw) (cwV 1 hts gX11_sitting_X0_isOut rfl rfl rfl (by decide +kernel) ⟨Nat.le_of_ble_eq_true rfl, Nat.le_of_ble_eq_true rfl⟩) (va_recv hK hP (ci := 0) (q0 := 1) rfl rfl) hK hP hD hS hA rfl hl.1 rfl (Nat.le_of_ble_eq_true rfl) dX11_sitting_20 ⟨Nat.zero_le _, Nat.zero_le _⟩ (fun r_4 S_5 H locs hw hP hD hS => ?_)
        obtain ⟨hc_6t, hc_6f⟩ := hw
        refine lv_if_eq (tgt := 47) hx hb dX11_sitting_23 (by decide) (fun c_6 => ?_) (fun c_6 => ?_)
        · have hw := hc_6t c_6
          clear hc_6t hc_6f
          refine lv_iinc (v := x2 + 1) (lv' := [(2, .int (x2 + 1)), (0, .ref (h 0)), (1, .int x1)]) hx hb dX11_sitting_47 hl (k := 2) rfl (k_inc (by decide)) (by decide) rfl (fun ls hl => ?_)
          refine lv_goto (tgt := 4) hx hb dX11_sitting_50 (by decide) ?_
          exact ih_4 x1 (x2 + 1) S_5 _ _ _ hw hP hD hS (lv_sub hl [1, 2, 0] rfl)
        · have hw := hc_6f c_6
          clear hc_6t hc_6f
          refine lv_aload_n hx hb dX11_sitting_26 rfl (lv_at hl 0 rfl) ?_
          refine va_get (D := D) (ci := 10) (v := .ref (h 1)) (C := RX11) (T := TX11) (N := 9) hx hb hts hin11 hown hK hP 0 rfl rfl 0 (by decide) w10 (fun _ h9 => h9) rfl dX11_sitting_27 ?_
          refine lv_bipush (v := 24) hx hb dX11_sitting_30 (by decide) ?_
          refine lv_iload_n hx hb dX11_sitting_32 rfl (lv_at hl 2 rfl) ?_
          refine e_callVi (As := [.int 24, .int x2]) (rest := []) clE_stable hs ⟨hx, hb, hml, hown, hts⟩ (cC_X0_see l D h cy _ _ _ _ hw) (cwV 2 hts gX11_sitting_X0_see rfl rfl rfl (by decide +kernel) ⟨Nat.le_of_ble_eq_true rfl, Nat.le_of_ble_eq_true rfl⟩) (va_recv hK hP (ci := 0) (q0 := 1) rfl rfl) hK hP hD hS hA rfl hl.1 rfl (Nat.le_of_ble_eq_true rfl) dX11_sitting_33 ⟨Nat.zero_le _, Nat.zero_le _⟩ (fun r_7 S_8 H locs hw hP hD hS => ?_)
          refine lv_bipush (v := 9) hx hb dX11_sitting_36 (by decide) ?_
          obtain ⟨hc_9t, hc_9f⟩ := hw
          refine lv_icmp_ne (tgt := 47) hx hb dX11_sitting_38 (by decide) (fun c_9 => ?_) (fun c_9 => ?_)
          · have hw := hc_9f c_9
            clear hc_9t hc_9f
            refine lv_iinc (v := x2 + 1) (lv' := [(2, .int (x2 + 1)), (0, .ref (h 0)), (1, .int x1)]) hx hb dX11_sitting_47 hl (k := 2) rfl (k_inc (by decide)) (by decide) rfl (fun ls hl => ?_)
            refine lv_goto (tgt := 4) hx hb dX11_sitting_50 (by decide) ?_
            exact ih_4 x1 (x2 + 1) S_8 _ _ _ hw hP hD hS (lv_sub hl [1, 2, 0] rfl)
          · have hw := hc_9t c_9
            clear hc_9t hc_9f
            refine lv_iload_n hx hb dX11_sitting_41 rfl (lv_at hl 1 rfl) ?_
            refine lv_iconst (v := 1) hx hb dX11_sitting_42 (by decide) ?_
            refine lv_iload_n hx hb dX11_sitting_43 rfl (lv_at hl 2 rfl) ?_
            refine k_ishl hx hb dX11_sitting_44 ?_
            refine lv_ior hx hb dX11_sitting_45 ?_
            refine lv_istore_n (lv' := [(1, .int (x1 ||| (k_shl 1 x2))), (0, .ref (h 0)), (2, .int x2)]) hx hb dX11_sitting_46 rfl hl (by decide) rfl (fun ls hl => ?_)
            refine lv_iinc (v := x2 + 1) (lv' := [(2, .int (x2 + 1)), (1, .int (x1 ||| (k_shl 1 x2))), (0, .ref (h 0))]) hx hb dX11_sitting_47 hl (k := 2) rfl (k_inc (by decide)) (by decide) rfl (fun ls hl => ?_)
            refine lv_goto (tgt := 4) hx hb dX11_sitting_50 (by decide) ?_
            exact ih_4 (x1 ||| (k_shl 1 x2)) (x2 + 1) S_8 _ _ _ hw hP hD hS (lv_sub hl [2, 1, 0] rfl)
  refine lv_iconst (v := 0) hx hb dX11_sitting_0 (by decide) ?_
  refine lv_istore_n (lv' := [(1, .int 0), (0, .ref (h 0))]) hx hb dX11_sitting_1 rfl hl (by decide) rfl (fun ls hl => ?_)
  refine lv_iconst (v := 0) hx hb dX11_sitting_2 (by decide) ?_
  refine lv_istore_n (lv' := [(2, .int 0), (1, .int 0), (0, .ref (h 0))]) hx hb dX11_sitting_3 rfl hl (by decide) rfl (fun ls hl => ?_)
  obtain ⟨n_4, hw⟩ := hw
  exact L_4 n_4 0 0 S _ _ _ hw hP hD hS (lv_sub hl [2, 1, 0] rfl)
def wC_X11_ledger_23 (post : Int32 → CS → Prop) : Nat → Int32 → Int32 → Int32 → CS → Prop
  | 0, _, _, _, _ => False
  | n + 1, x1, x2, x3, S => wC_X0_see 41 0 S (fun r_1 S_2 => ((r_1 ≤ x3 → post x2 S_2) ∧ (¬ (r_1 ≤ x3) → ((30 ≤ x3 → post x2 S_2) ∧ (¬ (30 ≤ x3) → ((x1 = (-1) → wC_X11_ledger_23 post n x1 (x2 + 1) (x3 + 1) S_2) ∧ (¬ (x1 = (-1)) → wC_X0_see 42 x3 S_2 (fun r_6 S_7 => (((r_6 &&& 7) = x1 → wC_X11_ledger_23 post n x1 (x2 + 1) (x3 + 1) S_7) ∧ (¬ ((r_6 &&& 7) = x1) → wC_X11_ledger_23 post n x1 x2 (x3 + 1) S_7))))))))))
def wC_X11_ledger (p1 : Int32) (S : CS) (post : Int32 → CS → Prop) : Prop := ((p1 = (-1) → ∃ k_ : Nat, wC_X11_ledger_23 post k_ p1 0 0 S) ∧ (¬ (p1 = (-1)) → wC_X0_hasClown p1 S (fun r_2 S_3 => ((r_2 = 0 → post (-2) S_3) ∧ (¬ (r_2 = 0) → ∃ k_ : Nat, wC_X11_ledger_23 post k_ p1 0 0 S_3)))))
set_option maxHeartbeats 4000000 in
set_option maxRecDepth 100000 in
theorem cC_X11_ledger (l : Launch) (D : va_G) (h : Nat → Nat) (cy : Nat → ClassId) (p1 : Int32) (S : CS) (post : Int32 → CS → Prop) (hw : wC_X11_ledger p1 S post) : e_Mi clE l yX11_ledger wsX11_ledger { frames := 2, cells := 0, slots := 0, locals := 43 } D (tyC cy) (wC h cy) [.ref (h 0), .int p1] S post := by
  intro sz
  refine Met.ofW (cc := cX11_ledger) (maxL := 4) (ret := (some .int)) (by decide) rfl ?_
  intro p e s m args below meth c s₁ B hml hv
  obtain ⟨rfl, hsz, hP, hK, hD0, hs⟩ := hv
  have hx := B.exec
  have hb := B.bytes
  have hr := B.returns
  have hts := atoms_spec (ws := wsX11_ledger) B.pre
  have hown : s.vm.findClass RX11 = some m.cls := findClass_of_methodNamed B.named
  have hlocks := B.notSynchronized
  subst hsz
  have hD := hD0.self (sz := s.heap.size)
  generalize hAe : va_A (wC h cy S) s.heap.size = A at hD hs ⊢
  have hA : ∀ q : Nat, s.heap.size ≤ q → A q := fun q h => by rw [← hAe]; exact Or.inr h
  have hS : va_S A s.heap s.heap [] := va_S.rf
  have hin11 : ∀ w ∈ wsX110, w ∈ wsX11_ledger := fun _ h => List.mem_cons_of_mem _ (List.mem_append_left _ (List.mem_append_right _ h))
  have hin0 : ∀ w ∈ wsX00, w ∈ wsX11_ledger := fun _ h => List.mem_cons_of_mem _ (List.mem_append_right _ h)
  have w10 := hts (.fieldLink RX11 10 "ClownsMourn" "city" "LClownsMourn$City;") (List.mem_of_getElem? (i := 1) rfl)
  have hl := lv_entry ([.ref (h 0), .int p1]) (n := 4) (Nat.le_of_ble_eq_true rfl)
  rw [lg_entry_eq]
  generalize (lg_sl ([.ref (h 0), .int p1]) ++ List.replicate (4 - (lg_sl ([.ref (h 0), .int p1])).length) Slot.unset).toArray = ls at hl ⊢
  have hl : lv_has ls 4 [(0, .ref (h 0)), (1, .int p1)] := hl
  unfold wC_X11_ledger at hw
  clear hD0
  have L_23 : ∀ (n23 : Nat) (x1 : Int32) (x2 : Int32) (x3 : Int32) (S : CS) (H : Heap) (locs : List Loc) (ls : Array Slot), wC_X11_ledger_23 post n23 x1 x2 x3 S → va_P D vwCl (wC h cy S) H → va_D A (wC h cy S) → va_S A s.heap H locs → lv_has ls 4 [(0, .ref (h 0)), (1, .int x1), (2, .int x2), (3, .int x3)] → W p l e (headSpec wsX11_ledger { frames := 2, cells := 0, slots := 0, locals := 43 }).room s m (([.ref (h 0), .int p1] : List Value).toArray) below meth c H locs 0 0 (MQ below (va_Qi post (k_Post D (tyC cy) (wC h cy) A) A) (([.ref (h 0), .int p1] : List Value).toArray) s 0 0 A) (F0 m 23 ls []) := by
    intro n23
    induction n23 with
    | zero => intro x1 x2 x3 S H locs ls hw; exact False.elim hw
    | succ n23 ih_23 =>
      intro x1 x2 x3 S H locs ls hw hP hD hS hl
      unfold wC_X11_ledger_23 at hw
      refine lv_iload_n hx hb dX11_ledger_23 rfl (lv_at hl 3 rfl) ?_
      refine lv_aload_n hx hb dX11_ledger_24 rfl (lv_at hl 0 rfl) ?_
      refine va_get (D := D) (ci := 10) (v := .ref (h 1)) (C := RX11) (T := TX11) (N := 9) hx hb hts hin11 hown hK hP 0 rfl rfl 0 (by decide) w10 (fun _ h9 => h9) rfl dX11_ledger_25 ?_
      refine lv_bipush (v := 41) hx hb dX11_ledger_28 (by decide) ?_
      refine lv_iconst (v := 0) hx hb dX11_ledger_30 (by decide) ?_
      refine e_callVi (As := [.int 41, .int 0]) (rest := [.int x3]) clE_stable hs ⟨hx, hb, hml, hown, hts⟩ (cC_X0_see l D h cy _ _ _ _ hw) (cwV 2 hts gX11_ledger_X0_see rfl rfl rfl (by decide +kernel) ⟨Nat.le_of_ble_eq_true rfl, Nat.le_of_ble_eq_true rfl⟩) (va_recv hK hP (ci := 0) (q0 := 1) rfl rfl) hK hP hD hS hA rfl hl.1 rfl (Nat.le_of_ble_eq_true rfl) dX11_ledger_31 ⟨Nat.zero_le _, Nat.zero_le _⟩ (fun r_1 S_2 H locs hw hP hD hS => ?_)
      obtain ⟨hc_3t, hc_3f⟩ := hw
      refine lv_icmp_ge (tgt := 74) hx hb dX11_ledger_34 (by decide) (fun c_3 => ?_) (fun c_3 => ?_)
      · have hw := hc_3t c_3
        clear hc_3t hc_3f
        refine lv_iload_n hx hb dX11_ledger_74 rfl (lv_at hl 2 rfl) ?_
        exact W.iret (v := x2) hx hb hr (fun t ht hW => ⟨⟨x2, S_2, rfl, hw, by rw [ht]; exact hP, va_K.moved hW.alike hK, hD⟩, hS.F ht⟩) hS.2.2 dX11_ledger_75
      · have hw := hc_3f c_3
        clear hc_3t hc_3f
        refine lv_iload_n hx hb dX11_ledger_37 rfl (lv_at hl 3 rfl) ?_
        refine lv_bipush (v := 30) hx hb dX11_ledger_38 (by decide) ?_
        obtain ⟨hc_4t, hc_4f⟩ := hw
        refine lv_icmp_ge (tgt := 74) hx hb dX11_ledger_40 (by decide) (fun c_4 => ?_) (fun c_4 => ?_)
        · have hw := hc_4t c_4
          clear hc_4t hc_4f
          refine lv_iload_n hx hb dX11_ledger_74 rfl (lv_at hl 2 rfl) ?_
          exact W.iret (v := x2) hx hb hr (fun t ht hW => ⟨⟨x2, S_2, rfl, hw, by rw [ht]; exact hP, va_K.moved hW.alike hK, hD⟩, hS.F ht⟩) hS.2.2 dX11_ledger_75
        · have hw := hc_4f c_4
          clear hc_4t hc_4f
          refine lv_iload_n hx hb dX11_ledger_43 rfl (lv_at hl 1 rfl) ?_
          refine lv_iconst (v := (-1)) hx hb dX11_ledger_44 (by decide) ?_
          obtain ⟨hc_5t, hc_5f⟩ := hw
          refine lv_icmp_eq (tgt := 65) hx hb dX11_ledger_45 (by decide) (fun c_5 => ?_) (fun c_5 => ?_)
          · have hw := hc_5t c_5
            clear hc_5t hc_5f
            refine lv_iinc (v := x2 + 1) (lv' := [(2, .int (x2 + 1)), (0, .ref (h 0)), (1, .int x1), (3, .int x3)]) hx hb dX11_ledger_65 hl (k := 2) rfl (k_inc (by decide)) (by decide) rfl (fun ls hl => ?_)
            refine lv_iinc (v := x3 + 1) (lv' := [(3, .int (x3 + 1)), (2, .int (x2 + 1)), (0, .ref (h 0)), (1, .int x1)]) hx hb dX11_ledger_68 hl (k := 3) rfl (k_inc (by decide)) (by decide) rfl (fun ls hl => ?_)
            refine lv_goto (tgt := 23) hx hb dX11_ledger_71 (by decide) ?_
            exact ih_23 x1 (x2 + 1) (x3 + 1) S_2 _ _ _ hw hP hD hS (lv_sub hl [2, 3, 1, 0] rfl)
          · have hw := hc_5f c_5
            clear hc_5t hc_5f
            refine lv_aload_n hx hb dX11_ledger_48 rfl (lv_at hl 0 rfl) ?_
            refine va_get (D := D) (ci := 10) (v := .ref (h 1)) (C := RX11) (T := TX11) (N := 9) hx hb hts hin11 hown hK hP 0 rfl rfl 0 (by decide) w10 (fun _ h9 => h9) rfl dX11_ledger_49 ?_
            refine lv_bipush (v := 42) hx hb dX11_ledger_52 (by decide) ?_
            refine lv_iload_n hx hb dX11_ledger_54 rfl (lv_at hl 3 rfl) ?_
            refine e_callVi (As := [.int 42, .int x3]) (rest := []) clE_stable hs ⟨hx, hb, hml, hown, hts⟩ (cC_X0_see l D h cy _ _ _ _ hw) (cwV 2 hts gX11_ledger_X0_see rfl rfl rfl (by decide +kernel) ⟨Nat.le_of_ble_eq_true rfl, Nat.le_of_ble_eq_true rfl⟩) (va_recv hK hP (ci := 0) (q0 := 1) rfl rfl) hK hP hD hS hA rfl hl.1 rfl (Nat.le_of_ble_eq_true rfl) dX11_ledger_55 ⟨Nat.zero_le _, Nat.zero_le _⟩ (fun r_6 S_7 H locs hw hP hD hS => ?_)
            refine lv_bipush (v := 7) hx hb dX11_ledger_58 (by decide) ?_
            refine lv_iand hx hb dX11_ledger_60 ?_
            refine lv_iload_n hx hb dX11_ledger_61 rfl (lv_at hl 1 rfl) ?_
            obtain ⟨hc_8t, hc_8f⟩ := hw
            refine lv_icmp_ne (tgt := 68) hx hb dX11_ledger_62 (by decide) (fun c_8 => ?_) (fun c_8 => ?_)
            · have hw := hc_8f c_8
              clear hc_8t hc_8f
              refine lv_iinc (v := x3 + 1) (lv' := [(3, .int (x3 + 1)), (0, .ref (h 0)), (1, .int x1), (2, .int x2)]) hx hb dX11_ledger_68 hl (k := 3) rfl (k_inc (by decide)) (by decide) rfl (fun ls hl => ?_)
              refine lv_goto (tgt := 23) hx hb dX11_ledger_71 (by decide) ?_
              exact ih_23 x1 x2 (x3 + 1) S_7 _ _ _ hw hP hD hS (lv_sub hl [1, 2, 3, 0] rfl)
            · have hw := hc_8t c_8
              clear hc_8t hc_8f
              refine lv_iinc (v := x2 + 1) (lv' := [(2, .int (x2 + 1)), (0, .ref (h 0)), (1, .int x1), (3, .int x3)]) hx hb dX11_ledger_65 hl (k := 2) rfl (k_inc (by decide)) (by decide) rfl (fun ls hl => ?_)
              refine lv_iinc (v := x3 + 1) (lv' := [(3, .int (x3 + 1)), (2, .int (x2 + 1)), (0, .ref (h 0)), (1, .int x1)]) hx hb dX11_ledger_68 hl (k := 3) rfl (k_inc (by decide)) (by decide) rfl (fun ls hl => ?_)
              refine lv_goto (tgt := 23) hx hb dX11_ledger_71 (by decide) ?_
              exact ih_23 x1 (x2 + 1) (x3 + 1) S_7 _ _ _ hw hP hD hS (lv_sub hl [2, 3, 1, 0] rfl)
  refine lv_iload_n hx hb dX11_ledger_0 rfl (lv_at hl 1 rfl) ?_
  refine lv_iconst (v := (-1)) hx hb dX11_ledger_1 (by decide) ?_
  obtain ⟨hc_9t, hc_9f⟩ := hw
  refine lv_icmp_eq (tgt := 19) hx hb dX11_ledger_2 (by decide) (fun c_9 => ?_) (fun c_9 => ?_)
  · have hw := hc_9t c_9
    clear hc_9t hc_9f
    refine lv_iconst (v := 0) hx hb dX11_ledger_19 (by decide) ?_
    refine lv_istore_n (lv' := [(2, .int 0), (0, .ref (h 0)), (1, .int p1)]) hx hb dX11_ledger_20 rfl hl (by decide) rfl (fun ls hl => ?_)
    refine lv_iconst (v := 0) hx hb dX11_ledger_21 (by decide) ?_
    refine lv_istore_n (lv' := [(3, .int 0), (2, .int 0), (0, .ref (h 0)), (1, .int p1)]) hx hb dX11_ledger_22 rfl hl (by decide) rfl (fun ls hl => ?_)
    obtain ⟨n_23, hw⟩ := hw
    exact L_23 n_23 p1 0 0 S _ _ _ hw hP hD hS (lv_sub hl [2, 3, 1, 0] rfl)
  · have hw := hc_9f c_9
    clear hc_9t hc_9f
    refine lv_aload_n hx hb dX11_ledger_5 rfl (lv_at hl 0 rfl) ?_
    refine va_get (D := D) (ci := 10) (v := .ref (h 1)) (C := RX11) (T := TX11) (N := 9) hx hb hts hin11 hown hK hP 0 rfl rfl 0 (by decide) w10 (fun _ h9 => h9) rfl dX11_ledger_6 ?_
    refine lv_iload_n hx hb dX11_ledger_9 rfl (lv_at hl 1 rfl) ?_
    refine e_callVi (As := [.int p1]) (rest := []) clE_stable hs ⟨hx, hb, hml, hown, hts⟩ (cC_X0_hasClown l D h cy _ _ _ hw) (cwV 1 hts gX11_ledger_X0_hasClown rfl rfl rfl (by decide +kernel) ⟨Nat.le_of_ble_eq_true rfl, Nat.le_of_ble_eq_true rfl⟩) (va_recv hK hP (ci := 0) (q0 := 1) rfl rfl) hK hP hD hS hA rfl hl.1 rfl (Nat.le_of_ble_eq_true rfl) dX11_ledger_10 ⟨Nat.zero_le _, Nat.zero_le _⟩ (fun r_10 S_11 H locs hw hP hD hS => ?_)
    obtain ⟨hc_12t, hc_12f⟩ := hw
    refine lv_if_ne (tgt := 19) hx hb dX11_ledger_13 (by decide) (fun c_12 => ?_) (fun c_12 => ?_)
    · have hw := hc_12f c_12
      clear hc_12t hc_12f
      refine lv_iconst (v := 0) hx hb dX11_ledger_19 (by decide) ?_
      refine lv_istore_n (lv' := [(2, .int 0), (0, .ref (h 0)), (1, .int p1)]) hx hb dX11_ledger_20 rfl hl (by decide) rfl (fun ls hl => ?_)
      refine lv_iconst (v := 0) hx hb dX11_ledger_21 (by decide) ?_
      refine lv_istore_n (lv' := [(3, .int 0), (2, .int 0), (0, .ref (h 0)), (1, .int p1)]) hx hb dX11_ledger_22 rfl hl (by decide) rfl (fun ls hl => ?_)
      obtain ⟨n_23, hw⟩ := hw
      exact L_23 n_23 p1 0 0 S_11 _ _ _ hw hP hD hS (lv_sub hl [2, 3, 1, 0] rfl)
    · have hw := hc_12t c_12
      clear hc_12t hc_12f
      refine lv_bipush (v := (-2)) hx hb dX11_ledger_16 (by decide) ?_
      exact W.iret (v := (-2)) hx hb hr (fun t ht hW => ⟨⟨(-2), S_11, rfl, hw, by rw [ht]; exact hP, va_K.moved hW.alike hK, hD⟩, hS.F ht⟩) hS.2.2 dX11_ledger_18
def wC_X8_becomes_k_csteps (S : CS) (post : CS → Prop) : Prop := (∀ S_1 : CS, S_1 = (cx_set_ks_rows S (k_copyW 2220 2220 (cx_cs_rows S) (cx_ks_rows S))) → (∀ S_2 : CS, S_2 = (cx_set_ks_first S_1 (cx_cs_first S_1)) → (∀ S_3 : CS, S_3 = (cx_set_ks_count S_2 (cx_cs_count S_2)) → post S_3)))
set_option maxHeartbeats 4000000 in
set_option maxRecDepth 100000 in
theorem cC_X8_becomes_k_csteps (l : Launch) (D : va_G) (h : Nat → Nat) (cy : Nat → ClassId) (S : CS) (post : CS → Prop) (hw : wC_X8_becomes_k_csteps S post) : e_Mv clE l yX8_becomes wsX8_becomes { frames := 3, cells := 0, slots := 0, locals := 105 } D (tyC cy) (wC h cy) [.ref (h 4), .ref (h 2)] S post := by
  intro sz
  refine Met.ofW (cc := cX8_becomes) (maxL := 2) (ret := none) (by decide) rfl ?_
  intro p e s m args below meth c s₁ B hml hv
  obtain ⟨rfl, hsz, hP, hK, hD0, hs⟩ := hv
  have hx := B.exec
  have hb := B.bytes
  have hr := B.returns
  have hts := atoms_spec (ws := wsX8_becomes) B.pre
  have hown : s.vm.findClass RX8 = some m.cls := findClass_of_methodNamed B.named
  have hlocks := B.notSynchronized
  subst hsz
  have hD := hD0.self (sz := s.heap.size)
  generalize hAe : va_A (wC h cy S) s.heap.size = A at hD hs ⊢
  have hA : ∀ q : Nat, s.heap.size ≤ q → A q := fun q h => by rw [← hAe]; exact Or.inr h
  have hS : va_S A s.heap s.heap [] := va_S.rf
  have hin8 : ∀ w ∈ wsX80, w ∈ wsX8_becomes := fun _ h => List.mem_cons_of_mem _ (List.mem_append_right _ h)
  have w11 := hts (.fieldLink RX8 11 "ClownsMourn$Steps" "rows" "[I") (List.mem_of_getElem? (i := 1) rfl)
  have w15 := hts (.fieldLink RX8 15 "ClownsMourn$Steps" "first" "I") (List.mem_of_getElem? (i := 2) rfl)
  have w19 := hts (.fieldLink RX8 19 "ClownsMourn$Steps" "count" "I") (List.mem_of_getElem? (i := 3) rfl)
  have wiX11 := hts (.initialized RX11) (List.mem_of_getElem? (i := 5) rfl)
  have wstcopyWhole := hts (.static yX11_copyWhole) (List.mem_of_getElem? (i := 4) rfl)
  have hl := lv_entry ([.ref (h 4), .ref (h 2)]) (n := 2) (Nat.le_of_ble_eq_true rfl)
  rw [lg_entry_eq]
  generalize (lg_sl ([.ref (h 4), .ref (h 2)]) ++ List.replicate (2 - (lg_sl ([.ref (h 4), .ref (h 2)])).length) Slot.unset).toArray = ls at hl ⊢
  have hl : lv_has ls 2 [(0, .ref (h 4)), (1, .ref (h 2))] := hl
  unfold wC_X8_becomes_k_csteps at hw
  clear hD0
  refine lv_aload_n hx hb dX8_becomes_0 rfl (lv_at hl 1 rfl) ?_
  refine va_get (D := D) (ci := 8) (v := .ref (h 23)) (C := RX8) (T := TX8) (N := 3) hx hb hts hin8 hown hK hP 2 rfl rfl 0 (by decide) w11 (fun _ h9 => h9) rfl dX8_becomes_1 ?_
  refine lv_aload_n hx hb dX8_becomes_4 rfl (lv_at hl 0 rfl) ?_
  refine va_get (D := D) (ci := 8) (v := .ref (h 35)) (C := RX8) (T := TX8) (N := 3) hx hb hts hin8 hown hK hP 4 rfl rfl 0 (by decide) w11 (fun _ h9 => h9) rfl dX8_becomes_5 ?_
  refine e_callNv (As := [.ref (h 23), .ref (h 35)]) (rest := []) clE_stable hs ⟨hx, hb, hml, hown, hts⟩ (cA_copyWhole l D clE clE_stable (tyC cy) (wC h cy) S 23 11 35 23 _ _ _ _ 2220 2220 cx_cs_rows cx_ks_rows cx_set_ks_rows rfl rfl (wCs_ks_rows h cy S) rfl rfl (by decide) (by decide) (fun S0 => S0 = (cx_set_ks_rows S (k_copyW 2220 2220 (cx_cs_rows S) (cx_ks_rows S)))) rfl) ⟨va_cnB 2 hts gX8_becomes_X11_copyWhole_n22 rfl rfl rfl hs.1.2.2.2.2.2.2.2.2.2.2.2.2.2.2.2.2.2.2.2.2.2.2.2.2.2.2.2.1 wiX11 (by decide +kernel) ⟨Nat.le_of_ble_eq_true rfl, Nat.le_of_ble_eq_true rfl⟩, wstcopyWhole, trivial⟩ hK hP hD hS hA rfl hl.1 rfl (Nat.le_of_ble_eq_true rfl) dX8_becomes_8 ⟨Nat.zero_le _, Nat.zero_le _⟩ (fun S_1 H locs eS_1 hP hD hS => ?_)
  replace hw := hw S_1 eS_1
  refine lv_aload_n hx hb dX8_becomes_11 rfl (lv_at hl 0 rfl) ?_
  refine lv_aload_n hx hb dX8_becomes_12 rfl (lv_at hl 1 rfl) ?_
  refine va_get (D := D) (ci := 8) (v := .int (cx_cs_first S_1)) (C := RX8) (T := TX8) (N := 3) hx hb hts hin8 hown hK hP 2 rfl rfl 1 (by decide) w15 (fun _ h9 => h9) rfl dX8_becomes_13 ?_
  refine va_put (D := D) (ci := 8) (v := .int (cx_cs_first S_1)) (ty := .int) (C := RX8) (T := TX8) (N := 3) hx hb hts hin8 tyX8 tyX8_ok nmX8 hown hK hP hD hS 4 rfl rfl 1 (by decide) w15 (fun _ h9 => h9) rfl (tyX8_ok 1 (by decide)) rfl rfl (Nat.le_of_ble_eq_true rfl) dX8_becomes_16 (fun H locs hP hD hS => ?_)
  obtain ⟨S_2, eS_2⟩ : ∃ z : CS, z = (cx_set_ks_first S_1 (cx_cs_first S_1)) := ⟨_, rfl⟩
  replace hw := hw S_2 eS_2
  have hP : va_P D vwCl (wC h cy S_2) H := by rw [eS_2, ← wCp_ks_first]; exact hP
  have hD : va_D A (wC h cy S_2) := by rw [eS_2, ← wCp_ks_first]; exact hD
  refine lv_aload_n hx hb dX8_becomes_19 rfl (lv_at hl 0 rfl) ?_
  refine lv_aload_n hx hb dX8_becomes_20 rfl (lv_at hl 1 rfl) ?_
  refine va_get (D := D) (ci := 8) (v := .int (cx_cs_count S_2)) (C := RX8) (T := TX8) (N := 3) hx hb hts hin8 hown hK hP 2 rfl rfl 2 (by decide) w19 (fun _ h9 => h9) rfl dX8_becomes_21 ?_
  refine va_put (D := D) (ci := 8) (v := .int (cx_cs_count S_2)) (ty := .int) (C := RX8) (T := TX8) (N := 3) hx hb hts hin8 tyX8 tyX8_ok nmX8 hown hK hP hD hS 4 rfl rfl 2 (by decide) w19 (fun _ h9 => h9) rfl (tyX8_ok 2 (by decide)) rfl rfl (Nat.le_of_ble_eq_true rfl) dX8_becomes_24 (fun H locs hP hD hS => ?_)
  obtain ⟨S_3, eS_3⟩ : ∃ z : CS, z = (cx_set_ks_count S_2 (cx_cs_count S_2)) := ⟨_, rfl⟩
  replace hw := hw S_3 eS_3
  have hP : va_P D vwCl (wC h cy S_3) H := by rw [eS_3, ← wCp_ks_count]; exact hP
  have hD : va_D A (wC h cy S_3) := by rw [eS_3, ← wCp_ks_count]; exact hD
  exact W.vret hx hb hr (fun t ht hW => ⟨⟨S_3, rfl, hw, by rw [ht]; exact hP, va_K.moved hW.alike hK, hD⟩, hS.F ht⟩) hS.2.2 dX8_becomes_27
def wC_X0_becomes_k_city_104 (post : CS → Prop) (S : CS) : Prop := (∀ S_1 : CS, S_1 = (cx_set_k_textCount S (cx_c_textCount S)) → (∀ S_2 : CS, S_2 = (cx_set_k_ruling S_1 (cx_c_ruling S_1)) → (∀ S_3 : CS, S_3 = (cx_set_k_costs S_2 (k_copyW 30 30 (cx_c_costs S_2) (cx_k_costs S_2))) → (∀ S_4 : CS, S_4 = (cx_set_k_trials S_3 (k_copyW 8 8 (cx_c_trials S_3) (cx_k_trials S_3))) → (∀ S_5 : CS, S_5 = (cx_set_k_trialCount S_4 (cx_c_trialCount S_4)) → (∀ S_6 : CS, S_6 = (cx_set_k_worths S_5 (k_copyW 16 16 (cx_c_worths S_5) (cx_k_worths S_5))) → (∀ S_7 : CS, S_7 = (cx_set_k_aheads S_6 (k_copyW 5 5 (cx_c_aheads S_6) (cx_k_aheads S_6))) → (∀ S_8 : CS, S_8 = (cx_set_k_growns S_7 (k_copyW 8 8 (cx_c_growns S_7) (cx_k_growns S_7))) → (∀ S_9 : CS, S_9 = (cx_set_k_grownCount S_8 (cx_c_grownCount S_8)) → post S_9)))))))))
def wC_X0_becomes_k_city_68 (post : CS → Prop) : Nat → Int32 → CS → Prop
  | 0, _, _ => False
  | n + 1, x2, S => ((4 ≤ x2 → wC_X0_becomes_k_city_104 post S) ∧ (¬ (4 ≤ x2) → ((4 ≤ x2 → wC_X0_becomes_k_city_104 post S) ∧ (¬ (4 ≤ x2) → (vp_in x2 4 ∧ (vp_in x2 4 ∧ (∀ a : Nat, (cx_c_texts S) x2.toNatClampNeg = some a → ∃ B : TB, (a, B) ∈ cx_px S) ∧ ∀ S_3 : CS, S_3 = (cx_set_k_texts S (va_up (cx_k_texts S) (x2.toNatClampNeg) ((cx_c_texts S) x2.toNatClampNeg))) → wC_X0_becomes_k_city_68 post n (x2 + 1) S_3))))))
def wC_X0_becomes_k_city (S : CS) (post : CS → Prop) : Prop := (∀ S_1 : CS, S_1 = (cx_set_k_now S (k_copyW 74 74 (cx_c_now S) (cx_k_now S))) → wC_X8_becomes_k_csteps S_1 (fun S_3 => (∀ S_4 : CS, S_4 = (cx_set_k_kinds S_3 (k_copyW 6 6 (cx_c_kinds S_3) (cx_k_kinds S_3))) → (∀ S_5 : CS, S_5 = (cx_set_k_skills S_4 (k_copyW 5 5 (cx_c_skills S_4) (cx_k_skills S_4))) → (∀ S_6 : CS, S_6 = (cx_set_k_ages S_5 (k_copyW 5 5 (cx_c_ages S_5) (cx_k_ages S_5))) → (∀ S_7 : CS, S_7 = (cx_set_k_turns S_6 (k_copyW 50 50 (cx_c_turns S_6) (cx_k_turns S_6))) → ∃ k_ : Nat, wC_X0_becomes_k_city_68 post k_ 0 S_7))))))
set_option maxHeartbeats 4000000 in
set_option maxRecDepth 100000 in
theorem cC_X0_becomes_k_city (l : Launch) (D : va_G) (h : Nat → Nat) (cy : Nat → ClassId) (S : CS) (post : CS → Prop) (hw : wC_X0_becomes_k_city S post) : e_Mv clE l yX0_becomes wsX0_becomes { frames := 4, cells := 0, slots := 0, locals := 126 } D (tyC cy) (wC h cy) [.ref (h 3), .ref (h 1)] S post := by
  intro sz
  refine Met.ofW (cc := cX0_becomes) (maxL := 3) (ret := none) (by decide) rfl ?_
  intro p e s m args below meth c s₁ B hml hv
  obtain ⟨rfl, hsz, hP, hK, hD0, hs⟩ := hv
  have hx := B.exec
  have hb := B.bytes
  have hr := B.returns
  have hts := atoms_spec (ws := wsX0_becomes) B.pre
  have hown : s.vm.findClass RX0 = some m.cls := findClass_of_methodNamed B.named
  have hlocks := B.notSynchronized
  subst hsz
  have hD := hD0.self (sz := s.heap.size)
  generalize hAe : va_A (wC h cy S) s.heap.size = A at hD hs ⊢
  have hA : ∀ q : Nat, s.heap.size ≤ q → A q := fun q h => by rw [← hAe]; exact Or.inr h
  have hS : va_S A s.heap s.heap [] := va_S.rf
  have hin0 : ∀ w ∈ wsX00, w ∈ wsX0_becomes := fun _ h => List.mem_cons_of_mem _ (List.mem_append_left _ (List.mem_append_right _ h))
  have hin8 : ∀ w ∈ wsX80, w ∈ wsX0_becomes := fun _ h => List.mem_cons_of_mem _ (List.mem_append_right _ h)
  have w11 := hts (.fieldLink RX0 11 "ClownsMourn$City" "now" "[I") (List.mem_of_getElem? (i := 1) rfl)
  have w18 := hts (.fieldLink RX0 18 "ClownsMourn$City" "steps" "LClownsMourn$Steps;") (List.mem_of_getElem? (i := 2) rfl)
  have w22 := hts (.fieldLink RX0 22 "ClownsMourn$City" "kinds" "[I") (List.mem_of_getElem? (i := 3) rfl)
  have w25 := hts (.fieldLink RX0 25 "ClownsMourn$City" "skills" "[I") (List.mem_of_getElem? (i := 4) rfl)
  have w28 := hts (.fieldLink RX0 28 "ClownsMourn$City" "ages" "[I") (List.mem_of_getElem? (i := 5) rfl)
  have w31 := hts (.fieldLink RX0 31 "ClownsMourn$City" "turns" "[I") (List.mem_of_getElem? (i := 6) rfl)
  have w36 := hts (.fieldLink RX0 36 "ClownsMourn$City" "texts" "[LClownsMourn$Text;") (List.mem_of_getElem? (i := 7) rfl)
  have w40 := hts (.fieldLink RX0 40 "ClownsMourn$City" "textCount" "I") (List.mem_of_getElem? (i := 8) rfl)
  have w44 := hts (.fieldLink RX0 44 "ClownsMourn$City" "ruling" "I") (List.mem_of_getElem? (i := 9) rfl)
  have w47 := hts (.fieldLink RX0 47 "ClownsMourn$City" "costs" "[I") (List.mem_of_getElem? (i := 10) rfl)
  have w50 := hts (.fieldLink RX0 50 "ClownsMourn$City" "trials" "[I") (List.mem_of_getElem? (i := 11) rfl)
  have w53 := hts (.fieldLink RX0 53 "ClownsMourn$City" "trialCount" "I") (List.mem_of_getElem? (i := 12) rfl)
  have w56 := hts (.fieldLink RX0 56 "ClownsMourn$City" "worths" "[I") (List.mem_of_getElem? (i := 13) rfl)
  have w59 := hts (.fieldLink RX0 59 "ClownsMourn$City" "aheads" "[I") (List.mem_of_getElem? (i := 14) rfl)
  have w62 := hts (.fieldLink RX0 62 "ClownsMourn$City" "growns" "[I") (List.mem_of_getElem? (i := 15) rfl)
  have w65 := hts (.fieldLink RX0 65 "ClownsMourn$City" "grownCount" "I") (List.mem_of_getElem? (i := 16) rfl)
  have wiX11 := hts (.initialized RX11) (List.mem_of_getElem? (i := 18) rfl)
  have wstcopyWhole := hts (.static yX11_copyWhole) (List.mem_of_getElem? (i := 17) rfl)
  have hl := lv_entry ([.ref (h 3), .ref (h 1)]) (n := 3) (Nat.le_of_ble_eq_true rfl)
  rw [lg_entry_eq]
  generalize (lg_sl ([.ref (h 3), .ref (h 1)]) ++ List.replicate (3 - (lg_sl ([.ref (h 3), .ref (h 1)])).length) Slot.unset).toArray = ls at hl ⊢
  have hl : lv_has ls 3 [(0, .ref (h 3)), (1, .ref (h 1))] := hl
  unfold wC_X0_becomes_k_city at hw
  clear hD0
  have J_104 : ∀ (S : CS) (H : Heap) (locs : List Loc) (ls : Array Slot), wC_X0_becomes_k_city_104 post S → va_P D vwCl (wC h cy S) H → va_D A (wC h cy S) → va_S A s.heap H locs → lv_has ls 3 [(0, .ref (h 3)), (1, .ref (h 1))] → W p l e (headSpec wsX0_becomes { frames := 4, cells := 0, slots := 0, locals := 126 }).room s m (([.ref (h 3), .ref (h 1)] : List Value).toArray) below meth c H locs 0 0 (MQ below (va_Qv post (k_Post D (tyC cy) (wC h cy) A) A) (([.ref (h 3), .ref (h 1)] : List Value).toArray) s 0 0 A) (F0 m 104 ls []) := by
    intro S H locs ls hw hP hD hS hl
    unfold wC_X0_becomes_k_city_104 at hw
    refine lv_aload_n hx hb dX0_becomes_104 rfl (lv_at hl 0 rfl) ?_
    refine lv_aload_n hx hb dX0_becomes_105 rfl (lv_at hl 1 rfl) ?_
    refine va_get (D := D) (ci := 0) (v := .int (cx_c_textCount S)) (C := RX0) (T := TX0) (N := 16) hx hb hts hin0 hown hK hP 1 rfl rfl 7 (by decide) w40 (fun _ h9 => h9) rfl dX0_becomes_106 ?_
    refine va_put (D := D) (ci := 0) (v := .int (cx_c_textCount S)) (ty := .int) (C := RX0) (T := TX0) (N := 16) hx hb hts hin0 tyX0 tyX0_ok nmX0 hown hK hP hD hS 3 rfl rfl 7 (by decide) w40 (fun _ h9 => h9) rfl (tyX0_ok 7 (by decide)) rfl rfl (Nat.le_of_ble_eq_true rfl) dX0_becomes_109 (fun H locs hP hD hS => ?_)
    obtain ⟨S_1, eS_1⟩ : ∃ z : CS, z = (cx_set_k_textCount S (cx_c_textCount S)) := ⟨_, rfl⟩
    replace hw := hw S_1 eS_1
    have hP : va_P D vwCl (wC h cy S_1) H := by rw [eS_1, ← wCp_k_textCount]; exact hP
    have hD : va_D A (wC h cy S_1) := by rw [eS_1, ← wCp_k_textCount]; exact hD
    refine lv_aload_n hx hb dX0_becomes_112 rfl (lv_at hl 0 rfl) ?_
    refine lv_aload_n hx hb dX0_becomes_113 rfl (lv_at hl 1 rfl) ?_
    refine va_get (D := D) (ci := 0) (v := .int (cx_c_ruling S_1)) (C := RX0) (T := TX0) (N := 16) hx hb hts hin0 hown hK hP 1 rfl rfl 8 (by decide) w44 (fun _ h9 => h9) rfl dX0_becomes_114 ?_
    refine va_put (D := D) (ci := 0) (v := .int (cx_c_ruling S_1)) (ty := .int) (C := RX0) (T := TX0) (N := 16) hx hb hts hin0 tyX0 tyX0_ok nmX0 hown hK hP hD hS 3 rfl rfl 8 (by decide) w44 (fun _ h9 => h9) rfl (tyX0_ok 8 (by decide)) rfl rfl (Nat.le_of_ble_eq_true rfl) dX0_becomes_117 (fun H locs hP hD hS => ?_)
    obtain ⟨S_2, eS_2⟩ : ∃ z : CS, z = (cx_set_k_ruling S_1 (cx_c_ruling S_1)) := ⟨_, rfl⟩
    replace hw := hw S_2 eS_2
    have hP : va_P D vwCl (wC h cy S_2) H := by rw [eS_2, ← wCp_k_ruling]; exact hP
    have hD : va_D A (wC h cy S_2) := by rw [eS_2, ← wCp_k_ruling]; exact hD
    refine lv_aload_n hx hb dX0_becomes_120 rfl (lv_at hl 1 rfl) ?_
    refine va_get (D := D) (ci := 0) (v := .ref (h 18)) (C := RX0) (T := TX0) (N := 16) hx hb hts hin0 hown hK hP 1 rfl rfl 9 (by decide) w47 (fun _ h9 => h9) rfl dX0_becomes_121 ?_
    refine lv_aload_n hx hb dX0_becomes_124 rfl (lv_at hl 0 rfl) ?_
    refine va_get (D := D) (ci := 0) (v := .ref (h 30)) (C := RX0) (T := TX0) (N := 16) hx hb hts hin0 hown hK hP 3 rfl rfl 9 (by decide) w47 (fun _ h9 => h9) rfl dX0_becomes_125 ?_
    refine e_callNv (As := [.ref (h 18), .ref (h 30)]) (rest := []) clE_stable hs ⟨hx, hb, hml, hown, hts⟩ (cA_copyWhole l D clE clE_stable (tyC cy) (wC h cy) S_2 18 6 30 18 _ _ _ _ 30 30 cx_c_costs cx_k_costs cx_set_k_costs rfl rfl (wCs_k_costs h cy S_2) rfl rfl (by decide) (by decide) (fun S0 => S0 = (cx_set_k_costs S_2 (k_copyW 30 30 (cx_c_costs S_2) (cx_k_costs S_2)))) rfl) ⟨va_cnB 2 hts gX0_becomes_X11_copyWhole_n78 rfl rfl rfl hs.1.2.2.2.2.2.2.2.2.2.2.2.2.2.2.2.2.2.2.2.2.2.2.2.2.2.2.1 wiX11 (by decide +kernel) ⟨Nat.le_of_ble_eq_true rfl, Nat.le_of_ble_eq_true rfl⟩, wstcopyWhole, trivial⟩ hK hP hD hS hA rfl hl.1 rfl (Nat.le_of_ble_eq_true rfl) dX0_becomes_128 ⟨Nat.zero_le _, Nat.zero_le _⟩ (fun S_3 H locs eS_3 hP hD hS => ?_)
    replace hw := hw S_3 eS_3
    refine lv_aload_n hx hb dX0_becomes_131 rfl (lv_at hl 1 rfl) ?_
    refine va_get (D := D) (ci := 0) (v := .ref (h 19)) (C := RX0) (T := TX0) (N := 16) hx hb hts hin0 hown hK hP 1 rfl rfl 10 (by decide) w50 (fun _ h9 => h9) rfl dX0_becomes_132 ?_
    refine lv_aload_n hx hb dX0_becomes_135 rfl (lv_at hl 0 rfl) ?_
    refine va_get (D := D) (ci := 0) (v := .ref (h 31)) (C := RX0) (T := TX0) (N := 16) hx hb hts hin0 hown hK hP 3 rfl rfl 10 (by decide) w50 (fun _ h9 => h9) rfl dX0_becomes_136 ?_
    refine e_callNv (As := [.ref (h 19), .ref (h 31)]) (rest := []) clE_stable hs ⟨hx, hb, hml, hown, hts⟩ (cA_copyWhole l D clE clE_stable (tyC cy) (wC h cy) S_3 19 7 31 19 _ _ _ _ 8 8 cx_c_trials cx_k_trials cx_set_k_trials rfl rfl (wCs_k_trials h cy S_3) rfl rfl (by decide) (by decide) (fun S0 => S0 = (cx_set_k_trials S_3 (k_copyW 8 8 (cx_c_trials S_3) (cx_k_trials S_3)))) rfl) ⟨va_cnB 2 hts gX0_becomes_X11_copyWhole_n78 rfl rfl rfl hs.1.2.2.2.2.2.2.2.2.2.2.2.2.2.2.2.2.2.2.2.2.2.2.2.2.2.2.1 wiX11 (by decide +kernel) ⟨Nat.le_of_ble_eq_true rfl, Nat.le_of_ble_eq_true rfl⟩, wstcopyWhole, trivial⟩ hK hP hD hS hA rfl hl.1 rfl (Nat.le_of_ble_eq_true rfl) dX0_becomes_139 ⟨Nat.zero_le _, Nat.zero_le _⟩ (fun S_4 H locs eS_4 hP hD hS => ?_)
    replace hw := hw S_4 eS_4
    refine lv_aload_n hx hb dX0_becomes_142 rfl (lv_at hl 0 rfl) ?_
    refine lv_aload_n hx hb dX0_becomes_143 rfl (lv_at hl 1 rfl) ?_
    refine va_get (D := D) (ci := 0) (v := .int (cx_c_trialCount S_4)) (C := RX0) (T := TX0) (N := 16) hx hb hts hin0 hown hK hP 1 rfl rfl 11 (by decide) w53 (fun _ h9 => h9) rfl dX0_becomes_144 ?_
    refine va_put (D := D) (ci := 0) (v := .int (cx_c_trialCount S_4)) (ty := .int) (C := RX0) (T := TX0) (N := 16) hx hb hts hin0 tyX0 tyX0_ok nmX0 hown hK hP hD hS 3 rfl rfl 11 (by decide) w53 (fun _ h9 => h9) rfl (tyX0_ok 11 (by decide)) rfl rfl (Nat.le_of_ble_eq_true rfl) dX0_becomes_147 (fun H locs hP hD hS => ?_)
    obtain ⟨S_5, eS_5⟩ : ∃ z : CS, z = (cx_set_k_trialCount S_4 (cx_c_trialCount S_4)) := ⟨_, rfl⟩
    replace hw := hw S_5 eS_5
    have hP : va_P D vwCl (wC h cy S_5) H := by rw [eS_5, ← wCp_k_trialCount]; exact hP
    have hD : va_D A (wC h cy S_5) := by rw [eS_5, ← wCp_k_trialCount]; exact hD
    refine lv_aload_n hx hb dX0_becomes_150 rfl (lv_at hl 1 rfl) ?_
    refine va_get (D := D) (ci := 0) (v := .ref (h 20)) (C := RX0) (T := TX0) (N := 16) hx hb hts hin0 hown hK hP 1 rfl rfl 12 (by decide) w56 (fun _ h9 => h9) rfl dX0_becomes_151 ?_
    refine lv_aload_n hx hb dX0_becomes_154 rfl (lv_at hl 0 rfl) ?_
    refine va_get (D := D) (ci := 0) (v := .ref (h 32)) (C := RX0) (T := TX0) (N := 16) hx hb hts hin0 hown hK hP 3 rfl rfl 12 (by decide) w56 (fun _ h9 => h9) rfl dX0_becomes_155 ?_
    refine e_callNv (As := [.ref (h 20), .ref (h 32)]) (rest := []) clE_stable hs ⟨hx, hb, hml, hown, hts⟩ (cA_copyWhole l D clE clE_stable (tyC cy) (wC h cy) S_5 20 8 32 20 _ _ _ _ 16 16 cx_c_worths cx_k_worths cx_set_k_worths rfl rfl (wCs_k_worths h cy S_5) rfl rfl (by decide) (by decide) (fun S0 => S0 = (cx_set_k_worths S_5 (k_copyW 16 16 (cx_c_worths S_5) (cx_k_worths S_5)))) rfl) ⟨va_cnB 2 hts gX0_becomes_X11_copyWhole_n78 rfl rfl rfl hs.1.2.2.2.2.2.2.2.2.2.2.2.2.2.2.2.2.2.2.2.2.2.2.2.2.2.2.1 wiX11 (by decide +kernel) ⟨Nat.le_of_ble_eq_true rfl, Nat.le_of_ble_eq_true rfl⟩, wstcopyWhole, trivial⟩ hK hP hD hS hA rfl hl.1 rfl (Nat.le_of_ble_eq_true rfl) dX0_becomes_158 ⟨Nat.zero_le _, Nat.zero_le _⟩ (fun S_6 H locs eS_6 hP hD hS => ?_)
    replace hw := hw S_6 eS_6
    refine lv_aload_n hx hb dX0_becomes_161 rfl (lv_at hl 1 rfl) ?_
    refine va_get (D := D) (ci := 0) (v := .ref (h 21)) (C := RX0) (T := TX0) (N := 16) hx hb hts hin0 hown hK hP 1 rfl rfl 13 (by decide) w59 (fun _ h9 => h9) rfl dX0_becomes_162 ?_
    refine lv_aload_n hx hb dX0_becomes_165 rfl (lv_at hl 0 rfl) ?_
    refine va_get (D := D) (ci := 0) (v := .ref (h 33)) (C := RX0) (T := TX0) (N := 16) hx hb hts hin0 hown hK hP 3 rfl rfl 13 (by decide) w59 (fun _ h9 => h9) rfl dX0_becomes_166 ?_
    refine e_callNv (As := [.ref (h 21), .ref (h 33)]) (rest := []) clE_stable hs ⟨hx, hb, hml, hown, hts⟩ (cA_copyWhole l D clE clE_stable (tyC cy) (wC h cy) S_6 21 9 33 21 _ _ _ _ 5 5 cx_c_aheads cx_k_aheads cx_set_k_aheads rfl rfl (wCs_k_aheads h cy S_6) rfl rfl (by decide) (by decide) (fun S0 => S0 = (cx_set_k_aheads S_6 (k_copyW 5 5 (cx_c_aheads S_6) (cx_k_aheads S_6)))) rfl) ⟨va_cnB 2 hts gX0_becomes_X11_copyWhole_n78 rfl rfl rfl hs.1.2.2.2.2.2.2.2.2.2.2.2.2.2.2.2.2.2.2.2.2.2.2.2.2.2.2.1 wiX11 (by decide +kernel) ⟨Nat.le_of_ble_eq_true rfl, Nat.le_of_ble_eq_true rfl⟩, wstcopyWhole, trivial⟩ hK hP hD hS hA rfl hl.1 rfl (Nat.le_of_ble_eq_true rfl) dX0_becomes_169 ⟨Nat.zero_le _, Nat.zero_le _⟩ (fun S_7 H locs eS_7 hP hD hS => ?_)
    replace hw := hw S_7 eS_7
    refine lv_aload_n hx hb dX0_becomes_172 rfl (lv_at hl 1 rfl) ?_
    refine va_get (D := D) (ci := 0) (v := .ref (h 22)) (C := RX0) (T := TX0) (N := 16) hx hb hts hin0 hown hK hP 1 rfl rfl 14 (by decide) w62 (fun _ h9 => h9) rfl dX0_becomes_173 ?_
    refine lv_aload_n hx hb dX0_becomes_176 rfl (lv_at hl 0 rfl) ?_
    refine va_get (D := D) (ci := 0) (v := .ref (h 34)) (C := RX0) (T := TX0) (N := 16) hx hb hts hin0 hown hK hP 3 rfl rfl 14 (by decide) w62 (fun _ h9 => h9) rfl dX0_becomes_177 ?_
    refine e_callNv (As := [.ref (h 22), .ref (h 34)]) (rest := []) clE_stable hs ⟨hx, hb, hml, hown, hts⟩ (cA_copyWhole l D clE clE_stable (tyC cy) (wC h cy) S_7 22 10 34 22 _ _ _ _ 8 8 cx_c_growns cx_k_growns cx_set_k_growns rfl rfl (wCs_k_growns h cy S_7) rfl rfl (by decide) (by decide) (fun S0 => S0 = (cx_set_k_growns S_7 (k_copyW 8 8 (cx_c_growns S_7) (cx_k_growns S_7)))) rfl) ⟨va_cnB 2 hts gX0_becomes_X11_copyWhole_n78 rfl rfl rfl hs.1.2.2.2.2.2.2.2.2.2.2.2.2.2.2.2.2.2.2.2.2.2.2.2.2.2.2.1 wiX11 (by decide +kernel) ⟨Nat.le_of_ble_eq_true rfl, Nat.le_of_ble_eq_true rfl⟩, wstcopyWhole, trivial⟩ hK hP hD hS hA rfl hl.1 rfl (Nat.le_of_ble_eq_true rfl) dX0_becomes_180 ⟨Nat.zero_le _, Nat.zero_le _⟩ (fun S_8 H locs eS_8 hP hD hS => ?_)
    replace hw := hw S_8 eS_8
    refine lv_aload_n hx hb dX0_becomes_183 rfl (lv_at hl 0 rfl) ?_
    refine lv_aload_n hx hb dX0_becomes_184 rfl (lv_at hl 1 rfl) ?_
    refine va_get (D := D) (ci := 0) (v := .int (cx_c_grownCount S_8)) (C := RX0) (T := TX0) (N := 16) hx hb hts hin0 hown hK hP 1 rfl rfl 15 (by decide) w65 (fun _ h9 => h9) rfl dX0_becomes_185 ?_
    refine va_put (D := D) (ci := 0) (v := .int (cx_c_grownCount S_8)) (ty := .int) (C := RX0) (T := TX0) (N := 16) hx hb hts hin0 tyX0 tyX0_ok nmX0 hown hK hP hD hS 3 rfl rfl 15 (by decide) w65 (fun _ h9 => h9) rfl (tyX0_ok 15 (by decide)) rfl rfl (Nat.le_of_ble_eq_true rfl) dX0_becomes_188 (fun H locs hP hD hS => ?_)
    obtain ⟨S_9, eS_9⟩ : ∃ z : CS, z = (cx_set_k_grownCount S_8 (cx_c_grownCount S_8)) := ⟨_, rfl⟩
    replace hw := hw S_9 eS_9
    have hP : va_P D vwCl (wC h cy S_9) H := by rw [eS_9, ← wCp_k_grownCount]; exact hP
    have hD : va_D A (wC h cy S_9) := by rw [eS_9, ← wCp_k_grownCount]; exact hD
    exact W.vret hx hb hr (fun t ht hW => ⟨⟨S_9, rfl, hw, by rw [ht]; exact hP, va_K.moved hW.alike hK, hD⟩, hS.F ht⟩) hS.2.2 dX0_becomes_191
  have L_68 : ∀ (n68 : Nat) (x2 : Int32) (S : CS) (H : Heap) (locs : List Loc) (ls : Array Slot), wC_X0_becomes_k_city_68 post n68 x2 S → va_P D vwCl (wC h cy S) H → va_D A (wC h cy S) → va_S A s.heap H locs → lv_has ls 3 [(0, .ref (h 3)), (1, .ref (h 1)), (2, .int x2)] → W p l e (headSpec wsX0_becomes { frames := 4, cells := 0, slots := 0, locals := 126 }).room s m (([.ref (h 3), .ref (h 1)] : List Value).toArray) below meth c H locs 0 0 (MQ below (va_Qv post (k_Post D (tyC cy) (wC h cy) A) A) (([.ref (h 3), .ref (h 1)] : List Value).toArray) s 0 0 A) (F0 m 68 ls []) := by
    intro n68
    induction n68 with
    | zero => intro x2 S H locs ls hw; exact False.elim hw
    | succ n68 ih_68 =>
      intro x2 S H locs ls hw hP hD hS hl
      unfold wC_X0_becomes_k_city_68 at hw
      refine lv_iload_n hx hb dX0_becomes_68 rfl (lv_at hl 2 rfl) ?_
      refine lv_aload_n hx hb dX0_becomes_69 rfl (lv_at hl 0 rfl) ?_
      refine va_get (D := D) (ci := 0) (v := .ref (h 29)) (C := RX0) (T := TX0) (N := 16) hx hb hts hin0 hown hK hP 3 rfl rfl 6 (by decide) w36 (fun _ h9 => h9) rfl dX0_becomes_70 ?_
      refine va_alen (v := 4) hx hb hK hP 29 17 rfl rfl (show Int32.ofNat 4 = 4 by decide) dX0_becomes_73 ?_
      obtain ⟨hc_10t, hc_10f⟩ := hw
      refine lv_icmp_ge (tgt := 104) hx hb dX0_becomes_74 (by decide) (fun c_10 => ?_) (fun c_10 => ?_)
      · have hw := hc_10t c_10
        clear hc_10t hc_10f
        exact J_104 S _ _ _ hw hP hD hS (lv_sub hl [0, 1] rfl)
      · have hw := hc_10f c_10
        clear hc_10t hc_10f
        refine lv_iload_n hx hb dX0_becomes_77 rfl (lv_at hl 2 rfl) ?_
        refine lv_aload_n hx hb dX0_becomes_78 rfl (lv_at hl 1 rfl) ?_
        refine va_get (D := D) (ci := 0) (v := .ref (h 17)) (C := RX0) (T := TX0) (N := 16) hx hb hts hin0 hown hK hP 1 rfl rfl 6 (by decide) w36 (fun _ h9 => h9) rfl dX0_becomes_79 ?_
        refine va_alen (v := 4) hx hb hK hP 17 5 rfl rfl (show Int32.ofNat 4 = 4 by decide) dX0_becomes_82 ?_
        obtain ⟨hc_11t, hc_11f⟩ := hw
        refine lv_icmp_ge (tgt := 104) hx hb dX0_becomes_83 (by decide) (fun c_11 => ?_) (fun c_11 => ?_)
        · have hw := hc_11t c_11
          clear hc_11t hc_11f
          exact J_104 S _ _ _ hw hP hD hS (lv_sub hl [0, 1] rfl)
        · have hw := hc_11f c_11
          clear hc_11t hc_11f
          refine lv_aload_n hx hb dX0_becomes_86 rfl (lv_at hl 0 rfl) ?_
          refine va_get (D := D) (ci := 0) (v := .ref (h 29)) (C := RX0) (T := TX0) (N := 16) hx hb hts hin0 hown hK hP 3 rfl rfl 6 (by decide) w36 (fun _ h9 => h9) rfl dX0_becomes_87 ?_
          refine lv_iload_n hx hb dX0_becomes_90 rfl (lv_at hl 2 rfl) ?_
          refine lv_aload_n hx hb dX0_becomes_91 rfl (lv_at hl 1 rfl) ?_
          refine va_get (D := D) (ci := 0) (v := .ref (h 17)) (C := RX0) (T := TX0) (N := 16) hx hb hts hin0 hown hK hP 1 rfl rfl 6 (by decide) w36 (fun _ h9 => h9) rfl dX0_becomes_92 ?_
          refine lv_iload_n hx hb dX0_becomes_95 rfl (lv_at hl 2 rfl) ?_
          obtain ⟨hi_15, hw⟩ := hw
          refine va_aldq (C := "ClownsMourn$Text") (f := (cx_c_texts S)) hx hb hK hP 17 5 rfl rfl hi_15 dX0_becomes_96 ?_
          obtain ⟨hi_13, ht_14, hw⟩ := hw
          refine k_astq (v := (cx_c_texts S) x2.toNatClampNeg) (f := (cx_k_texts S)) hx hb hK hP hD hS 29 17 rfl rfl (fun a ha => (ht_14 a ha).elim fun B hB => (px_obj hB).elim fun q hq => ⟨q, _, hq⟩) hi_13 dX0_becomes_97 (fun H locs hP hD hS => ?_)
          obtain ⟨S_12, eS_12⟩ : ∃ z : CS, z = (cx_set_k_texts S (va_up (cx_k_texts S) (x2.toNatClampNeg) ((cx_c_texts S) x2.toNatClampNeg))) := ⟨_, rfl⟩
          replace hw := hw S_12 eS_12
          have hP : va_P D vwCl (wC h cy S_12) H := by rw [eS_12, ← wCs_k_texts]; exact hP
          have hD : va_D A (wC h cy S_12) := by rw [eS_12, ← wCs_k_texts]; exact hD
          refine lv_iinc (v := x2 + 1) (lv' := [(2, .int (x2 + 1)), (0, .ref (h 3)), (1, .ref (h 1))]) hx hb dX0_becomes_98 hl (k := 2) rfl (k_inc (by decide)) (by decide) rfl (fun ls hl => ?_)
          refine lv_goto (tgt := 68) hx hb dX0_becomes_101 (by decide) ?_
          exact ih_68 (x2 + 1) S_12 _ _ _ hw hP hD hS (lv_sub hl [1, 2, 0] rfl)
  refine lv_aload_n hx hb dX0_becomes_0 rfl (lv_at hl 1 rfl) ?_
  refine va_get (D := D) (ci := 0) (v := .ref (h 12)) (C := RX0) (T := TX0) (N := 16) hx hb hts hin0 hown hK hP 1 rfl rfl 0 (by decide) w11 (fun _ h9 => h9) rfl dX0_becomes_1 ?_
  refine lv_aload_n hx hb dX0_becomes_4 rfl (lv_at hl 0 rfl) ?_
  refine va_get (D := D) (ci := 0) (v := .ref (h 24)) (C := RX0) (T := TX0) (N := 16) hx hb hts hin0 hown hK hP 3 rfl rfl 0 (by decide) w11 (fun _ h9 => h9) rfl dX0_becomes_5 ?_
  refine e_callNv (As := [.ref (h 12), .ref (h 24)]) (rest := []) clE_stable hs ⟨hx, hb, hml, hown, hts⟩ (cA_copyWhole l D clE clE_stable (tyC cy) (wC h cy) S 12 0 24 12 _ _ _ _ 74 74 cx_c_now cx_k_now cx_set_k_now rfl rfl (wCs_k_now h cy S) rfl rfl (by decide) (by decide) (fun S0 => S0 = (cx_set_k_now S (k_copyW 74 74 (cx_c_now S) (cx_k_now S)))) rfl) ⟨va_cnB 2 hts gX0_becomes_X11_copyWhole_n78 rfl rfl rfl hs.1.2.2.2.2.2.2.2.2.2.2.2.2.2.2.2.2.2.2.2.2.2.2.2.2.2.2.1 wiX11 (by decide +kernel) ⟨Nat.le_of_ble_eq_true rfl, Nat.le_of_ble_eq_true rfl⟩, wstcopyWhole, trivial⟩ hK hP hD hS hA rfl hl.1 rfl (Nat.le_of_ble_eq_true rfl) dX0_becomes_8 ⟨Nat.zero_le _, Nat.zero_le _⟩ (fun S_16 H locs eS_16 hP hD hS => ?_)
  replace hw := hw S_16 eS_16
  refine lv_aload_n hx hb dX0_becomes_11 rfl (lv_at hl 0 rfl) ?_
  refine va_get (D := D) (ci := 0) (v := .ref (h 4)) (C := RX0) (T := TX0) (N := 16) hx hb hts hin0 hown hK hP 3 rfl rfl 1 (by decide) w18 (fun _ h9 => h9) rfl dX0_becomes_12 ?_
  refine lv_aload_n hx hb dX0_becomes_15 rfl (lv_at hl 1 rfl) ?_
  refine va_get (D := D) (ci := 0) (v := .ref (h 2)) (C := RX0) (T := TX0) (N := 16) hx hb hts hin0 hown hK hP 1 rfl rfl 1 (by decide) w18 (fun _ h9 => h9) rfl dX0_becomes_16 ?_
  refine e_callVv (As := [.ref (h 2)]) (rest := []) clE_stable hs ⟨hx, hb, hml, hown, hts⟩ (cC_X8_becomes_k_csteps l D h cy _ _ hw) (cwV 1 hts gX0_becomes_X8_becomes rfl rfl rfl (by decide +kernel) ⟨Nat.le_of_ble_eq_true rfl, Nat.le_of_ble_eq_true rfl⟩) (va_recv hK hP (ci := 8) (q0 := 4) rfl rfl) hK hP hD hS hA rfl hl.1 rfl (Nat.le_of_ble_eq_true rfl) dX0_becomes_19 ⟨Nat.zero_le _, Nat.zero_le _⟩ (fun S_18 H locs hw hP hD hS => ?_)
  refine lv_aload_n hx hb dX0_becomes_22 rfl (lv_at hl 1 rfl) ?_
  refine va_get (D := D) (ci := 0) (v := .ref (h 13)) (C := RX0) (T := TX0) (N := 16) hx hb hts hin0 hown hK hP 1 rfl rfl 2 (by decide) w22 (fun _ h9 => h9) rfl dX0_becomes_23 ?_
  refine lv_aload_n hx hb dX0_becomes_26 rfl (lv_at hl 0 rfl) ?_
  refine va_get (D := D) (ci := 0) (v := .ref (h 25)) (C := RX0) (T := TX0) (N := 16) hx hb hts hin0 hown hK hP 3 rfl rfl 2 (by decide) w22 (fun _ h9 => h9) rfl dX0_becomes_27 ?_
  refine e_callNv (As := [.ref (h 13), .ref (h 25)]) (rest := []) clE_stable hs ⟨hx, hb, hml, hown, hts⟩ (cA_copyWhole l D clE clE_stable (tyC cy) (wC h cy) S_18 13 1 25 13 _ _ _ _ 6 6 cx_c_kinds cx_k_kinds cx_set_k_kinds rfl rfl (wCs_k_kinds h cy S_18) rfl rfl (by decide) (by decide) (fun S0 => S0 = (cx_set_k_kinds S_18 (k_copyW 6 6 (cx_c_kinds S_18) (cx_k_kinds S_18)))) rfl) ⟨va_cnB 2 hts gX0_becomes_X11_copyWhole_n78 rfl rfl rfl hs.1.2.2.2.2.2.2.2.2.2.2.2.2.2.2.2.2.2.2.2.2.2.2.2.2.2.2.1 wiX11 (by decide +kernel) ⟨Nat.le_of_ble_eq_true rfl, Nat.le_of_ble_eq_true rfl⟩, wstcopyWhole, trivial⟩ hK hP hD hS hA rfl hl.1 rfl (Nat.le_of_ble_eq_true rfl) dX0_becomes_30 ⟨Nat.zero_le _, Nat.zero_le _⟩ (fun S_19 H locs eS_19 hP hD hS => ?_)
  replace hw := hw S_19 eS_19
  refine lv_aload_n hx hb dX0_becomes_33 rfl (lv_at hl 1 rfl) ?_
  refine va_get (D := D) (ci := 0) (v := .ref (h 14)) (C := RX0) (T := TX0) (N := 16) hx hb hts hin0 hown hK hP 1 rfl rfl 3 (by decide) w25 (fun _ h9 => h9) rfl dX0_becomes_34 ?_
  refine lv_aload_n hx hb dX0_becomes_37 rfl (lv_at hl 0 rfl) ?_
  refine va_get (D := D) (ci := 0) (v := .ref (h 26)) (C := RX0) (T := TX0) (N := 16) hx hb hts hin0 hown hK hP 3 rfl rfl 3 (by decide) w25 (fun _ h9 => h9) rfl dX0_becomes_38 ?_
  refine e_callNv (As := [.ref (h 14), .ref (h 26)]) (rest := []) clE_stable hs ⟨hx, hb, hml, hown, hts⟩ (cA_copyWhole l D clE clE_stable (tyC cy) (wC h cy) S_19 14 2 26 14 _ _ _ _ 5 5 cx_c_skills cx_k_skills cx_set_k_skills rfl rfl (wCs_k_skills h cy S_19) rfl rfl (by decide) (by decide) (fun S0 => S0 = (cx_set_k_skills S_19 (k_copyW 5 5 (cx_c_skills S_19) (cx_k_skills S_19)))) rfl) ⟨va_cnB 2 hts gX0_becomes_X11_copyWhole_n78 rfl rfl rfl hs.1.2.2.2.2.2.2.2.2.2.2.2.2.2.2.2.2.2.2.2.2.2.2.2.2.2.2.1 wiX11 (by decide +kernel) ⟨Nat.le_of_ble_eq_true rfl, Nat.le_of_ble_eq_true rfl⟩, wstcopyWhole, trivial⟩ hK hP hD hS hA rfl hl.1 rfl (Nat.le_of_ble_eq_true rfl) dX0_becomes_41 ⟨Nat.zero_le _, Nat.zero_le _⟩ (fun S_20 H locs eS_20 hP hD hS => ?_)
  replace hw := hw S_20 eS_20
  refine lv_aload_n hx hb dX0_becomes_44 rfl (lv_at hl 1 rfl) ?_
  refine va_get (D := D) (ci := 0) (v := .ref (h 15)) (C := RX0) (T := TX0) (N := 16) hx hb hts hin0 hown hK hP 1 rfl rfl 4 (by decide) w28 (fun _ h9 => h9) rfl dX0_becomes_45 ?_
  refine lv_aload_n hx hb dX0_becomes_48 rfl (lv_at hl 0 rfl) ?_
  refine va_get (D := D) (ci := 0) (v := .ref (h 27)) (C := RX0) (T := TX0) (N := 16) hx hb hts hin0 hown hK hP 3 rfl rfl 4 (by decide) w28 (fun _ h9 => h9) rfl dX0_becomes_49 ?_
  refine e_callNv (As := [.ref (h 15), .ref (h 27)]) (rest := []) clE_stable hs ⟨hx, hb, hml, hown, hts⟩ (cA_copyWhole l D clE clE_stable (tyC cy) (wC h cy) S_20 15 3 27 15 _ _ _ _ 5 5 cx_c_ages cx_k_ages cx_set_k_ages rfl rfl (wCs_k_ages h cy S_20) rfl rfl (by decide) (by decide) (fun S0 => S0 = (cx_set_k_ages S_20 (k_copyW 5 5 (cx_c_ages S_20) (cx_k_ages S_20)))) rfl) ⟨va_cnB 2 hts gX0_becomes_X11_copyWhole_n78 rfl rfl rfl hs.1.2.2.2.2.2.2.2.2.2.2.2.2.2.2.2.2.2.2.2.2.2.2.2.2.2.2.1 wiX11 (by decide +kernel) ⟨Nat.le_of_ble_eq_true rfl, Nat.le_of_ble_eq_true rfl⟩, wstcopyWhole, trivial⟩ hK hP hD hS hA rfl hl.1 rfl (Nat.le_of_ble_eq_true rfl) dX0_becomes_52 ⟨Nat.zero_le _, Nat.zero_le _⟩ (fun S_21 H locs eS_21 hP hD hS => ?_)
  replace hw := hw S_21 eS_21
  refine lv_aload_n hx hb dX0_becomes_55 rfl (lv_at hl 1 rfl) ?_
  refine va_get (D := D) (ci := 0) (v := .ref (h 16)) (C := RX0) (T := TX0) (N := 16) hx hb hts hin0 hown hK hP 1 rfl rfl 5 (by decide) w31 (fun _ h9 => h9) rfl dX0_becomes_56 ?_
  refine lv_aload_n hx hb dX0_becomes_59 rfl (lv_at hl 0 rfl) ?_
  refine va_get (D := D) (ci := 0) (v := .ref (h 28)) (C := RX0) (T := TX0) (N := 16) hx hb hts hin0 hown hK hP 3 rfl rfl 5 (by decide) w31 (fun _ h9 => h9) rfl dX0_becomes_60 ?_
  refine e_callNv (As := [.ref (h 16), .ref (h 28)]) (rest := []) clE_stable hs ⟨hx, hb, hml, hown, hts⟩ (cA_copyWhole l D clE clE_stable (tyC cy) (wC h cy) S_21 16 4 28 16 _ _ _ _ 50 50 cx_c_turns cx_k_turns cx_set_k_turns rfl rfl (wCs_k_turns h cy S_21) rfl rfl (by decide) (by decide) (fun S0 => S0 = (cx_set_k_turns S_21 (k_copyW 50 50 (cx_c_turns S_21) (cx_k_turns S_21)))) rfl) ⟨va_cnB 2 hts gX0_becomes_X11_copyWhole_n78 rfl rfl rfl hs.1.2.2.2.2.2.2.2.2.2.2.2.2.2.2.2.2.2.2.2.2.2.2.2.2.2.2.1 wiX11 (by decide +kernel) ⟨Nat.le_of_ble_eq_true rfl, Nat.le_of_ble_eq_true rfl⟩, wstcopyWhole, trivial⟩ hK hP hD hS hA rfl hl.1 rfl (Nat.le_of_ble_eq_true rfl) dX0_becomes_63 ⟨Nat.zero_le _, Nat.zero_le _⟩ (fun S_22 H locs eS_22 hP hD hS => ?_)
  replace hw := hw S_22 eS_22
  refine lv_iconst (v := 0) hx hb dX0_becomes_66 (by decide) ?_
  refine lv_istore_n (lv' := [(2, .int 0), (0, .ref (h 3)), (1, .ref (h 1))]) hx hb dX0_becomes_67 rfl hl (by decide) rfl (fun ls hl => ?_)
  obtain ⟨n_68, hw⟩ := hw
  exact L_68 n_68 0 S_22 _ _ _ hw hP hD hS (lv_sub hl [1, 2, 0] rfl)
def wC_X11_image (S : CS) (post : Int32 → CS → Prop) : Prop := wC_X0_becomes_k_city S (fun S_2 => wC_X0_today S_2 (fun r_3 S_4 => post r_3 S_4))
set_option maxHeartbeats 4000000 in
set_option maxRecDepth 100000 in
theorem cC_X11_image (l : Launch) (D : va_G) (h : Nat → Nat) (cy : Nat → ClassId) (S : CS) (post : Int32 → CS → Prop) (hw : wC_X11_image S post) : e_Mi clE l yX11_image wsX11_image { frames := 5, cells := 0, slots := 0, locals := 148 } D (tyC cy) (wC h cy) [.ref (h 0)] S post := by
  intro sz
  refine Met.ofW (cc := cX11_image) (maxL := 1) (ret := (some .int)) (by decide) rfl ?_
  intro p e s m args below meth c s₁ B hml hv
  obtain ⟨rfl, hsz, hP, hK, hD0, hs⟩ := hv
  have hx := B.exec
  have hb := B.bytes
  have hr := B.returns
  have hts := atoms_spec (ws := wsX11_image) B.pre
  have hown : s.vm.findClass RX11 = some m.cls := findClass_of_methodNamed B.named
  have hlocks := B.notSynchronized
  subst hsz
  have hD := hD0.self (sz := s.heap.size)
  generalize hAe : va_A (wC h cy S) s.heap.size = A at hD hs ⊢
  have hA : ∀ q : Nat, s.heap.size ≤ q → A q := fun q h => by rw [← hAe]; exact Or.inr h
  have hS : va_S A s.heap s.heap [] := va_S.rf
  have hin11 : ∀ w ∈ wsX110, w ∈ wsX11_image := fun _ h => List.mem_cons_of_mem _ (List.mem_append_left _ (List.mem_append_left _ (List.mem_append_right _ h)))
  have hin0 : ∀ w ∈ wsX00, w ∈ wsX11_image := fun _ h => List.mem_cons_of_mem _ (List.mem_append_left _ (List.mem_append_right _ h))
  have hin8 : ∀ w ∈ wsX80, w ∈ wsX11_image := fun _ h => List.mem_cons_of_mem _ (List.mem_append_right _ h)
  have w10 := hts (.fieldLink RX11 10 "ClownsMourn" "city" "LClownsMourn$City;") (List.mem_of_getElem? (i := 2) rfl)
  have w16 := hts (.fieldLink RX11 16 "ClownsMourn" "kept" "LClownsMourn$City;") (List.mem_of_getElem? (i := 1) rfl)
  have hl := lv_entry ([.ref (h 0)]) (n := 1) (Nat.le_of_ble_eq_true rfl)
  rw [lg_entry_eq]
  generalize (lg_sl ([.ref (h 0)]) ++ List.replicate (1 - (lg_sl ([.ref (h 0)])).length) Slot.unset).toArray = ls at hl ⊢
  have hl : lv_has ls 1 [(0, .ref (h 0))] := hl
  unfold wC_X11_image at hw
  clear hD0
  refine lv_aload_n hx hb dX11_image_0 rfl (lv_at hl 0 rfl) ?_
  refine va_get (D := D) (ci := 10) (v := .ref (h 3)) (C := RX11) (T := TX11) (N := 9) hx hb hts hin11 hown hK hP 0 rfl rfl 1 (by decide) w16 (fun _ h9 => h9) rfl dX11_image_1 ?_
  refine lv_aload_n hx hb dX11_image_4 rfl (lv_at hl 0 rfl) ?_
  refine va_get (D := D) (ci := 10) (v := .ref (h 1)) (C := RX11) (T := TX11) (N := 9) hx hb hts hin11 hown hK hP 0 rfl rfl 0 (by decide) w10 (fun _ h9 => h9) rfl dX11_image_5 ?_
  refine e_callVv (As := [.ref (h 1)]) (rest := []) clE_stable hs ⟨hx, hb, hml, hown, hts⟩ (cC_X0_becomes_k_city l D h cy _ _ hw) (cwV 1 hts gX11_image_X0_becomes rfl rfl rfl (by decide +kernel) ⟨Nat.le_of_ble_eq_true rfl, Nat.le_of_ble_eq_true rfl⟩) (va_recv hK hP (ci := 0) (q0 := 3) rfl rfl) hK hP hD hS hA rfl hl.1 rfl (Nat.le_of_ble_eq_true rfl) dX11_image_8 ⟨Nat.zero_le _, Nat.zero_le _⟩ (fun S_2 H locs hw hP hD hS => ?_)
  refine lv_aload_n hx hb dX11_image_11 rfl (lv_at hl 0 rfl) ?_
  refine va_get (D := D) (ci := 10) (v := .ref (h 1)) (C := RX11) (T := TX11) (N := 9) hx hb hts hin11 hown hK hP 0 rfl rfl 0 (by decide) w10 (fun _ h9 => h9) rfl dX11_image_12 ?_
  refine e_callVi (As := []) (rest := []) clE_stable hs ⟨hx, hb, hml, hown, hts⟩ (cC_X0_today l D h cy _ _ hw) (cwV 0 hts gX11_image_X0_today rfl rfl rfl (by decide +kernel) ⟨Nat.le_of_ble_eq_true rfl, Nat.le_of_ble_eq_true rfl⟩) (va_recv hK hP (ci := 0) (q0 := 1) rfl rfl) hK hP hD hS hA rfl hl.1 rfl (Nat.le_of_ble_eq_true rfl) dX11_image_15 ⟨Nat.zero_le _, Nat.zero_le _⟩ (fun r_3 S_4 H locs hw hP hD hS => ?_)
  exact W.iret (v := r_3) hx hb hr (fun t ht hW => ⟨⟨r_3, S_4, rfl, hw, by rw [ht]; exact hP, va_K.moved hW.alike hK, hD⟩, hS.F ht⟩) hS.2.2 dX11_image_18
def wC_X8_becomes_ksteps (S : CS) (post : CS → Prop) : Prop := (∀ S_1 : CS, S_1 = (cx_set_cs_rows S (k_copyW 2220 2220 (cx_ks_rows S) (cx_cs_rows S))) → (∀ S_2 : CS, S_2 = (cx_set_cs_first S_1 (cx_ks_first S_1)) → (∀ S_3 : CS, S_3 = (cx_set_cs_count S_2 (cx_ks_count S_2)) → post S_3)))
set_option maxHeartbeats 4000000 in
set_option maxRecDepth 100000 in
theorem cC_X8_becomes_ksteps (l : Launch) (D : va_G) (h : Nat → Nat) (cy : Nat → ClassId) (S : CS) (post : CS → Prop) (hw : wC_X8_becomes_ksteps S post) : e_Mv clE l yX8_becomes wsX8_becomes { frames := 3, cells := 0, slots := 0, locals := 105 } D (tyC cy) (wC h cy) [.ref (h 2), .ref (h 4)] S post := by
  intro sz
  refine Met.ofW (cc := cX8_becomes) (maxL := 2) (ret := none) (by decide) rfl ?_
  intro p e s m args below meth c s₁ B hml hv
  obtain ⟨rfl, hsz, hP, hK, hD0, hs⟩ := hv
  have hx := B.exec
  have hb := B.bytes
  have hr := B.returns
  have hts := atoms_spec (ws := wsX8_becomes) B.pre
  have hown : s.vm.findClass RX8 = some m.cls := findClass_of_methodNamed B.named
  have hlocks := B.notSynchronized
  subst hsz
  have hD := hD0.self (sz := s.heap.size)
  generalize hAe : va_A (wC h cy S) s.heap.size = A at hD hs ⊢
  have hA : ∀ q : Nat, s.heap.size ≤ q → A q := fun q h => by rw [← hAe]; exact Or.inr h
  have hS : va_S A s.heap s.heap [] := va_S.rf
  have hin8 : ∀ w ∈ wsX80, w ∈ wsX8_becomes := fun _ h => List.mem_cons_of_mem _ (List.mem_append_right _ h)
  have w11 := hts (.fieldLink RX8 11 "ClownsMourn$Steps" "rows" "[I") (List.mem_of_getElem? (i := 1) rfl)
  have w15 := hts (.fieldLink RX8 15 "ClownsMourn$Steps" "first" "I") (List.mem_of_getElem? (i := 2) rfl)
  have w19 := hts (.fieldLink RX8 19 "ClownsMourn$Steps" "count" "I") (List.mem_of_getElem? (i := 3) rfl)
  have wiX11 := hts (.initialized RX11) (List.mem_of_getElem? (i := 5) rfl)
  have wstcopyWhole := hts (.static yX11_copyWhole) (List.mem_of_getElem? (i := 4) rfl)
  have hl := lv_entry ([.ref (h 2), .ref (h 4)]) (n := 2) (Nat.le_of_ble_eq_true rfl)
  rw [lg_entry_eq]
  generalize (lg_sl ([.ref (h 2), .ref (h 4)]) ++ List.replicate (2 - (lg_sl ([.ref (h 2), .ref (h 4)])).length) Slot.unset).toArray = ls at hl ⊢
  have hl : lv_has ls 2 [(0, .ref (h 2)), (1, .ref (h 4))] := hl
  unfold wC_X8_becomes_ksteps at hw
  clear hD0
  refine lv_aload_n hx hb dX8_becomes_0 rfl (lv_at hl 1 rfl) ?_
  refine va_get (D := D) (ci := 8) (v := .ref (h 35)) (C := RX8) (T := TX8) (N := 3) hx hb hts hin8 hown hK hP 4 rfl rfl 0 (by decide) w11 (fun _ h9 => h9) rfl dX8_becomes_1 ?_
  refine lv_aload_n hx hb dX8_becomes_4 rfl (lv_at hl 0 rfl) ?_
  refine va_get (D := D) (ci := 8) (v := .ref (h 23)) (C := RX8) (T := TX8) (N := 3) hx hb hts hin8 hown hK hP 2 rfl rfl 0 (by decide) w11 (fun _ h9 => h9) rfl dX8_becomes_5 ?_
  refine e_callNv (As := [.ref (h 35), .ref (h 23)]) (rest := []) clE_stable hs ⟨hx, hb, hml, hown, hts⟩ (cA_copyWhole l D clE clE_stable (tyC cy) (wC h cy) S 35 23 23 11 _ _ _ _ 2220 2220 cx_ks_rows cx_cs_rows cx_set_cs_rows rfl rfl (wCs_cs_rows h cy S) rfl rfl (by decide) (by decide) (fun S0 => S0 = (cx_set_cs_rows S (k_copyW 2220 2220 (cx_ks_rows S) (cx_cs_rows S)))) rfl) ⟨va_cnB 2 hts gX8_becomes_X11_copyWhole_n22 rfl rfl rfl hs.1.2.2.2.2.2.2.2.2.2.2.2.2.2.2.2.2.2.2.2.2.2.2.2.2.2.2.2.1 wiX11 (by decide +kernel) ⟨Nat.le_of_ble_eq_true rfl, Nat.le_of_ble_eq_true rfl⟩, wstcopyWhole, trivial⟩ hK hP hD hS hA rfl hl.1 rfl (Nat.le_of_ble_eq_true rfl) dX8_becomes_8 ⟨Nat.zero_le _, Nat.zero_le _⟩ (fun S_1 H locs eS_1 hP hD hS => ?_)
  replace hw := hw S_1 eS_1
  refine lv_aload_n hx hb dX8_becomes_11 rfl (lv_at hl 0 rfl) ?_
  refine lv_aload_n hx hb dX8_becomes_12 rfl (lv_at hl 1 rfl) ?_
  refine va_get (D := D) (ci := 8) (v := .int (cx_ks_first S_1)) (C := RX8) (T := TX8) (N := 3) hx hb hts hin8 hown hK hP 4 rfl rfl 1 (by decide) w15 (fun _ h9 => h9) rfl dX8_becomes_13 ?_
  refine va_put (D := D) (ci := 8) (v := .int (cx_ks_first S_1)) (ty := .int) (C := RX8) (T := TX8) (N := 3) hx hb hts hin8 tyX8 tyX8_ok nmX8 hown hK hP hD hS 2 rfl rfl 1 (by decide) w15 (fun _ h9 => h9) rfl (tyX8_ok 1 (by decide)) rfl rfl (Nat.le_of_ble_eq_true rfl) dX8_becomes_16 (fun H locs hP hD hS => ?_)
  obtain ⟨S_2, eS_2⟩ : ∃ z : CS, z = (cx_set_cs_first S_1 (cx_ks_first S_1)) := ⟨_, rfl⟩
  replace hw := hw S_2 eS_2
  have hP : va_P D vwCl (wC h cy S_2) H := by rw [eS_2, ← wCp_cs_first]; exact hP
  have hD : va_D A (wC h cy S_2) := by rw [eS_2, ← wCp_cs_first]; exact hD
  refine lv_aload_n hx hb dX8_becomes_19 rfl (lv_at hl 0 rfl) ?_
  refine lv_aload_n hx hb dX8_becomes_20 rfl (lv_at hl 1 rfl) ?_
  refine va_get (D := D) (ci := 8) (v := .int (cx_ks_count S_2)) (C := RX8) (T := TX8) (N := 3) hx hb hts hin8 hown hK hP 4 rfl rfl 2 (by decide) w19 (fun _ h9 => h9) rfl dX8_becomes_21 ?_
  refine va_put (D := D) (ci := 8) (v := .int (cx_ks_count S_2)) (ty := .int) (C := RX8) (T := TX8) (N := 3) hx hb hts hin8 tyX8 tyX8_ok nmX8 hown hK hP hD hS 2 rfl rfl 2 (by decide) w19 (fun _ h9 => h9) rfl (tyX8_ok 2 (by decide)) rfl rfl (Nat.le_of_ble_eq_true rfl) dX8_becomes_24 (fun H locs hP hD hS => ?_)
  obtain ⟨S_3, eS_3⟩ : ∃ z : CS, z = (cx_set_cs_count S_2 (cx_ks_count S_2)) := ⟨_, rfl⟩
  replace hw := hw S_3 eS_3
  have hP : va_P D vwCl (wC h cy S_3) H := by rw [eS_3, ← wCp_cs_count]; exact hP
  have hD : va_D A (wC h cy S_3) := by rw [eS_3, ← wCp_cs_count]; exact hD
  exact W.vret hx hb hr (fun t ht hW => ⟨⟨S_3, rfl, hw, by rw [ht]; exact hP, va_K.moved hW.alike hK, hD⟩, hS.F ht⟩) hS.2.2 dX8_becomes_27
def wC_X0_becomes_kept_104 (post : CS → Prop) (S : CS) : Prop := (∀ S_1 : CS, S_1 = (cx_set_c_textCount S (cx_k_textCount S)) → (∀ S_2 : CS, S_2 = (cx_set_c_ruling S_1 (cx_k_ruling S_1)) → (∀ S_3 : CS, S_3 = (cx_set_c_costs S_2 (k_copyW 30 30 (cx_k_costs S_2) (cx_c_costs S_2))) → (∀ S_4 : CS, S_4 = (cx_set_c_trials S_3 (k_copyW 8 8 (cx_k_trials S_3) (cx_c_trials S_3))) → (∀ S_5 : CS, S_5 = (cx_set_c_trialCount S_4 (cx_k_trialCount S_4)) → (∀ S_6 : CS, S_6 = (cx_set_c_worths S_5 (k_copyW 16 16 (cx_k_worths S_5) (cx_c_worths S_5))) → (∀ S_7 : CS, S_7 = (cx_set_c_aheads S_6 (k_copyW 5 5 (cx_k_aheads S_6) (cx_c_aheads S_6))) → (∀ S_8 : CS, S_8 = (cx_set_c_growns S_7 (k_copyW 8 8 (cx_k_growns S_7) (cx_c_growns S_7))) → (∀ S_9 : CS, S_9 = (cx_set_c_grownCount S_8 (cx_k_grownCount S_8)) → post S_9)))))))))
def wC_X0_becomes_kept_68 (post : CS → Prop) : Nat → Int32 → CS → Prop
  | 0, _, _ => False
  | n + 1, x2, S => ((4 ≤ x2 → wC_X0_becomes_kept_104 post S) ∧ (¬ (4 ≤ x2) → ((4 ≤ x2 → wC_X0_becomes_kept_104 post S) ∧ (¬ (4 ≤ x2) → (vp_in x2 4 ∧ (vp_in x2 4 ∧ (∀ a : Nat, (cx_k_texts S) x2.toNatClampNeg = some a → ∃ B : TB, (a, B) ∈ cx_px S) ∧ ∀ S_3 : CS, S_3 = (cx_set_c_texts S (va_up (cx_c_texts S) (x2.toNatClampNeg) ((cx_k_texts S) x2.toNatClampNeg))) → wC_X0_becomes_kept_68 post n (x2 + 1) S_3))))))
def wC_X0_becomes_kept (S : CS) (post : CS → Prop) : Prop := (∀ S_1 : CS, S_1 = (cx_set_c_now S (k_copyW 74 74 (cx_k_now S) (cx_c_now S))) → wC_X8_becomes_ksteps S_1 (fun S_3 => (∀ S_4 : CS, S_4 = (cx_set_c_kinds S_3 (k_copyW 6 6 (cx_k_kinds S_3) (cx_c_kinds S_3))) → (∀ S_5 : CS, S_5 = (cx_set_c_skills S_4 (k_copyW 5 5 (cx_k_skills S_4) (cx_c_skills S_4))) → (∀ S_6 : CS, S_6 = (cx_set_c_ages S_5 (k_copyW 5 5 (cx_k_ages S_5) (cx_c_ages S_5))) → (∀ S_7 : CS, S_7 = (cx_set_c_turns S_6 (k_copyW 50 50 (cx_k_turns S_6) (cx_c_turns S_6))) → ∃ k_ : Nat, wC_X0_becomes_kept_68 post k_ 0 S_7))))))
set_option maxHeartbeats 4000000 in
set_option maxRecDepth 100000 in
theorem cC_X0_becomes_kept (l : Launch) (D : va_G) (h : Nat → Nat) (cy : Nat → ClassId) (S : CS) (post : CS → Prop) (hw : wC_X0_becomes_kept S post) : e_Mv clE l yX0_becomes wsX0_becomes { frames := 4, cells := 0, slots := 0, locals := 126 } D (tyC cy) (wC h cy) [.ref (h 1), .ref (h 3)] S post := by
  intro sz
  refine Met.ofW (cc := cX0_becomes) (maxL := 3) (ret := none) (by decide) rfl ?_
  intro p e s m args below meth c s₁ B hml hv
  obtain ⟨rfl, hsz, hP, hK, hD0, hs⟩ := hv
  have hx := B.exec
  have hb := B.bytes
  have hr := B.returns
  have hts := atoms_spec (ws := wsX0_becomes) B.pre
  have hown : s.vm.findClass RX0 = some m.cls := findClass_of_methodNamed B.named
  have hlocks := B.notSynchronized
  subst hsz
  have hD := hD0.self (sz := s.heap.size)
  generalize hAe : va_A (wC h cy S) s.heap.size = A at hD hs ⊢
  have hA : ∀ q : Nat, s.heap.size ≤ q → A q := fun q h => by rw [← hAe]; exact Or.inr h
  have hS : va_S A s.heap s.heap [] := va_S.rf
  have hin0 : ∀ w ∈ wsX00, w ∈ wsX0_becomes := fun _ h => List.mem_cons_of_mem _ (List.mem_append_left _ (List.mem_append_right _ h))
  have hin8 : ∀ w ∈ wsX80, w ∈ wsX0_becomes := fun _ h => List.mem_cons_of_mem _ (List.mem_append_right _ h)
  have w11 := hts (.fieldLink RX0 11 "ClownsMourn$City" "now" "[I") (List.mem_of_getElem? (i := 1) rfl)
  have w18 := hts (.fieldLink RX0 18 "ClownsMourn$City" "steps" "LClownsMourn$Steps;") (List.mem_of_getElem? (i := 2) rfl)
  have w22 := hts (.fieldLink RX0 22 "ClownsMourn$City" "kinds" "[I") (List.mem_of_getElem? (i := 3) rfl)
  have w25 := hts (.fieldLink RX0 25 "ClownsMourn$City" "skills" "[I") (List.mem_of_getElem? (i := 4) rfl)
  have w28 := hts (.fieldLink RX0 28 "ClownsMourn$City" "ages" "[I") (List.mem_of_getElem? (i := 5) rfl)
  have w31 := hts (.fieldLink RX0 31 "ClownsMourn$City" "turns" "[I") (List.mem_of_getElem? (i := 6) rfl)
  have w36 := hts (.fieldLink RX0 36 "ClownsMourn$City" "texts" "[LClownsMourn$Text;") (List.mem_of_getElem? (i := 7) rfl)
  have w40 := hts (.fieldLink RX0 40 "ClownsMourn$City" "textCount" "I") (List.mem_of_getElem? (i := 8) rfl)
  have w44 := hts (.fieldLink RX0 44 "ClownsMourn$City" "ruling" "I") (List.mem_of_getElem? (i := 9) rfl)
  have w47 := hts (.fieldLink RX0 47 "ClownsMourn$City" "costs" "[I") (List.mem_of_getElem? (i := 10) rfl)
  have w50 := hts (.fieldLink RX0 50 "ClownsMourn$City" "trials" "[I") (List.mem_of_getElem? (i := 11) rfl)
  have w53 := hts (.fieldLink RX0 53 "ClownsMourn$City" "trialCount" "I") (List.mem_of_getElem? (i := 12) rfl)
  have w56 := hts (.fieldLink RX0 56 "ClownsMourn$City" "worths" "[I") (List.mem_of_getElem? (i := 13) rfl)
  have w59 := hts (.fieldLink RX0 59 "ClownsMourn$City" "aheads" "[I") (List.mem_of_getElem? (i := 14) rfl)
  have w62 := hts (.fieldLink RX0 62 "ClownsMourn$City" "growns" "[I") (List.mem_of_getElem? (i := 15) rfl)
  have w65 := hts (.fieldLink RX0 65 "ClownsMourn$City" "grownCount" "I") (List.mem_of_getElem? (i := 16) rfl)
  have wiX11 := hts (.initialized RX11) (List.mem_of_getElem? (i := 18) rfl)
  have wstcopyWhole := hts (.static yX11_copyWhole) (List.mem_of_getElem? (i := 17) rfl)
  have hl := lv_entry ([.ref (h 1), .ref (h 3)]) (n := 3) (Nat.le_of_ble_eq_true rfl)
  rw [lg_entry_eq]
  generalize (lg_sl ([.ref (h 1), .ref (h 3)]) ++ List.replicate (3 - (lg_sl ([.ref (h 1), .ref (h 3)])).length) Slot.unset).toArray = ls at hl ⊢
  have hl : lv_has ls 3 [(0, .ref (h 1)), (1, .ref (h 3))] := hl
  unfold wC_X0_becomes_kept at hw
  clear hD0
  have J_104 : ∀ (S : CS) (H : Heap) (locs : List Loc) (ls : Array Slot), wC_X0_becomes_kept_104 post S → va_P D vwCl (wC h cy S) H → va_D A (wC h cy S) → va_S A s.heap H locs → lv_has ls 3 [(0, .ref (h 1)), (1, .ref (h 3))] → W p l e (headSpec wsX0_becomes { frames := 4, cells := 0, slots := 0, locals := 126 }).room s m (([.ref (h 1), .ref (h 3)] : List Value).toArray) below meth c H locs 0 0 (MQ below (va_Qv post (k_Post D (tyC cy) (wC h cy) A) A) (([.ref (h 1), .ref (h 3)] : List Value).toArray) s 0 0 A) (F0 m 104 ls []) := by
    intro S H locs ls hw hP hD hS hl
    unfold wC_X0_becomes_kept_104 at hw
    refine lv_aload_n hx hb dX0_becomes_104 rfl (lv_at hl 0 rfl) ?_
    refine lv_aload_n hx hb dX0_becomes_105 rfl (lv_at hl 1 rfl) ?_
    refine va_get (D := D) (ci := 0) (v := .int (cx_k_textCount S)) (C := RX0) (T := TX0) (N := 16) hx hb hts hin0 hown hK hP 3 rfl rfl 7 (by decide) w40 (fun _ h9 => h9) rfl dX0_becomes_106 ?_
    refine va_put (D := D) (ci := 0) (v := .int (cx_k_textCount S)) (ty := .int) (C := RX0) (T := TX0) (N := 16) hx hb hts hin0 tyX0 tyX0_ok nmX0 hown hK hP hD hS 1 rfl rfl 7 (by decide) w40 (fun _ h9 => h9) rfl (tyX0_ok 7 (by decide)) rfl rfl (Nat.le_of_ble_eq_true rfl) dX0_becomes_109 (fun H locs hP hD hS => ?_)
    obtain ⟨S_1, eS_1⟩ : ∃ z : CS, z = (cx_set_c_textCount S (cx_k_textCount S)) := ⟨_, rfl⟩
    replace hw := hw S_1 eS_1
    have hP : va_P D vwCl (wC h cy S_1) H := by rw [eS_1, ← wCp_c_textCount]; exact hP
    have hD : va_D A (wC h cy S_1) := by rw [eS_1, ← wCp_c_textCount]; exact hD
    refine lv_aload_n hx hb dX0_becomes_112 rfl (lv_at hl 0 rfl) ?_
    refine lv_aload_n hx hb dX0_becomes_113 rfl (lv_at hl 1 rfl) ?_
    refine va_get (D := D) (ci := 0) (v := .int (cx_k_ruling S_1)) (C := RX0) (T := TX0) (N := 16) hx hb hts hin0 hown hK hP 3 rfl rfl 8 (by decide) w44 (fun _ h9 => h9) rfl dX0_becomes_114 ?_
    refine va_put (D := D) (ci := 0) (v := .int (cx_k_ruling S_1)) (ty := .int) (C := RX0) (T := TX0) (N := 16) hx hb hts hin0 tyX0 tyX0_ok nmX0 hown hK hP hD hS 1 rfl rfl 8 (by decide) w44 (fun _ h9 => h9) rfl (tyX0_ok 8 (by decide)) rfl rfl (Nat.le_of_ble_eq_true rfl) dX0_becomes_117 (fun H locs hP hD hS => ?_)
    obtain ⟨S_2, eS_2⟩ : ∃ z : CS, z = (cx_set_c_ruling S_1 (cx_k_ruling S_1)) := ⟨_, rfl⟩
    replace hw := hw S_2 eS_2
    have hP : va_P D vwCl (wC h cy S_2) H := by rw [eS_2, ← wCp_c_ruling]; exact hP
    have hD : va_D A (wC h cy S_2) := by rw [eS_2, ← wCp_c_ruling]; exact hD
    refine lv_aload_n hx hb dX0_becomes_120 rfl (lv_at hl 1 rfl) ?_
    refine va_get (D := D) (ci := 0) (v := .ref (h 30)) (C := RX0) (T := TX0) (N := 16) hx hb hts hin0 hown hK hP 3 rfl rfl 9 (by decide) w47 (fun _ h9 => h9) rfl dX0_becomes_121 ?_
    refine lv_aload_n hx hb dX0_becomes_124 rfl (lv_at hl 0 rfl) ?_
    refine va_get (D := D) (ci := 0) (v := .ref (h 18)) (C := RX0) (T := TX0) (N := 16) hx hb hts hin0 hown hK hP 1 rfl rfl 9 (by decide) w47 (fun _ h9 => h9) rfl dX0_becomes_125 ?_
    refine e_callNv (As := [.ref (h 30), .ref (h 18)]) (rest := []) clE_stable hs ⟨hx, hb, hml, hown, hts⟩ (cA_copyWhole l D clE clE_stable (tyC cy) (wC h cy) S_2 30 18 18 6 _ _ _ _ 30 30 cx_k_costs cx_c_costs cx_set_c_costs rfl rfl (wCs_c_costs h cy S_2) rfl rfl (by decide) (by decide) (fun S0 => S0 = (cx_set_c_costs S_2 (k_copyW 30 30 (cx_k_costs S_2) (cx_c_costs S_2)))) rfl) ⟨va_cnB 2 hts gX0_becomes_X11_copyWhole_n78 rfl rfl rfl hs.1.2.2.2.2.2.2.2.2.2.2.2.2.2.2.2.2.2.2.2.2.2.2.2.2.2.2.1 wiX11 (by decide +kernel) ⟨Nat.le_of_ble_eq_true rfl, Nat.le_of_ble_eq_true rfl⟩, wstcopyWhole, trivial⟩ hK hP hD hS hA rfl hl.1 rfl (Nat.le_of_ble_eq_true rfl) dX0_becomes_128 ⟨Nat.zero_le _, Nat.zero_le _⟩ (fun S_3 H locs eS_3 hP hD hS => ?_)
    replace hw := hw S_3 eS_3
    refine lv_aload_n hx hb dX0_becomes_131 rfl (lv_at hl 1 rfl) ?_
    refine va_get (D := D) (ci := 0) (v := .ref (h 31)) (C := RX0) (T := TX0) (N := 16) hx hb hts hin0 hown hK hP 3 rfl rfl 10 (by decide) w50 (fun _ h9 => h9) rfl dX0_becomes_132 ?_
    refine lv_aload_n hx hb dX0_becomes_135 rfl (lv_at hl 0 rfl) ?_
    refine va_get (D := D) (ci := 0) (v := .ref (h 19)) (C := RX0) (T := TX0) (N := 16) hx hb hts hin0 hown hK hP 1 rfl rfl 10 (by decide) w50 (fun _ h9 => h9) rfl dX0_becomes_136 ?_
    refine e_callNv (As := [.ref (h 31), .ref (h 19)]) (rest := []) clE_stable hs ⟨hx, hb, hml, hown, hts⟩ (cA_copyWhole l D clE clE_stable (tyC cy) (wC h cy) S_3 31 19 19 7 _ _ _ _ 8 8 cx_k_trials cx_c_trials cx_set_c_trials rfl rfl (wCs_c_trials h cy S_3) rfl rfl (by decide) (by decide) (fun S0 => S0 = (cx_set_c_trials S_3 (k_copyW 8 8 (cx_k_trials S_3) (cx_c_trials S_3)))) rfl) ⟨va_cnB 2 hts gX0_becomes_X11_copyWhole_n78 rfl rfl rfl hs.1.2.2.2.2.2.2.2.2.2.2.2.2.2.2.2.2.2.2.2.2.2.2.2.2.2.2.1 wiX11 (by decide +kernel) ⟨Nat.le_of_ble_eq_true rfl, Nat.le_of_ble_eq_true rfl⟩, wstcopyWhole, trivial⟩ hK hP hD hS hA rfl hl.1 rfl (Nat.le_of_ble_eq_true rfl) dX0_becomes_139 ⟨Nat.zero_le _, Nat.zero_le _⟩ (fun S_4 H locs eS_4 hP hD hS => ?_)
    replace hw := hw S_4 eS_4
    refine lv_aload_n hx hb dX0_becomes_142 rfl (lv_at hl 0 rfl) ?_
    refine lv_aload_n hx hb dX0_becomes_143 rfl (lv_at hl 1 rfl) ?_
    refine va_get (D := D) (ci := 0) (v := .int (cx_k_trialCount S_4)) (C := RX0) (T := TX0) (N := 16) hx hb hts hin0 hown hK hP 3 rfl rfl 11 (by decide) w53 (fun _ h9 => h9) rfl dX0_becomes_144 ?_
    refine va_put (D := D) (ci := 0) (v := .int (cx_k_trialCount S_4)) (ty := .int) (C := RX0) (T := TX0) (N := 16) hx hb hts hin0 tyX0 tyX0_ok nmX0 hown hK hP hD hS 1 rfl rfl 11 (by decide) w53 (fun _ h9 => h9) rfl (tyX0_ok 11 (by decide)) rfl rfl (Nat.le_of_ble_eq_true rfl) dX0_becomes_147 (fun H locs hP hD hS => ?_)
    obtain ⟨S_5, eS_5⟩ : ∃ z : CS, z = (cx_set_c_trialCount S_4 (cx_k_trialCount S_4)) := ⟨_, rfl⟩
    replace hw := hw S_5 eS_5
    have hP : va_P D vwCl (wC h cy S_5) H := by rw [eS_5, ← wCp_c_trialCount]; exact hP
    have hD : va_D A (wC h cy S_5) := by rw [eS_5, ← wCp_c_trialCount]; exact hD
    refine lv_aload_n hx hb dX0_becomes_150 rfl (lv_at hl 1 rfl) ?_
    refine va_get (D := D) (ci := 0) (v := .ref (h 32)) (C := RX0) (T := TX0) (N := 16) hx hb hts hin0 hown hK hP 3 rfl rfl 12 (by decide) w56 (fun _ h9 => h9) rfl dX0_becomes_151 ?_
    refine lv_aload_n hx hb dX0_becomes_154 rfl (lv_at hl 0 rfl) ?_
    refine va_get (D := D) (ci := 0) (v := .ref (h 20)) (C := RX0) (T := TX0) (N := 16) hx hb hts hin0 hown hK hP 1 rfl rfl 12 (by decide) w56 (fun _ h9 => h9) rfl dX0_becomes_155 ?_
    refine e_callNv (As := [.ref (h 32), .ref (h 20)]) (rest := []) clE_stable hs ⟨hx, hb, hml, hown, hts⟩ (cA_copyWhole l D clE clE_stable (tyC cy) (wC h cy) S_5 32 20 20 8 _ _ _ _ 16 16 cx_k_worths cx_c_worths cx_set_c_worths rfl rfl (wCs_c_worths h cy S_5) rfl rfl (by decide) (by decide) (fun S0 => S0 = (cx_set_c_worths S_5 (k_copyW 16 16 (cx_k_worths S_5) (cx_c_worths S_5)))) rfl) ⟨va_cnB 2 hts gX0_becomes_X11_copyWhole_n78 rfl rfl rfl hs.1.2.2.2.2.2.2.2.2.2.2.2.2.2.2.2.2.2.2.2.2.2.2.2.2.2.2.1 wiX11 (by decide +kernel) ⟨Nat.le_of_ble_eq_true rfl, Nat.le_of_ble_eq_true rfl⟩, wstcopyWhole, trivial⟩ hK hP hD hS hA rfl hl.1 rfl (Nat.le_of_ble_eq_true rfl) dX0_becomes_158 ⟨Nat.zero_le _, Nat.zero_le _⟩ (fun S_6 H locs eS_6 hP hD hS => ?_)
    replace hw := hw S_6 eS_6
    refine lv_aload_n hx hb dX0_becomes_161 rfl (lv_at hl 1 rfl) ?_
    refine va_get (D := D) (ci := 0) (v := .ref (h 33)) (C := RX0) (T := TX0) (N := 16) hx hb hts hin0 hown hK hP 3 rfl rfl 13 (by decide) w59 (fun _ h9 => h9) rfl dX0_becomes_162 ?_
    refine lv_aload_n hx hb dX0_becomes_165 rfl (lv_at hl 0 rfl) ?_
    refine va_get (D := D) (ci := 0) (v := .ref (h 21)) (C := RX0) (T := TX0) (N := 16) hx hb hts hin0 hown hK hP 1 rfl rfl 13 (by decide) w59 (fun _ h9 => h9) rfl dX0_becomes_166 ?_
    refine e_callNv (As := [.ref (h 33), .ref (h 21)]) (rest := []) clE_stable hs ⟨hx, hb, hml, hown, hts⟩ (cA_copyWhole l D clE clE_stable (tyC cy) (wC h cy) S_6 33 21 21 9 _ _ _ _ 5 5 cx_k_aheads cx_c_aheads cx_set_c_aheads rfl rfl (wCs_c_aheads h cy S_6) rfl rfl (by decide) (by decide) (fun S0 => S0 = (cx_set_c_aheads S_6 (k_copyW 5 5 (cx_k_aheads S_6) (cx_c_aheads S_6)))) rfl) ⟨va_cnB 2 hts gX0_becomes_X11_copyWhole_n78 rfl rfl rfl hs.1.2.2.2.2.2.2.2.2.2.2.2.2.2.2.2.2.2.2.2.2.2.2.2.2.2.2.1 wiX11 (by decide +kernel) ⟨Nat.le_of_ble_eq_true rfl, Nat.le_of_ble_eq_true rfl⟩, wstcopyWhole, trivial⟩ hK hP hD hS hA rfl hl.1 rfl (Nat.le_of_ble_eq_true rfl) dX0_becomes_169 ⟨Nat.zero_le _, Nat.zero_le _⟩ (fun S_7 H locs eS_7 hP hD hS => ?_)
    replace hw := hw S_7 eS_7
    refine lv_aload_n hx hb dX0_becomes_172 rfl (lv_at hl 1 rfl) ?_
    refine va_get (D := D) (ci := 0) (v := .ref (h 34)) (C := RX0) (T := TX0) (N := 16) hx hb hts hin0 hown hK hP 3 rfl rfl 14 (by decide) w62 (fun _ h9 => h9) rfl dX0_becomes_173 ?_
    refine lv_aload_n hx hb dX0_becomes_176 rfl (lv_at hl 0 rfl) ?_
    refine va_get (D := D) (ci := 0) (v := .ref (h 22)) (C := RX0) (T := TX0) (N := 16) hx hb hts hin0 hown hK hP 1 rfl rfl 14 (by decide) w62 (fun _ h9 => h9) rfl dX0_becomes_177 ?_
    refine e_callNv (As := [.ref (h 34), .ref (h 22)]) (rest := []) clE_stable hs ⟨hx, hb, hml, hown, hts⟩ (cA_copyWhole l D clE clE_stable (tyC cy) (wC h cy) S_7 34 22 22 10 _ _ _ _ 8 8 cx_k_growns cx_c_growns cx_set_c_growns rfl rfl (wCs_c_growns h cy S_7) rfl rfl (by decide) (by decide) (fun S0 => S0 = (cx_set_c_growns S_7 (k_copyW 8 8 (cx_k_growns S_7) (cx_c_growns S_7)))) rfl) ⟨va_cnB 2 hts gX0_becomes_X11_copyWhole_n78 rfl rfl rfl hs.1.2.2.2.2.2.2.2.2.2.2.2.2.2.2.2.2.2.2.2.2.2.2.2.2.2.2.1 wiX11 (by decide +kernel) ⟨Nat.le_of_ble_eq_true rfl, Nat.le_of_ble_eq_true rfl⟩, wstcopyWhole, trivial⟩ hK hP hD hS hA rfl hl.1 rfl (Nat.le_of_ble_eq_true rfl) dX0_becomes_180 ⟨Nat.zero_le _, Nat.zero_le _⟩ (fun S_8 H locs eS_8 hP hD hS => ?_)
    replace hw := hw S_8 eS_8
    refine lv_aload_n hx hb dX0_becomes_183 rfl (lv_at hl 0 rfl) ?_
    refine lv_aload_n hx hb dX0_becomes_184 rfl (lv_at hl 1 rfl) ?_
    refine va_get (D := D) (ci := 0) (v := .int (cx_k_grownCount S_8)) (C := RX0) (T := TX0) (N := 16) hx hb hts hin0 hown hK hP 3 rfl rfl 15 (by decide) w65 (fun _ h9 => h9) rfl dX0_becomes_185 ?_
    refine va_put (D := D) (ci := 0) (v := .int (cx_k_grownCount S_8)) (ty := .int) (C := RX0) (T := TX0) (N := 16) hx hb hts hin0 tyX0 tyX0_ok nmX0 hown hK hP hD hS 1 rfl rfl 15 (by decide) w65 (fun _ h9 => h9) rfl (tyX0_ok 15 (by decide)) rfl rfl (Nat.le_of_ble_eq_true rfl) dX0_becomes_188 (fun H locs hP hD hS => ?_)
    obtain ⟨S_9, eS_9⟩ : ∃ z : CS, z = (cx_set_c_grownCount S_8 (cx_k_grownCount S_8)) := ⟨_, rfl⟩
    replace hw := hw S_9 eS_9
    have hP : va_P D vwCl (wC h cy S_9) H := by rw [eS_9, ← wCp_c_grownCount]; exact hP
    have hD : va_D A (wC h cy S_9) := by rw [eS_9, ← wCp_c_grownCount]; exact hD
    exact W.vret hx hb hr (fun t ht hW => ⟨⟨S_9, rfl, hw, by rw [ht]; exact hP, va_K.moved hW.alike hK, hD⟩, hS.F ht⟩) hS.2.2 dX0_becomes_191
  have L_68 : ∀ (n68 : Nat) (x2 : Int32) (S : CS) (H : Heap) (locs : List Loc) (ls : Array Slot), wC_X0_becomes_kept_68 post n68 x2 S → va_P D vwCl (wC h cy S) H → va_D A (wC h cy S) → va_S A s.heap H locs → lv_has ls 3 [(0, .ref (h 1)), (1, .ref (h 3)), (2, .int x2)] → W p l e (headSpec wsX0_becomes { frames := 4, cells := 0, slots := 0, locals := 126 }).room s m (([.ref (h 1), .ref (h 3)] : List Value).toArray) below meth c H locs 0 0 (MQ below (va_Qv post (k_Post D (tyC cy) (wC h cy) A) A) (([.ref (h 1), .ref (h 3)] : List Value).toArray) s 0 0 A) (F0 m 68 ls []) := by
    intro n68
    induction n68 with
    | zero => intro x2 S H locs ls hw; exact False.elim hw
    | succ n68 ih_68 =>
      intro x2 S H locs ls hw hP hD hS hl
      unfold wC_X0_becomes_kept_68 at hw
      refine lv_iload_n hx hb dX0_becomes_68 rfl (lv_at hl 2 rfl) ?_
      refine lv_aload_n hx hb dX0_becomes_69 rfl (lv_at hl 0 rfl) ?_
      refine va_get (D := D) (ci := 0) (v := .ref (h 17)) (C := RX0) (T := TX0) (N := 16) hx hb hts hin0 hown hK hP 1 rfl rfl 6 (by decide) w36 (fun _ h9 => h9) rfl dX0_becomes_70 ?_
      refine va_alen (v := 4) hx hb hK hP 17 5 rfl rfl (show Int32.ofNat 4 = 4 by decide) dX0_becomes_73 ?_
      obtain ⟨hc_10t, hc_10f⟩ := hw
      refine lv_icmp_ge (tgt := 104) hx hb dX0_becomes_74 (by decide) (fun c_10 => ?_) (fun c_10 => ?_)
      · have hw := hc_10t c_10
        clear hc_10t hc_10f
        exact J_104 S _ _ _ hw hP hD hS (lv_sub hl [0, 1] rfl)
      · have hw := hc_10f c_10
        clear hc_10t hc_10f
        refine lv_iload_n hx hb dX0_becomes_77 rfl (lv_at hl 2 rfl) ?_
        refine lv_aload_n hx hb dX0_becomes_78 rfl (lv_at hl 1 rfl) ?_
        refine va_get (D := D) (ci := 0) (v := .ref (h 29)) (C := RX0) (T := TX0) (N := 16) hx hb hts hin0 hown hK hP 3 rfl rfl 6 (by decide) w36 (fun _ h9 => h9) rfl dX0_becomes_79 ?_
        refine va_alen (v := 4) hx hb hK hP 29 17 rfl rfl (show Int32.ofNat 4 = 4 by decide) dX0_becomes_82 ?_
        obtain ⟨hc_11t, hc_11f⟩ := hw
        refine lv_icmp_ge (tgt := 104) hx hb dX0_becomes_83 (by decide) (fun c_11 => ?_) (fun c_11 => ?_)
        · have hw := hc_11t c_11
          clear hc_11t hc_11f
          exact J_104 S _ _ _ hw hP hD hS (lv_sub hl [0, 1] rfl)
        · have hw := hc_11f c_11
          clear hc_11t hc_11f
          refine lv_aload_n hx hb dX0_becomes_86 rfl (lv_at hl 0 rfl) ?_
          refine va_get (D := D) (ci := 0) (v := .ref (h 17)) (C := RX0) (T := TX0) (N := 16) hx hb hts hin0 hown hK hP 1 rfl rfl 6 (by decide) w36 (fun _ h9 => h9) rfl dX0_becomes_87 ?_
          refine lv_iload_n hx hb dX0_becomes_90 rfl (lv_at hl 2 rfl) ?_
          refine lv_aload_n hx hb dX0_becomes_91 rfl (lv_at hl 1 rfl) ?_
          refine va_get (D := D) (ci := 0) (v := .ref (h 29)) (C := RX0) (T := TX0) (N := 16) hx hb hts hin0 hown hK hP 3 rfl rfl 6 (by decide) w36 (fun _ h9 => h9) rfl dX0_becomes_92 ?_
          refine lv_iload_n hx hb dX0_becomes_95 rfl (lv_at hl 2 rfl) ?_
          obtain ⟨hi_15, hw⟩ := hw
          refine va_aldq (C := "ClownsMourn$Text") (f := (cx_k_texts S)) hx hb hK hP 29 17 rfl rfl hi_15 dX0_becomes_96 ?_
          obtain ⟨hi_13, ht_14, hw⟩ := hw
          refine k_astq (v := (cx_k_texts S) x2.toNatClampNeg) (f := (cx_c_texts S)) hx hb hK hP hD hS 17 5 rfl rfl (fun a ha => (ht_14 a ha).elim fun B hB => (px_obj hB).elim fun q hq => ⟨q, _, hq⟩) hi_13 dX0_becomes_97 (fun H locs hP hD hS => ?_)
          obtain ⟨S_12, eS_12⟩ : ∃ z : CS, z = (cx_set_c_texts S (va_up (cx_c_texts S) (x2.toNatClampNeg) ((cx_k_texts S) x2.toNatClampNeg))) := ⟨_, rfl⟩
          replace hw := hw S_12 eS_12
          have hP : va_P D vwCl (wC h cy S_12) H := by rw [eS_12, ← wCs_c_texts]; exact hP
          have hD : va_D A (wC h cy S_12) := by rw [eS_12, ← wCs_c_texts]; exact hD
          refine lv_iinc (v := x2 + 1) (lv' := [(2, .int (x2 + 1)), (0, .ref (h 1)), (1, .ref (h 3))]) hx hb dX0_becomes_98 hl (k := 2) rfl (k_inc (by decide)) (by decide) rfl (fun ls hl => ?_)
          refine lv_goto (tgt := 68) hx hb dX0_becomes_101 (by decide) ?_
          exact ih_68 (x2 + 1) S_12 _ _ _ hw hP hD hS (lv_sub hl [1, 2, 0] rfl)
  refine lv_aload_n hx hb dX0_becomes_0 rfl (lv_at hl 1 rfl) ?_
  refine va_get (D := D) (ci := 0) (v := .ref (h 24)) (C := RX0) (T := TX0) (N := 16) hx hb hts hin0 hown hK hP 3 rfl rfl 0 (by decide) w11 (fun _ h9 => h9) rfl dX0_becomes_1 ?_
  refine lv_aload_n hx hb dX0_becomes_4 rfl (lv_at hl 0 rfl) ?_
  refine va_get (D := D) (ci := 0) (v := .ref (h 12)) (C := RX0) (T := TX0) (N := 16) hx hb hts hin0 hown hK hP 1 rfl rfl 0 (by decide) w11 (fun _ h9 => h9) rfl dX0_becomes_5 ?_
  refine e_callNv (As := [.ref (h 24), .ref (h 12)]) (rest := []) clE_stable hs ⟨hx, hb, hml, hown, hts⟩ (cA_copyWhole l D clE clE_stable (tyC cy) (wC h cy) S 24 12 12 0 _ _ _ _ 74 74 cx_k_now cx_c_now cx_set_c_now rfl rfl (wCs_c_now h cy S) rfl rfl (by decide) (by decide) (fun S0 => S0 = (cx_set_c_now S (k_copyW 74 74 (cx_k_now S) (cx_c_now S)))) rfl) ⟨va_cnB 2 hts gX0_becomes_X11_copyWhole_n78 rfl rfl rfl hs.1.2.2.2.2.2.2.2.2.2.2.2.2.2.2.2.2.2.2.2.2.2.2.2.2.2.2.1 wiX11 (by decide +kernel) ⟨Nat.le_of_ble_eq_true rfl, Nat.le_of_ble_eq_true rfl⟩, wstcopyWhole, trivial⟩ hK hP hD hS hA rfl hl.1 rfl (Nat.le_of_ble_eq_true rfl) dX0_becomes_8 ⟨Nat.zero_le _, Nat.zero_le _⟩ (fun S_16 H locs eS_16 hP hD hS => ?_)
  replace hw := hw S_16 eS_16
  refine lv_aload_n hx hb dX0_becomes_11 rfl (lv_at hl 0 rfl) ?_
  refine va_get (D := D) (ci := 0) (v := .ref (h 2)) (C := RX0) (T := TX0) (N := 16) hx hb hts hin0 hown hK hP 1 rfl rfl 1 (by decide) w18 (fun _ h9 => h9) rfl dX0_becomes_12 ?_
  refine lv_aload_n hx hb dX0_becomes_15 rfl (lv_at hl 1 rfl) ?_
  refine va_get (D := D) (ci := 0) (v := .ref (h 4)) (C := RX0) (T := TX0) (N := 16) hx hb hts hin0 hown hK hP 3 rfl rfl 1 (by decide) w18 (fun _ h9 => h9) rfl dX0_becomes_16 ?_
  refine e_callVv (As := [.ref (h 4)]) (rest := []) clE_stable hs ⟨hx, hb, hml, hown, hts⟩ (cC_X8_becomes_ksteps l D h cy _ _ hw) (cwV 1 hts gX0_becomes_X8_becomes rfl rfl rfl (by decide +kernel) ⟨Nat.le_of_ble_eq_true rfl, Nat.le_of_ble_eq_true rfl⟩) (va_recv hK hP (ci := 8) (q0 := 2) rfl rfl) hK hP hD hS hA rfl hl.1 rfl (Nat.le_of_ble_eq_true rfl) dX0_becomes_19 ⟨Nat.zero_le _, Nat.zero_le _⟩ (fun S_18 H locs hw hP hD hS => ?_)
  refine lv_aload_n hx hb dX0_becomes_22 rfl (lv_at hl 1 rfl) ?_
  refine va_get (D := D) (ci := 0) (v := .ref (h 25)) (C := RX0) (T := TX0) (N := 16) hx hb hts hin0 hown hK hP 3 rfl rfl 2 (by decide) w22 (fun _ h9 => h9) rfl dX0_becomes_23 ?_
  refine lv_aload_n hx hb dX0_becomes_26 rfl (lv_at hl 0 rfl) ?_
  refine va_get (D := D) (ci := 0) (v := .ref (h 13)) (C := RX0) (T := TX0) (N := 16) hx hb hts hin0 hown hK hP 1 rfl rfl 2 (by decide) w22 (fun _ h9 => h9) rfl dX0_becomes_27 ?_
  refine e_callNv (As := [.ref (h 25), .ref (h 13)]) (rest := []) clE_stable hs ⟨hx, hb, hml, hown, hts⟩ (cA_copyWhole l D clE clE_stable (tyC cy) (wC h cy) S_18 25 13 13 1 _ _ _ _ 6 6 cx_k_kinds cx_c_kinds cx_set_c_kinds rfl rfl (wCs_c_kinds h cy S_18) rfl rfl (by decide) (by decide) (fun S0 => S0 = (cx_set_c_kinds S_18 (k_copyW 6 6 (cx_k_kinds S_18) (cx_c_kinds S_18)))) rfl) ⟨va_cnB 2 hts gX0_becomes_X11_copyWhole_n78 rfl rfl rfl hs.1.2.2.2.2.2.2.2.2.2.2.2.2.2.2.2.2.2.2.2.2.2.2.2.2.2.2.1 wiX11 (by decide +kernel) ⟨Nat.le_of_ble_eq_true rfl, Nat.le_of_ble_eq_true rfl⟩, wstcopyWhole, trivial⟩ hK hP hD hS hA rfl hl.1 rfl (Nat.le_of_ble_eq_true rfl) dX0_becomes_30 ⟨Nat.zero_le _, Nat.zero_le _⟩ (fun S_19 H locs eS_19 hP hD hS => ?_)
  replace hw := hw S_19 eS_19
  refine lv_aload_n hx hb dX0_becomes_33 rfl (lv_at hl 1 rfl) ?_
  refine va_get (D := D) (ci := 0) (v := .ref (h 26)) (C := RX0) (T := TX0) (N := 16) hx hb hts hin0 hown hK hP 3 rfl rfl 3 (by decide) w25 (fun _ h9 => h9) rfl dX0_becomes_34 ?_
  refine lv_aload_n hx hb dX0_becomes_37 rfl (lv_at hl 0 rfl) ?_
  refine va_get (D := D) (ci := 0) (v := .ref (h 14)) (C := RX0) (T := TX0) (N := 16) hx hb hts hin0 hown hK hP 1 rfl rfl 3 (by decide) w25 (fun _ h9 => h9) rfl dX0_becomes_38 ?_
  refine e_callNv (As := [.ref (h 26), .ref (h 14)]) (rest := []) clE_stable hs ⟨hx, hb, hml, hown, hts⟩ (cA_copyWhole l D clE clE_stable (tyC cy) (wC h cy) S_19 26 14 14 2 _ _ _ _ 5 5 cx_k_skills cx_c_skills cx_set_c_skills rfl rfl (wCs_c_skills h cy S_19) rfl rfl (by decide) (by decide) (fun S0 => S0 = (cx_set_c_skills S_19 (k_copyW 5 5 (cx_k_skills S_19) (cx_c_skills S_19)))) rfl) ⟨va_cnB 2 hts gX0_becomes_X11_copyWhole_n78 rfl rfl rfl hs.1.2.2.2.2.2.2.2.2.2.2.2.2.2.2.2.2.2.2.2.2.2.2.2.2.2.2.1 wiX11 (by decide +kernel) ⟨Nat.le_of_ble_eq_true rfl, Nat.le_of_ble_eq_true rfl⟩, wstcopyWhole, trivial⟩ hK hP hD hS hA rfl hl.1 rfl (Nat.le_of_ble_eq_true rfl) dX0_becomes_41 ⟨Nat.zero_le _, Nat.zero_le _⟩ (fun S_20 H locs eS_20 hP hD hS => ?_)
  replace hw := hw S_20 eS_20
  refine lv_aload_n hx hb dX0_becomes_44 rfl (lv_at hl 1 rfl) ?_
  refine va_get (D := D) (ci := 0) (v := .ref (h 27)) (C := RX0) (T := TX0) (N := 16) hx hb hts hin0 hown hK hP 3 rfl rfl 4 (by decide) w28 (fun _ h9 => h9) rfl dX0_becomes_45 ?_
  refine lv_aload_n hx hb dX0_becomes_48 rfl (lv_at hl 0 rfl) ?_
  refine va_get (D := D) (ci := 0) (v := .ref (h 15)) (C := RX0) (T := TX0) (N := 16) hx hb hts hin0 hown hK hP 1 rfl rfl 4 (by decide) w28 (fun _ h9 => h9) rfl dX0_becomes_49 ?_
  refine e_callNv (As := [.ref (h 27), .ref (h 15)]) (rest := []) clE_stable hs ⟨hx, hb, hml, hown, hts⟩ (cA_copyWhole l D clE clE_stable (tyC cy) (wC h cy) S_20 27 15 15 3 _ _ _ _ 5 5 cx_k_ages cx_c_ages cx_set_c_ages rfl rfl (wCs_c_ages h cy S_20) rfl rfl (by decide) (by decide) (fun S0 => S0 = (cx_set_c_ages S_20 (k_copyW 5 5 (cx_k_ages S_20) (cx_c_ages S_20)))) rfl) ⟨va_cnB 2 hts gX0_becomes_X11_copyWhole_n78 rfl rfl rfl hs.1.2.2.2.2.2.2.2.2.2.2.2.2.2.2.2.2.2.2.2.2.2.2.2.2.2.2.1 wiX11 (by decide +kernel) ⟨Nat.le_of_ble_eq_true rfl, Nat.le_of_ble_eq_true rfl⟩, wstcopyWhole, trivial⟩ hK hP hD hS hA rfl hl.1 rfl (Nat.le_of_ble_eq_true rfl) dX0_becomes_52 ⟨Nat.zero_le _, Nat.zero_le _⟩ (fun S_21 H locs eS_21 hP hD hS => ?_)
  replace hw := hw S_21 eS_21
  refine lv_aload_n hx hb dX0_becomes_55 rfl (lv_at hl 1 rfl) ?_
  refine va_get (D := D) (ci := 0) (v := .ref (h 28)) (C := RX0) (T := TX0) (N := 16) hx hb hts hin0 hown hK hP 3 rfl rfl 5 (by decide) w31 (fun _ h9 => h9) rfl dX0_becomes_56 ?_
  refine lv_aload_n hx hb dX0_becomes_59 rfl (lv_at hl 0 rfl) ?_
  refine va_get (D := D) (ci := 0) (v := .ref (h 16)) (C := RX0) (T := TX0) (N := 16) hx hb hts hin0 hown hK hP 1 rfl rfl 5 (by decide) w31 (fun _ h9 => h9) rfl dX0_becomes_60 ?_
  refine e_callNv (As := [.ref (h 28), .ref (h 16)]) (rest := []) clE_stable hs ⟨hx, hb, hml, hown, hts⟩ (cA_copyWhole l D clE clE_stable (tyC cy) (wC h cy) S_21 28 16 16 4 _ _ _ _ 50 50 cx_k_turns cx_c_turns cx_set_c_turns rfl rfl (wCs_c_turns h cy S_21) rfl rfl (by decide) (by decide) (fun S0 => S0 = (cx_set_c_turns S_21 (k_copyW 50 50 (cx_k_turns S_21) (cx_c_turns S_21)))) rfl) ⟨va_cnB 2 hts gX0_becomes_X11_copyWhole_n78 rfl rfl rfl hs.1.2.2.2.2.2.2.2.2.2.2.2.2.2.2.2.2.2.2.2.2.2.2.2.2.2.2.1 wiX11 (by decide +kernel) ⟨Nat.le_of_ble_eq_true rfl, Nat.le_of_ble_eq_true rfl⟩, wstcopyWhole, trivial⟩ hK hP hD hS hA rfl hl.1 rfl (Nat.le_of_ble_eq_true rfl) dX0_becomes_63 ⟨Nat.zero_le _, Nat.zero_le _⟩ (fun S_22 H locs eS_22 hP hD hS => ?_)
  replace hw := hw S_22 eS_22
  refine lv_iconst (v := 0) hx hb dX0_becomes_66 (by decide) ?_
  refine lv_istore_n (lv' := [(2, .int 0), (0, .ref (h 1)), (1, .ref (h 3))]) hx hb dX0_becomes_67 rfl hl (by decide) rfl (fun ls hl => ?_)
  obtain ⟨n_68, hw⟩ := hw
  exact L_68 n_68 0 S_22 _ _ _ hw hP hD hS (lv_sub hl [1, 2, 0] rfl)
def wC_X11_back (S : CS) (post : Int32 → CS → Prop) : Prop := wC_X0_becomes_kept S (fun S_2 => wC_X0_today S_2 (fun r_3 S_4 => post r_3 S_4))
set_option maxHeartbeats 4000000 in
set_option maxRecDepth 100000 in
theorem cC_X11_back (l : Launch) (D : va_G) (h : Nat → Nat) (cy : Nat → ClassId) (S : CS) (post : Int32 → CS → Prop) (hw : wC_X11_back S post) : e_Mi clE l yX11_back wsX11_back { frames := 5, cells := 0, slots := 0, locals := 148 } D (tyC cy) (wC h cy) [.ref (h 0)] S post := by
  intro sz
  refine Met.ofW (cc := cX11_back) (maxL := 1) (ret := (some .int)) (by decide) rfl ?_
  intro p e s m args below meth c s₁ B hml hv
  obtain ⟨rfl, hsz, hP, hK, hD0, hs⟩ := hv
  have hx := B.exec
  have hb := B.bytes
  have hr := B.returns
  have hts := atoms_spec (ws := wsX11_back) B.pre
  have hown : s.vm.findClass RX11 = some m.cls := findClass_of_methodNamed B.named
  have hlocks := B.notSynchronized
  subst hsz
  have hD := hD0.self (sz := s.heap.size)
  generalize hAe : va_A (wC h cy S) s.heap.size = A at hD hs ⊢
  have hA : ∀ q : Nat, s.heap.size ≤ q → A q := fun q h => by rw [← hAe]; exact Or.inr h
  have hS : va_S A s.heap s.heap [] := va_S.rf
  have hin11 : ∀ w ∈ wsX110, w ∈ wsX11_back := fun _ h => List.mem_cons_of_mem _ (List.mem_append_left _ (List.mem_append_left _ (List.mem_append_right _ h)))
  have hin0 : ∀ w ∈ wsX00, w ∈ wsX11_back := fun _ h => List.mem_cons_of_mem _ (List.mem_append_left _ (List.mem_append_right _ h))
  have hin8 : ∀ w ∈ wsX80, w ∈ wsX11_back := fun _ h => List.mem_cons_of_mem _ (List.mem_append_right _ h)
  have w10 := hts (.fieldLink RX11 10 "ClownsMourn" "city" "LClownsMourn$City;") (List.mem_of_getElem? (i := 1) rfl)
  have w16 := hts (.fieldLink RX11 16 "ClownsMourn" "kept" "LClownsMourn$City;") (List.mem_of_getElem? (i := 2) rfl)
  have hl := lv_entry ([.ref (h 0)]) (n := 1) (Nat.le_of_ble_eq_true rfl)
  rw [lg_entry_eq]
  generalize (lg_sl ([.ref (h 0)]) ++ List.replicate (1 - (lg_sl ([.ref (h 0)])).length) Slot.unset).toArray = ls at hl ⊢
  have hl : lv_has ls 1 [(0, .ref (h 0))] := hl
  unfold wC_X11_back at hw
  clear hD0
  refine lv_aload_n hx hb dX11_back_0 rfl (lv_at hl 0 rfl) ?_
  refine va_get (D := D) (ci := 10) (v := .ref (h 1)) (C := RX11) (T := TX11) (N := 9) hx hb hts hin11 hown hK hP 0 rfl rfl 0 (by decide) w10 (fun _ h9 => h9) rfl dX11_back_1 ?_
  refine lv_aload_n hx hb dX11_back_4 rfl (lv_at hl 0 rfl) ?_
  refine va_get (D := D) (ci := 10) (v := .ref (h 3)) (C := RX11) (T := TX11) (N := 9) hx hb hts hin11 hown hK hP 0 rfl rfl 1 (by decide) w16 (fun _ h9 => h9) rfl dX11_back_5 ?_
  refine e_callVv (As := [.ref (h 3)]) (rest := []) clE_stable hs ⟨hx, hb, hml, hown, hts⟩ (cC_X0_becomes_kept l D h cy _ _ hw) (cwV 1 hts gX11_back_X0_becomes rfl rfl rfl (by decide +kernel) ⟨Nat.le_of_ble_eq_true rfl, Nat.le_of_ble_eq_true rfl⟩) (va_recv hK hP (ci := 0) (q0 := 1) rfl rfl) hK hP hD hS hA rfl hl.1 rfl (Nat.le_of_ble_eq_true rfl) dX11_back_8 ⟨Nat.zero_le _, Nat.zero_le _⟩ (fun S_2 H locs hw hP hD hS => ?_)
  refine lv_aload_n hx hb dX11_back_11 rfl (lv_at hl 0 rfl) ?_
  refine va_get (D := D) (ci := 10) (v := .ref (h 1)) (C := RX11) (T := TX11) (N := 9) hx hb hts hin11 hown hK hP 0 rfl rfl 0 (by decide) w10 (fun _ h9 => h9) rfl dX11_back_12 ?_
  refine e_callVi (As := []) (rest := []) clE_stable hs ⟨hx, hb, hml, hown, hts⟩ (cC_X0_today l D h cy _ _ hw) (cwV 0 hts gX11_back_X0_today rfl rfl rfl (by decide +kernel) ⟨Nat.le_of_ble_eq_true rfl, Nat.le_of_ble_eq_true rfl⟩) (va_recv hK hP (ci := 0) (q0 := 1) rfl rfl) hK hP hD hS hA rfl hl.1 rfl (Nat.le_of_ble_eq_true rfl) dX11_back_15 ⟨Nat.zero_le _, Nat.zero_le _⟩ (fun r_3 S_4 H locs hw hP hD hS => ?_)
  exact W.iret (v := r_3) hx hb hr (fun t ht hW => ⟨⟨r_3, S_4, rfl, hw, by rw [ht]; exact hP, va_K.moved hW.alike hK, hD⟩, hS.F ht⟩) hS.2.2 dX11_back_18
def wC_X11_about (p1 : Int32) (S : CS) (post : Int32 → CS → Prop) : Prop := ((p1 = 0 → wC_X0_houseCount S (fun r_1 S_2 => post r_1 S_2)) ∧ (p1 = 1 → wC_X0_clownCount S (fun r_4 S_5 => post r_4 S_5)) ∧ (p1 = 2 → post (cx_c_textCount S) S) ∧ (p1 = 3 → post (cx_c_ruling S) S) ∧ (p1 = 4 → post (cx_cs_count S) S) ∧ (p1 = 5 → post (cx_c_trialCount S) S) ∧ (p1 = 6 → post (cx_c_grownCount S) S) ∧ (p1 = 7 → post (cx_r_length S) S) ∧ (¬ p1 = 0 → ¬ p1 = 1 → ¬ p1 = 2 → ¬ p1 = 3 → ¬ p1 = 4 → ¬ p1 = 5 → ¬ p1 = 6 → ¬ p1 = 7 → post (-2) S))
set_option maxHeartbeats 4000000 in
set_option maxRecDepth 100000 in
theorem cC_X11_about (l : Launch) (D : va_G) (h : Nat → Nat) (cy : Nat → ClassId) (p1 : Int32) (S : CS) (post : Int32 → CS → Prop) (hw : wC_X11_about p1 S post) : e_Mi clE l yX11_about wsX11_about { frames := 2, cells := 0, slots := 0, locals := 41 } D (tyC cy) (wC h cy) [.ref (h 0), .int p1] S post := by
  intro sz
  refine Met.ofW (cc := cX11_about) (maxL := 2) (ret := (some .int)) (by decide) rfl ?_
  intro p e s m args below meth c s₁ B hml hv
  obtain ⟨rfl, hsz, hP, hK, hD0, hs⟩ := hv
  have hx := B.exec
  have hb := B.bytes
  have hr := B.returns
  have hts := atoms_spec (ws := wsX11_about) B.pre
  have hown : s.vm.findClass RX11 = some m.cls := findClass_of_methodNamed B.named
  have hlocks := B.notSynchronized
  subst hsz
  have hD := hD0.self (sz := s.heap.size)
  generalize hAe : va_A (wC h cy S) s.heap.size = A at hD hs ⊢
  have hA : ∀ q : Nat, s.heap.size ≤ q → A q := fun q h => by rw [← hAe]; exact Or.inr h
  have hS : va_S A s.heap s.heap [] := va_S.rf
  have hin11 : ∀ w ∈ wsX110, w ∈ wsX11_about := fun _ h => List.mem_cons_of_mem _ (List.mem_append_left _ (List.mem_append_left _ (List.mem_append_left _ (List.mem_append_right _ h))))
  have hin0 : ∀ w ∈ wsX00, w ∈ wsX11_about := fun _ h => List.mem_cons_of_mem _ (List.mem_append_left _ (List.mem_append_left _ (List.mem_append_right _ h)))
  have hin8 : ∀ w ∈ wsX80, w ∈ wsX11_about := fun _ h => List.mem_cons_of_mem _ (List.mem_append_left _ (List.mem_append_right _ h))
  have hin6 : ∀ w ∈ wsX60, w ∈ wsX11_about := fun _ h => List.mem_cons_of_mem _ (List.mem_append_right _ h)
  have w10 := hts (.fieldLink RX11 10 "ClownsMourn" "city" "LClownsMourn$City;") (List.mem_of_getElem? (i := 1) rfl)
  have w106 := hts (.fieldLink RX11 106 "ClownsMourn$Reader" "length" "I") (List.mem_of_getElem? (i := 9) rfl)
  have w110 := hts (.fieldLink RX11 110 "ClownsMourn$City" "textCount" "I") (List.mem_of_getElem? (i := 2) rfl)
  have w127 := hts (.fieldLink RX11 127 "ClownsMourn$City" "ruling" "I") (List.mem_of_getElem? (i := 3) rfl)
  have w134 := hts (.fieldLink RX11 134 "ClownsMourn$City" "steps" "LClownsMourn$Steps;") (List.mem_of_getElem? (i := 4) rfl)
  have w191 := hts (.fieldLink RX11 191 "ClownsMourn$Steps" "count" "I") (List.mem_of_getElem? (i := 5) rfl)
  have w22 := hts (.fieldLink RX11 22 "ClownsMourn" "reader" "LClownsMourn$Reader;") (List.mem_of_getElem? (i := 8) rfl)
  have w286 := hts (.fieldLink RX11 286 "ClownsMourn$City" "trialCount" "I") (List.mem_of_getElem? (i := 6) rfl)
  have w336 := hts (.fieldLink RX11 336 "ClownsMourn$City" "grownCount" "I") (List.mem_of_getElem? (i := 7) rfl)
  have hl := lv_entry ([.ref (h 0), .int p1]) (n := 2) (Nat.le_of_ble_eq_true rfl)
  rw [lg_entry_eq]
  generalize (lg_sl ([.ref (h 0), .int p1]) ++ List.replicate (2 - (lg_sl ([.ref (h 0), .int p1])).length) Slot.unset).toArray = ls at hl ⊢
  have hl : lv_has ls 2 [(0, .ref (h 0)), (1, .int p1)] := hl
  unfold wC_X11_about at hw
  clear hD0
  refine lv_iload_n hx hb dX11_about_0 rfl (lv_at hl 1 rfl) ?_
  obtain ⟨hc_3, hw⟩ := hw
  by_cases c_3 : p1 = 0
  · have hw := hc_3 c_3
    refine lv_tableIn (off := 47) (tgt := 48) hx hb dX11_about_1 (by rw [c_3]; decide) (by rw [c_3]; decide) (by rw [c_3]; rfl) (by decide) ?_
    refine lv_aload_n hx hb dX11_about_48 rfl (lv_at hl 0 rfl) ?_
    refine va_get (D := D) (ci := 10) (v := .ref (h 1)) (C := RX11) (T := TX11) (N := 9) hx hb hts hin11 hown hK hP 0 rfl rfl 0 (by decide) w10 (fun _ h9 => h9) rfl dX11_about_49 ?_
    refine e_callVi (As := []) (rest := []) clE_stable hs ⟨hx, hb, hml, hown, hts⟩ (cC_X0_houseCount l D h cy _ _ hw) (cwV 0 hts gX11_about_X0_houseCount rfl rfl rfl (by decide +kernel) ⟨Nat.le_of_ble_eq_true rfl, Nat.le_of_ble_eq_true rfl⟩) (va_recv hK hP (ci := 0) (q0 := 1) rfl rfl) hK hP hD hS hA rfl hl.1 rfl (Nat.le_of_ble_eq_true rfl) dX11_about_52 ⟨Nat.zero_le _, Nat.zero_le _⟩ (fun r_1 S_2 H locs hw hP hD hS => ?_)
    exact W.iret (v := r_1) hx hb hr (fun t ht hW => ⟨⟨r_1, S_2, rfl, hw, by rw [ht]; exact hP, va_K.moved hW.alike hK, hD⟩, hS.F ht⟩) hS.2.2 dX11_about_55
  obtain ⟨hc_6, hw⟩ := hw
  by_cases c_6 : p1 = 1
  · have hw := hc_6 c_6
    refine lv_tableIn (off := 55) (tgt := 56) hx hb dX11_about_1 (by rw [c_6]; decide) (by rw [c_6]; decide) (by rw [c_6]; rfl) (by decide) ?_
    refine lv_aload_n hx hb dX11_about_56 rfl (lv_at hl 0 rfl) ?_
    refine va_get (D := D) (ci := 10) (v := .ref (h 1)) (C := RX11) (T := TX11) (N := 9) hx hb hts hin11 hown hK hP 0 rfl rfl 0 (by decide) w10 (fun _ h9 => h9) rfl dX11_about_57 ?_
    refine e_callVi (As := []) (rest := []) clE_stable hs ⟨hx, hb, hml, hown, hts⟩ (cC_X0_clownCount l D h cy _ _ hw) (cwV 0 hts gX11_about_X0_clownCount rfl rfl rfl (by decide +kernel) ⟨Nat.le_of_ble_eq_true rfl, Nat.le_of_ble_eq_true rfl⟩) (va_recv hK hP (ci := 0) (q0 := 1) rfl rfl) hK hP hD hS hA rfl hl.1 rfl (Nat.le_of_ble_eq_true rfl) dX11_about_60 ⟨Nat.zero_le _, Nat.zero_le _⟩ (fun r_4 S_5 H locs hw hP hD hS => ?_)
    exact W.iret (v := r_4) hx hb hr (fun t ht hW => ⟨⟨r_4, S_5, rfl, hw, by rw [ht]; exact hP, va_K.moved hW.alike hK, hD⟩, hS.F ht⟩) hS.2.2 dX11_about_63
  obtain ⟨hc_7, hw⟩ := hw
  by_cases c_7 : p1 = 2
  · have hw := hc_7 c_7
    refine lv_tableIn (off := 63) (tgt := 64) hx hb dX11_about_1 (by rw [c_7]; decide) (by rw [c_7]; decide) (by rw [c_7]; rfl) (by decide) ?_
    refine lv_aload_n hx hb dX11_about_64 rfl (lv_at hl 0 rfl) ?_
    refine va_get (D := D) (ci := 10) (v := .ref (h 1)) (C := RX11) (T := TX11) (N := 9) hx hb hts hin11 hown hK hP 0 rfl rfl 0 (by decide) w10 (fun _ h9 => h9) rfl dX11_about_65 ?_
    refine va_get (D := D) (ci := 0) (v := .int (cx_c_textCount S)) (C := RX0) (T := TX0) (N := 16) hx hb hts hin0 hown hK hP 1 rfl rfl 7 (by decide) w110 (fun _ h9 => h9) rfl dX11_about_68 ?_
    exact W.iret (v := (cx_c_textCount S)) hx hb hr (fun t ht hW => ⟨⟨(cx_c_textCount S), S, rfl, hw, by rw [ht]; exact hP, va_K.moved hW.alike hK, hD⟩, hS.F ht⟩) hS.2.2 dX11_about_71
  obtain ⟨hc_8, hw⟩ := hw
  by_cases c_8 : p1 = 3
  · have hw := hc_8 c_8
    refine lv_tableIn (off := 71) (tgt := 72) hx hb dX11_about_1 (by rw [c_8]; decide) (by rw [c_8]; decide) (by rw [c_8]; rfl) (by decide) ?_
    refine lv_aload_n hx hb dX11_about_72 rfl (lv_at hl 0 rfl) ?_
    refine va_get (D := D) (ci := 10) (v := .ref (h 1)) (C := RX11) (T := TX11) (N := 9) hx hb hts hin11 hown hK hP 0 rfl rfl 0 (by decide) w10 (fun _ h9 => h9) rfl dX11_about_73 ?_
    refine va_get (D := D) (ci := 0) (v := .int (cx_c_ruling S)) (C := RX0) (T := TX0) (N := 16) hx hb hts hin0 hown hK hP 1 rfl rfl 8 (by decide) w127 (fun _ h9 => h9) rfl dX11_about_76 ?_
    exact W.iret (v := (cx_c_ruling S)) hx hb hr (fun t ht hW => ⟨⟨(cx_c_ruling S), S, rfl, hw, by rw [ht]; exact hP, va_K.moved hW.alike hK, hD⟩, hS.F ht⟩) hS.2.2 dX11_about_79
  obtain ⟨hc_9, hw⟩ := hw
  by_cases c_9 : p1 = 4
  · have hw := hc_9 c_9
    refine lv_tableIn (off := 79) (tgt := 80) hx hb dX11_about_1 (by rw [c_9]; decide) (by rw [c_9]; decide) (by rw [c_9]; rfl) (by decide) ?_
    refine lv_aload_n hx hb dX11_about_80 rfl (lv_at hl 0 rfl) ?_
    refine va_get (D := D) (ci := 10) (v := .ref (h 1)) (C := RX11) (T := TX11) (N := 9) hx hb hts hin11 hown hK hP 0 rfl rfl 0 (by decide) w10 (fun _ h9 => h9) rfl dX11_about_81 ?_
    refine va_get (D := D) (ci := 0) (v := .ref (h 2)) (C := RX0) (T := TX0) (N := 16) hx hb hts hin0 hown hK hP 1 rfl rfl 1 (by decide) w134 (fun _ h9 => h9) rfl dX11_about_84 ?_
    refine va_get (D := D) (ci := 8) (v := .int (cx_cs_count S)) (C := RX8) (T := TX8) (N := 3) hx hb hts hin8 hown hK hP 2 rfl rfl 2 (by decide) w191 (fun _ h9 => h9) rfl dX11_about_87 ?_
    exact W.iret (v := (cx_cs_count S)) hx hb hr (fun t ht hW => ⟨⟨(cx_cs_count S), S, rfl, hw, by rw [ht]; exact hP, va_K.moved hW.alike hK, hD⟩, hS.F ht⟩) hS.2.2 dX11_about_90
  obtain ⟨hc_10, hw⟩ := hw
  by_cases c_10 : p1 = 5
  · have hw := hc_10 c_10
    refine lv_tableIn (off := 90) (tgt := 91) hx hb dX11_about_1 (by rw [c_10]; decide) (by rw [c_10]; decide) (by rw [c_10]; rfl) (by decide) ?_
    refine lv_aload_n hx hb dX11_about_91 rfl (lv_at hl 0 rfl) ?_
    refine va_get (D := D) (ci := 10) (v := .ref (h 1)) (C := RX11) (T := TX11) (N := 9) hx hb hts hin11 hown hK hP 0 rfl rfl 0 (by decide) w10 (fun _ h9 => h9) rfl dX11_about_92 ?_
    refine va_get (D := D) (ci := 0) (v := .int (cx_c_trialCount S)) (C := RX0) (T := TX0) (N := 16) hx hb hts hin0 hown hK hP 1 rfl rfl 11 (by decide) w286 (fun _ h9 => h9) rfl dX11_about_95 ?_
    exact W.iret (v := (cx_c_trialCount S)) hx hb hr (fun t ht hW => ⟨⟨(cx_c_trialCount S), S, rfl, hw, by rw [ht]; exact hP, va_K.moved hW.alike hK, hD⟩, hS.F ht⟩) hS.2.2 dX11_about_98
  obtain ⟨hc_11, hw⟩ := hw
  by_cases c_11 : p1 = 6
  · have hw := hc_11 c_11
    refine lv_tableIn (off := 98) (tgt := 99) hx hb dX11_about_1 (by rw [c_11]; decide) (by rw [c_11]; decide) (by rw [c_11]; rfl) (by decide) ?_
    refine lv_aload_n hx hb dX11_about_99 rfl (lv_at hl 0 rfl) ?_
    refine va_get (D := D) (ci := 10) (v := .ref (h 1)) (C := RX11) (T := TX11) (N := 9) hx hb hts hin11 hown hK hP 0 rfl rfl 0 (by decide) w10 (fun _ h9 => h9) rfl dX11_about_100 ?_
    refine va_get (D := D) (ci := 0) (v := .int (cx_c_grownCount S)) (C := RX0) (T := TX0) (N := 16) hx hb hts hin0 hown hK hP 1 rfl rfl 15 (by decide) w336 (fun _ h9 => h9) rfl dX11_about_103 ?_
    exact W.iret (v := (cx_c_grownCount S)) hx hb hr (fun t ht hW => ⟨⟨(cx_c_grownCount S), S, rfl, hw, by rw [ht]; exact hP, va_K.moved hW.alike hK, hD⟩, hS.F ht⟩) hS.2.2 dX11_about_106
  obtain ⟨hc_12, hw⟩ := hw
  by_cases c_12 : p1 = 7
  · have hw := hc_12 c_12
    refine lv_tableIn (off := 106) (tgt := 107) hx hb dX11_about_1 (by rw [c_12]; decide) (by rw [c_12]; decide) (by rw [c_12]; rfl) (by decide) ?_
    refine lv_aload_n hx hb dX11_about_107 rfl (lv_at hl 0 rfl) ?_
    refine va_get (D := D) (ci := 10) (v := .ref (h 5)) (C := RX11) (T := TX11) (N := 9) hx hb hts hin11 hown hK hP 0 rfl rfl 2 (by decide) w22 (fun _ h9 => h9) rfl dX11_about_108 ?_
    refine va_get (D := D) (ci := 6) (v := .int (cx_r_length S)) (C := RX6) (T := TX6) (N := 16) hx hb hts hin6 hown hK hP 5 rfl rfl 0 (by decide) w106 (fun _ h9 => h9) rfl dX11_about_111 ?_
    exact W.iret (v := (cx_r_length S)) hx hb hr (fun t ht hW => ⟨⟨(cx_r_length S), S, rfl, hw, by rw [ht]; exact hP, va_K.moved hW.alike hK, hD⟩, hS.F ht⟩) hS.2.2 dX11_about_114
  have hw := hw c_3 c_6 c_7 c_8 c_9 c_10 c_11 c_12
  have c_3n := lv_neT c_3 (a := 0) (by decide)
  have c_6n := lv_neT c_6 (a := 1) (by decide)
  have c_7n := lv_neT c_7 (a := 2) (by decide)
  have c_8n := lv_neT c_8 (a := 3) (by decide)
  have c_9n := lv_neT c_9 (a := 4) (by decide)
  have c_10n := lv_neT c_10 (a := 5) (by decide)
  have c_11n := lv_neT c_11 (a := 6) (by decide)
  have c_12n := lv_neT c_12 (a := 7) (by decide)
  refine lv_tableOut (tgt := 115) hx hb dX11_about_1 (by omega) (by decide) ?_
  refine lv_bipush (v := (-2)) hx hb dX11_about_115 (by decide) ?_
  exact W.iret (v := (-2)) hx hb hr (fun t ht hW => ⟨⟨(-2), S, rfl, hw, by rw [ht]; exact hP, va_K.moved hW.alike hK, hD⟩, hS.F ht⟩) hS.2.2 dX11_about_117
def wC_X0_addText (p1 : Option Nat) (S : CS) (post : Int32 → CS → Prop) : Prop := (((cx_c_textCount S) < 0 → post (-1) S) ∧ (¬ ((cx_c_textCount S) < 0) → (((cx_c_textCount S) < 4 → (vp_in (cx_c_textCount S) 4 ∧ (∀ a : Nat, p1 = some a → ∃ B : TB, (a, B) ∈ cx_px S) ∧ ∀ S_3 : CS, S_3 = (cx_set_c_texts S (va_up (cx_c_texts S) ((cx_c_textCount S).toNatClampNeg) p1)) → (∀ S_4 : CS, S_4 = (cx_set_c_textCount S_3 ((cx_c_textCount S_3) + 1)) → post (cx_c_textCount S) S_4))) ∧ (¬ ((cx_c_textCount S) < 4) → post (-1) S))))
set_option maxHeartbeats 4000000 in
set_option maxRecDepth 100000 in
theorem cC_X0_addText (l : Launch) (D : va_G) (h : Nat → Nat) (cy : Nat → ClassId) (p1 : Option Nat) (S : CS) (post : Int32 → CS → Prop) (hw : wC_X0_addText p1 S post) : e_Mi clE l yX0_addText wsX0_addText { frames := 0, cells := 0, slots := 0, locals := 0 } D (tyC cy) (wC h cy) [.ref (h 1), va_rf p1] S post := by
  intro sz
  refine Met.ofW (cc := cX0_addText) (maxL := 3) (ret := (some .int)) (by decide) rfl ?_
  intro p e s m args below meth c s₁ B hml hv
  obtain ⟨rfl, hsz, hP, hK, hD0, hs⟩ := hv
  have hx := B.exec
  have hb := B.bytes
  have hr := B.returns
  have hts := atoms_spec (ws := wsX0_addText) B.pre
  have hown : s.vm.findClass RX0 = some m.cls := findClass_of_methodNamed B.named
  have hlocks := B.notSynchronized
  subst hsz
  have hD := hD0.self (sz := s.heap.size)
  generalize hAe : va_A (wC h cy S) s.heap.size = A at hD hs ⊢
  have hA : ∀ q : Nat, s.heap.size ≤ q → A q := fun q h => by rw [← hAe]; exact Or.inr h
  have hS : va_S A s.heap s.heap [] := va_S.rf
  have hin0 : ∀ w ∈ wsX00, w ∈ wsX0_addText := fun _ h => List.mem_cons_of_mem _ (List.mem_append_right _ h)
  have w36 := hts (.fieldLink RX0 36 "ClownsMourn$City" "texts" "[LClownsMourn$Text;") (List.mem_of_getElem? (i := 2) rfl)
  have w40 := hts (.fieldLink RX0 40 "ClownsMourn$City" "textCount" "I") (List.mem_of_getElem? (i := 1) rfl)
  have hl := lv_entry ([.ref (h 1), va_rf p1]) (n := 3) (by cases p1 <;> exact Nat.le_of_ble_eq_true rfl)
  rw [lg_entry_eq]
  generalize (lg_sl ([.ref (h 1), va_rf p1]) ++ List.replicate (3 - (lg_sl ([.ref (h 1), va_rf p1])).length) Slot.unset).toArray = ls at hl ⊢
  have hl : lv_has ls 3 [(0, .ref (h 1)), (1, va_rf p1)] := by cases p1 <;> exact hl
  unfold wC_X0_addText at hw
  clear hD0
  refine lv_aload_n hx hb dX0_addText_0 rfl (lv_at hl 0 rfl) ?_
  refine va_get (D := D) (ci := 0) (v := .int (cx_c_textCount S)) (C := RX0) (T := TX0) (N := 16) hx hb hts hin0 hown hK hP 1 rfl rfl 7 (by decide) w40 (fun _ h9 => h9) rfl dX0_addText_1 ?_
  refine lv_istore_n (lv' := [(2, .int (cx_c_textCount S)), (0, .ref (h 1)), (1, va_rf p1)]) hx hb dX0_addText_4 rfl hl (by decide) (by simp [List.filter, k_cat]) (fun ls hl => ?_)
  refine lv_iload_n hx hb dX0_addText_5 rfl (lv_at hl 0 rfl) ?_
  obtain ⟨hc_1t, hc_1f⟩ := hw
  refine lv_if_lt (tgt := 18) hx hb dX0_addText_6 (by decide) (fun c_1 => ?_) (fun c_1 => ?_)
  · have hw := hc_1t c_1
    clear hc_1t hc_1f
    refine lv_iconst (v := (-1)) hx hb dX0_addText_18 (by decide) ?_
    exact W.iret (v := (-1)) hx hb hr (fun t ht hW => ⟨⟨(-1), S, rfl, hw, by rw [ht]; exact hP, va_K.moved hW.alike hK, hD⟩, hS.F ht⟩) hS.2.2 dX0_addText_19
  · have hw := hc_1f c_1
    clear hc_1t hc_1f
    refine lv_iload_n hx hb dX0_addText_9 rfl (lv_at hl 0 rfl) ?_
    refine lv_aload_n hx hb dX0_addText_10 rfl (lv_at hl 1 rfl) ?_
    refine va_get (D := D) (ci := 0) (v := .ref (h 17)) (C := RX0) (T := TX0) (N := 16) hx hb hts hin0 hown hK hP 1 rfl rfl 6 (by decide) w36 (fun _ h9 => h9) rfl dX0_addText_11 ?_
    refine va_alen (v := 4) hx hb hK hP 17 5 rfl rfl (show Int32.ofNat 4 = 4 by decide) dX0_addText_14 ?_
    obtain ⟨hc_2t, hc_2f⟩ := hw
    refine lv_icmp_lt (tgt := 20) hx hb dX0_addText_15 (by decide) (fun c_2 => ?_) (fun c_2 => ?_)
    · have hw := hc_2t c_2
      clear hc_2t hc_2f
      refine lv_aload_n hx hb dX0_addText_20 rfl (lv_at hl 1 rfl) ?_
      refine va_get (D := D) (ci := 0) (v := .ref (h 17)) (C := RX0) (T := TX0) (N := 16) hx hb hts hin0 hown hK hP 1 rfl rfl 6 (by decide) w36 (fun _ h9 => h9) rfl dX0_addText_21 ?_
      refine lv_iload_n hx hb dX0_addText_24 rfl (lv_at hl 0 rfl) ?_
      refine k_aload_nq hx hb dX0_addText_25 rfl (lv_at hl 2 rfl) ?_
      obtain ⟨hi_5, ht_6, hw⟩ := hw
      refine k_astq (v := p1) (f := (cx_c_texts S)) hx hb hK hP hD hS 17 5 rfl rfl (fun a ha => (ht_6 a ha).elim fun B hB => (px_obj hB).elim fun q hq => ⟨q, _, hq⟩) hi_5 dX0_addText_26 (fun H locs hP hD hS => ?_)
      obtain ⟨S_3, eS_3⟩ : ∃ z : CS, z = (cx_set_c_texts S (va_up (cx_c_texts S) ((cx_c_textCount S).toNatClampNeg) p1)) := ⟨_, rfl⟩
      replace hw := hw S_3 eS_3
      have hP : va_P D vwCl (wC h cy S_3) H := by rw [eS_3, ← wCs_c_texts]; exact hP
      have hD : va_D A (wC h cy S_3) := by rw [eS_3, ← wCs_c_texts]; exact hD
      refine lv_aload_n hx hb dX0_addText_27 rfl (lv_at hl 1 rfl) ?_
      refine lv_dup hx hb dX0_addText_28 rfl ?_
      refine va_get (D := D) (ci := 0) (v := .int (cx_c_textCount S_3)) (C := RX0) (T := TX0) (N := 16) hx hb hts hin0 hown hK hP 1 rfl rfl 7 (by decide) w40 (fun _ h9 => h9) rfl dX0_addText_29 ?_
      refine lv_iconst (v := 1) hx hb dX0_addText_32 (by decide) ?_
      refine lv_iadd hx hb dX0_addText_33 ?_
      refine va_put (D := D) (ci := 0) (v := .int ((cx_c_textCount S_3) + 1)) (ty := .int) (C := RX0) (T := TX0) (N := 16) hx hb hts hin0 tyX0 tyX0_ok nmX0 hown hK hP hD hS 1 rfl rfl 7 (by decide) w40 (fun _ h9 => h9) rfl (tyX0_ok 7 (by decide)) rfl rfl (Nat.le_of_ble_eq_true rfl) dX0_addText_34 (fun H locs hP hD hS => ?_)
      obtain ⟨S_4, eS_4⟩ : ∃ z : CS, z = (cx_set_c_textCount S_3 ((cx_c_textCount S_3) + 1)) := ⟨_, rfl⟩
      replace hw := hw S_4 eS_4
      have hP : va_P D vwCl (wC h cy S_4) H := by rw [eS_4, ← wCp_c_textCount]; exact hP
      have hD : va_D A (wC h cy S_4) := by rw [eS_4, ← wCp_c_textCount]; exact hD
      refine lv_iload_n hx hb dX0_addText_37 rfl (lv_at hl 0 rfl) ?_
      exact W.iret (v := (cx_c_textCount S)) hx hb hr (fun t ht hW => ⟨⟨(cx_c_textCount S), S_4, rfl, hw, by rw [ht]; exact hP, va_K.moved hW.alike hK, hD⟩, hS.F ht⟩) hS.2.2 dX0_addText_38
    · have hw := hc_2f c_2
      clear hc_2t hc_2f
      refine lv_iconst (v := (-1)) hx hb dX0_addText_18 (by decide) ?_
      exact W.iret (v := (-1)) hx hb hr (fun t ht hW => ⟨⟨(-1), S, rfl, hw, by rw [ht]; exact hP, va_K.moved hW.alike hK, hD⟩, hS.F ht⟩) hS.2.2 dX0_addText_19
def wC_X6_isLetter_12 (post : Int32 → CS → Prop) (x0 : Int32) (S : CS) : Prop := ((x0 < 65 → post 0 S) ∧ (¬ (x0 < 65) → ((90 < x0 → post 0 S) ∧ (¬ (90 < x0) → post 1 S))))
def wC_X6_isLetter (p1 : Int32) (S : CS) (post : Int32 → CS → Prop) : Prop := ((p1 < 97 → wC_X6_isLetter_12 post p1 S) ∧ (¬ (p1 < 97) → ((p1 ≤ 122 → post 1 S) ∧ (¬ (p1 ≤ 122) → wC_X6_isLetter_12 post p1 S))))
set_option maxHeartbeats 4000000 in
set_option maxRecDepth 100000 in
theorem cC_X6_isLetter (l : Launch) (D : va_G) (h : Nat → Nat) (cy : Nat → ClassId) (p1 : Int32) (S : CS) (post : Int32 → CS → Prop) (hw : wC_X6_isLetter p1 S post) : e_Mi clE l yX6_isLetter wsX6_isLetter { frames := 0, cells := 0, slots := 0, locals := 0 } D (tyC cy) (wC h cy) [.int p1] S post := by
  intro sz
  refine Met.ofW (cc := cX6_isLetter) (maxL := 1) (ret := (some .boolean)) (by decide) rfl ?_
  intro p e s m args below meth c s₁ B hml hv
  obtain ⟨rfl, hsz, hP, hK, hD0, hs⟩ := hv
  have hx := B.exec
  have hb := B.bytes
  have hr := B.returns
  have hts := atoms_spec (ws := wsX6_isLetter) B.pre
  have hown : s.vm.findClass RX6 = some m.cls := findClass_of_methodNamed B.named
  have hlocks := B.notSynchronized
  subst hsz
  have hD := hD0.self (sz := s.heap.size)
  generalize hAe : va_A (wC h cy S) s.heap.size = A at hD hs ⊢
  have hA : ∀ q : Nat, s.heap.size ≤ q → A q := fun q h => by rw [← hAe]; exact Or.inr h
  have hS : va_S A s.heap s.heap [] := va_S.rf
  have hl := lv_entry ([.int p1]) (n := 1) (Nat.le_of_ble_eq_true rfl)
  rw [lg_entry_eq]
  generalize (lg_sl ([.int p1]) ++ List.replicate (1 - (lg_sl ([.int p1])).length) Slot.unset).toArray = ls at hl ⊢
  have hl : lv_has ls 1 [(0, .int p1)] := hl
  unfold wC_X6_isLetter at hw
  clear hD0
  have J_12 : ∀ (x0 : Int32) (S : CS) (H : Heap) (locs : List Loc) (ls : Array Slot), wC_X6_isLetter_12 post x0 S → va_P D vwCl (wC h cy S) H → va_D A (wC h cy S) → va_S A s.heap H locs → lv_has ls 1 [(0, .int x0)] → W p l e (headSpec wsX6_isLetter { frames := 0, cells := 0, slots := 0, locals := 0 }).room s m (([.int p1] : List Value).toArray) below meth c H locs 0 0 (MQ below (va_Qi post (k_Post D (tyC cy) (wC h cy) A) A) (([.int p1] : List Value).toArray) s 0 0 A) (F0 m 12 ls []) := by
    intro x0 S H locs ls hw hP hD hS hl
    unfold wC_X6_isLetter_12 at hw
    refine lv_iload_n hx hb dX6_isLetter_12 rfl (lv_at hl 0 rfl) ?_
    refine lv_bipush (v := 65) hx hb dX6_isLetter_13 (by decide) ?_
    obtain ⟨hc_1t, hc_1f⟩ := hw
    refine lv_icmp_lt (tgt := 28) hx hb dX6_isLetter_15 (by decide) (fun c_1 => ?_) (fun c_1 => ?_)
    · have hw := hc_1t c_1
      clear hc_1t hc_1f
      refine lv_iconst (v := 0) hx hb dX6_isLetter_28 (by decide) ?_
      exact W.zret (v := 0) hx hb hr (by decide +kernel) (fun t ht hW => ⟨⟨0, S, rfl, hw, by rw [ht]; exact hP, va_K.moved hW.alike hK, hD⟩, hS.F ht⟩) hS.2.2 dX6_isLetter_29
    · have hw := hc_1f c_1
      clear hc_1t hc_1f
      refine lv_iload_n hx hb dX6_isLetter_18 rfl (lv_at hl 0 rfl) ?_
      refine lv_bipush (v := 90) hx hb dX6_isLetter_19 (by decide) ?_
      obtain ⟨hc_2t, hc_2f⟩ := hw
      refine lv_icmp_gt (tgt := 28) hx hb dX6_isLetter_21 (by decide) (fun c_2 => ?_) (fun c_2 => ?_)
      · have hw := hc_2t c_2
        clear hc_2t hc_2f
        refine lv_iconst (v := 0) hx hb dX6_isLetter_28 (by decide) ?_
        exact W.zret (v := 0) hx hb hr (by decide +kernel) (fun t ht hW => ⟨⟨0, S, rfl, hw, by rw [ht]; exact hP, va_K.moved hW.alike hK, hD⟩, hS.F ht⟩) hS.2.2 dX6_isLetter_29
      · have hw := hc_2f c_2
        clear hc_2t hc_2f
        refine lv_iconst (v := 1) hx hb dX6_isLetter_24 (by decide) ?_
        refine lv_goto (tgt := 29) hx hb dX6_isLetter_25 (by decide) ?_
        exact W.zret (v := 1) hx hb hr (by decide +kernel) (fun t ht hW => ⟨⟨1, S, rfl, hw, by rw [ht]; exact hP, va_K.moved hW.alike hK, hD⟩, hS.F ht⟩) hS.2.2 dX6_isLetter_29
  refine lv_iload_n hx hb dX6_isLetter_0 rfl (lv_at hl 0 rfl) ?_
  refine lv_bipush (v := 97) hx hb dX6_isLetter_1 (by decide) ?_
  obtain ⟨hc_3t, hc_3f⟩ := hw
  refine lv_icmp_lt (tgt := 12) hx hb dX6_isLetter_3 (by decide) (fun c_3 => ?_) (fun c_3 => ?_)
  · have hw := hc_3t c_3
    clear hc_3t hc_3f
    exact J_12 p1 S _ _ _ hw hP hD hS (lv_sub hl [0] rfl)
  · have hw := hc_3f c_3
    clear hc_3t hc_3f
    refine lv_iload_n hx hb dX6_isLetter_6 rfl (lv_at hl 0 rfl) ?_
    refine lv_bipush (v := 122) hx hb dX6_isLetter_7 (by decide) ?_
    obtain ⟨hc_4t, hc_4f⟩ := hw
    refine lv_icmp_le (tgt := 24) hx hb dX6_isLetter_9 (by decide) (fun c_4 => ?_) (fun c_4 => ?_)
    · have hw := hc_4t c_4
      clear hc_4t hc_4f
      refine lv_iconst (v := 1) hx hb dX6_isLetter_24 (by decide) ?_
      refine lv_goto (tgt := 29) hx hb dX6_isLetter_25 (by decide) ?_
      exact W.zret (v := 1) hx hb hr (by decide +kernel) (fun t ht hW => ⟨⟨1, S, rfl, hw, by rw [ht]; exact hP, va_K.moved hW.alike hK, hD⟩, hS.F ht⟩) hS.2.2 dX6_isLetter_29
    · have hw := hc_4f c_4
      clear hc_4t hc_4f
      exact J_12 p1 S _ _ _ hw hP hD hS (lv_sub hl [0] rfl)
def wC_X6_isDigit (p1 : Int32) (S : CS) (post : Int32 → CS → Prop) : Prop := ((p1 < 48 → post 0 S) ∧ (¬ (p1 < 48) → ((57 < p1 → post 0 S) ∧ (¬ (57 < p1) → post 1 S))))
set_option maxHeartbeats 4000000 in
set_option maxRecDepth 100000 in
theorem cC_X6_isDigit (l : Launch) (D : va_G) (h : Nat → Nat) (cy : Nat → ClassId) (p1 : Int32) (S : CS) (post : Int32 → CS → Prop) (hw : wC_X6_isDigit p1 S post) : e_Mi clE l yX6_isDigit wsX6_isDigit { frames := 0, cells := 0, slots := 0, locals := 0 } D (tyC cy) (wC h cy) [.int p1] S post := by
  intro sz
  refine Met.ofW (cc := cX6_isDigit) (maxL := 1) (ret := (some .boolean)) (by decide) rfl ?_
  intro p e s m args below meth c s₁ B hml hv
  obtain ⟨rfl, hsz, hP, hK, hD0, hs⟩ := hv
  have hx := B.exec
  have hb := B.bytes
  have hr := B.returns
  have hts := atoms_spec (ws := wsX6_isDigit) B.pre
  have hown : s.vm.findClass RX6 = some m.cls := findClass_of_methodNamed B.named
  have hlocks := B.notSynchronized
  subst hsz
  have hD := hD0.self (sz := s.heap.size)
  generalize hAe : va_A (wC h cy S) s.heap.size = A at hD hs ⊢
  have hA : ∀ q : Nat, s.heap.size ≤ q → A q := fun q h => by rw [← hAe]; exact Or.inr h
  have hS : va_S A s.heap s.heap [] := va_S.rf
  have hl := lv_entry ([.int p1]) (n := 1) (Nat.le_of_ble_eq_true rfl)
  rw [lg_entry_eq]
  generalize (lg_sl ([.int p1]) ++ List.replicate (1 - (lg_sl ([.int p1])).length) Slot.unset).toArray = ls at hl ⊢
  have hl : lv_has ls 1 [(0, .int p1)] := hl
  unfold wC_X6_isDigit at hw
  clear hD0
  refine lv_iload_n hx hb dX6_isDigit_0 rfl (lv_at hl 0 rfl) ?_
  refine lv_bipush (v := 48) hx hb dX6_isDigit_1 (by decide) ?_
  obtain ⟨hc_1t, hc_1f⟩ := hw
  refine lv_icmp_lt (tgt := 16) hx hb dX6_isDigit_3 (by decide) (fun c_1 => ?_) (fun c_1 => ?_)
  · have hw := hc_1t c_1
    clear hc_1t hc_1f
    refine lv_iconst (v := 0) hx hb dX6_isDigit_16 (by decide) ?_
    exact W.zret (v := 0) hx hb hr (by decide +kernel) (fun t ht hW => ⟨⟨0, S, rfl, hw, by rw [ht]; exact hP, va_K.moved hW.alike hK, hD⟩, hS.F ht⟩) hS.2.2 dX6_isDigit_17
  · have hw := hc_1f c_1
    clear hc_1t hc_1f
    refine lv_iload_n hx hb dX6_isDigit_6 rfl (lv_at hl 0 rfl) ?_
    refine lv_bipush (v := 57) hx hb dX6_isDigit_7 (by decide) ?_
    obtain ⟨hc_2t, hc_2f⟩ := hw
    refine lv_icmp_gt (tgt := 16) hx hb dX6_isDigit_9 (by decide) (fun c_2 => ?_) (fun c_2 => ?_)
    · have hw := hc_2t c_2
      clear hc_2t hc_2f
      refine lv_iconst (v := 0) hx hb dX6_isDigit_16 (by decide) ?_
      exact W.zret (v := 0) hx hb hr (by decide +kernel) (fun t ht hW => ⟨⟨0, S, rfl, hw, by rw [ht]; exact hP, va_K.moved hW.alike hK, hD⟩, hS.F ht⟩) hS.2.2 dX6_isDigit_17
    · have hw := hc_2f c_2
      clear hc_2t hc_2f
      refine lv_iconst (v := 1) hx hb dX6_isDigit_12 (by decide) ?_
      refine lv_goto (tgt := 17) hx hb dX6_isDigit_13 (by decide) ?_
      exact W.zret (v := 1) hx hb hr (by decide +kernel) (fun t ht hW => ⟨⟨1, S, rfl, hw, by rw [ht]; exact hP, va_K.moved hW.alike hK, hD⟩, hS.F ht⟩) hS.2.2 dX6_isDigit_17
def wC_X6_plainSign (p1 : Int32) (S : CS) (post : Int32 → CS → Prop) : Prop := ((p1 = 35 → post 38 S) ∧ (p1 = 40 → post 43 S) ∧ (p1 = 41 → post 44 S) ∧ (p1 = 42 → post 41 S) ∧ (p1 = 43 → post 39 S) ∧ (p1 = 45 → post 40 S) ∧ (p1 = 47 → post 42 S) ∧ (p1 = 59 → post 45 S) ∧ (p1 = 61 → post 37 S) ∧ (¬ p1 = 35 → ¬ p1 = 40 → ¬ p1 = 41 → ¬ p1 = 42 → ¬ p1 = 43 → ¬ p1 = 45 → ¬ p1 = 47 → ¬ p1 = 59 → ¬ p1 = 61 → post 30 S))
set_option maxHeartbeats 4000000 in
set_option maxRecDepth 100000 in
theorem cC_X6_plainSign (l : Launch) (D : va_G) (h : Nat → Nat) (cy : Nat → ClassId) (p1 : Int32) (S : CS) (post : Int32 → CS → Prop) (hw : wC_X6_plainSign p1 S post) : e_Mi clE l yX6_plainSign wsX6_plainSign { frames := 0, cells := 0, slots := 0, locals := 0 } D (tyC cy) (wC h cy) [.int p1] S post := by
  intro sz
  refine Met.ofW (cc := cX6_plainSign) (maxL := 1) (ret := (some .int)) (by decide) rfl ?_
  intro p e s m args below meth c s₁ B hml hv
  obtain ⟨rfl, hsz, hP, hK, hD0, hs⟩ := hv
  have hx := B.exec
  have hb := B.bytes
  have hr := B.returns
  have hts := atoms_spec (ws := wsX6_plainSign) B.pre
  have hown : s.vm.findClass RX6 = some m.cls := findClass_of_methodNamed B.named
  have hlocks := B.notSynchronized
  subst hsz
  have hD := hD0.self (sz := s.heap.size)
  generalize hAe : va_A (wC h cy S) s.heap.size = A at hD hs ⊢
  have hA : ∀ q : Nat, s.heap.size ≤ q → A q := fun q h => by rw [← hAe]; exact Or.inr h
  have hS : va_S A s.heap s.heap [] := va_S.rf
  have hl := lv_entry ([.int p1]) (n := 1) (Nat.le_of_ble_eq_true rfl)
  rw [lg_entry_eq]
  generalize (lg_sl ([.int p1]) ++ List.replicate (1 - (lg_sl ([.int p1])).length) Slot.unset).toArray = ls at hl ⊢
  have hl : lv_has ls 1 [(0, .int p1)] := hl
  unfold wC_X6_plainSign at hw
  clear hD0
  refine lv_iload_n hx hb dX6_plainSign_0 rfl (lv_at hl 0 rfl) ?_
  obtain ⟨hc_1, hw⟩ := hw
  by_cases c_1 : p1 = 35
  · have hw := hc_1 c_1
    refine lv_tableIn (off := 126) (tgt := 127) hx hb dX6_plainSign_1 (by rw [c_1]; decide) (by rw [c_1]; decide) (by rw [c_1]; rfl) (by decide) ?_
    refine lv_bipush (v := 38) hx hb dX6_plainSign_127 (by decide) ?_
    exact W.iret (v := 38) hx hb hr (fun t ht hW => ⟨⟨38, S, rfl, hw, by rw [ht]; exact hP, va_K.moved hW.alike hK, hD⟩, hS.F ht⟩) hS.2.2 dX6_plainSign_129
  obtain ⟨hc_2, hw⟩ := hw
  by_cases c_2 : p1 = 40
  · have hw := hc_2 c_2
    refine lv_tableIn (off := 141) (tgt := 142) hx hb dX6_plainSign_1 (by rw [c_2]; decide) (by rw [c_2]; decide) (by rw [c_2]; rfl) (by decide) ?_
    refine lv_bipush (v := 43) hx hb dX6_plainSign_142 (by decide) ?_
    exact W.iret (v := 43) hx hb hr (fun t ht hW => ⟨⟨43, S, rfl, hw, by rw [ht]; exact hP, va_K.moved hW.alike hK, hD⟩, hS.F ht⟩) hS.2.2 dX6_plainSign_144
  obtain ⟨hc_3, hw⟩ := hw
  by_cases c_3 : p1 = 41
  · have hw := hc_3 c_3
    refine lv_tableIn (off := 144) (tgt := 145) hx hb dX6_plainSign_1 (by rw [c_3]; decide) (by rw [c_3]; decide) (by rw [c_3]; rfl) (by decide) ?_
    refine lv_bipush (v := 44) hx hb dX6_plainSign_145 (by decide) ?_
    exact W.iret (v := 44) hx hb hr (fun t ht hW => ⟨⟨44, S, rfl, hw, by rw [ht]; exact hP, va_K.moved hW.alike hK, hD⟩, hS.F ht⟩) hS.2.2 dX6_plainSign_147
  obtain ⟨hc_4, hw⟩ := hw
  by_cases c_4 : p1 = 42
  · have hw := hc_4 c_4
    refine lv_tableIn (off := 135) (tgt := 136) hx hb dX6_plainSign_1 (by rw [c_4]; decide) (by rw [c_4]; decide) (by rw [c_4]; rfl) (by decide) ?_
    refine lv_bipush (v := 41) hx hb dX6_plainSign_136 (by decide) ?_
    exact W.iret (v := 41) hx hb hr (fun t ht hW => ⟨⟨41, S, rfl, hw, by rw [ht]; exact hP, va_K.moved hW.alike hK, hD⟩, hS.F ht⟩) hS.2.2 dX6_plainSign_138
  obtain ⟨hc_5, hw⟩ := hw
  by_cases c_5 : p1 = 43
  · have hw := hc_5 c_5
    refine lv_tableIn (off := 129) (tgt := 130) hx hb dX6_plainSign_1 (by rw [c_5]; decide) (by rw [c_5]; decide) (by rw [c_5]; rfl) (by decide) ?_
    refine lv_bipush (v := 39) hx hb dX6_plainSign_130 (by decide) ?_
    exact W.iret (v := 39) hx hb hr (fun t ht hW => ⟨⟨39, S, rfl, hw, by rw [ht]; exact hP, va_K.moved hW.alike hK, hD⟩, hS.F ht⟩) hS.2.2 dX6_plainSign_132
  obtain ⟨hc_6, hw⟩ := hw
  by_cases c_6 : p1 = 45
  · have hw := hc_6 c_6
    refine lv_tableIn (off := 132) (tgt := 133) hx hb dX6_plainSign_1 (by rw [c_6]; decide) (by rw [c_6]; decide) (by rw [c_6]; rfl) (by decide) ?_
    refine lv_bipush (v := 40) hx hb dX6_plainSign_133 (by decide) ?_
    exact W.iret (v := 40) hx hb hr (fun t ht hW => ⟨⟨40, S, rfl, hw, by rw [ht]; exact hP, va_K.moved hW.alike hK, hD⟩, hS.F ht⟩) hS.2.2 dX6_plainSign_135
  obtain ⟨hc_7, hw⟩ := hw
  by_cases c_7 : p1 = 47
  · have hw := hc_7 c_7
    refine lv_tableIn (off := 138) (tgt := 139) hx hb dX6_plainSign_1 (by rw [c_7]; decide) (by rw [c_7]; decide) (by rw [c_7]; rfl) (by decide) ?_
    refine lv_bipush (v := 42) hx hb dX6_plainSign_139 (by decide) ?_
    exact W.iret (v := 42) hx hb hr (fun t ht hW => ⟨⟨42, S, rfl, hw, by rw [ht]; exact hP, va_K.moved hW.alike hK, hD⟩, hS.F ht⟩) hS.2.2 dX6_plainSign_141
  obtain ⟨hc_8, hw⟩ := hw
  by_cases c_8 : p1 = 59
  · have hw := hc_8 c_8
    refine lv_tableIn (off := 147) (tgt := 148) hx hb dX6_plainSign_1 (by rw [c_8]; decide) (by rw [c_8]; decide) (by rw [c_8]; rfl) (by decide) ?_
    refine lv_bipush (v := 45) hx hb dX6_plainSign_148 (by decide) ?_
    exact W.iret (v := 45) hx hb hr (fun t ht hW => ⟨⟨45, S, rfl, hw, by rw [ht]; exact hP, va_K.moved hW.alike hK, hD⟩, hS.F ht⟩) hS.2.2 dX6_plainSign_150
  obtain ⟨hc_9, hw⟩ := hw
  by_cases c_9 : p1 = 61
  · have hw := hc_9 c_9
    refine lv_tableIn (off := 123) (tgt := 124) hx hb dX6_plainSign_1 (by rw [c_9]; decide) (by rw [c_9]; decide) (by rw [c_9]; rfl) (by decide) ?_
    refine lv_bipush (v := 37) hx hb dX6_plainSign_124 (by decide) ?_
    exact W.iret (v := 37) hx hb hr (fun t ht hW => ⟨⟨37, S, rfl, hw, by rw [ht]; exact hP, va_K.moved hW.alike hK, hD⟩, hS.F ht⟩) hS.2.2 dX6_plainSign_126
  have hw := hw c_1 c_2 c_3 c_4 c_5 c_6 c_7 c_8 c_9
  by_cases c_10 : p1 = 36
  · refine lv_tableIn (off := 150) (tgt := 151) hx hb dX6_plainSign_1 (by rw [c_10]; decide) (by rw [c_10]; decide) (by rw [c_10]; rfl) (by decide) ?_
    refine lv_bipush (v := 30) hx hb dX6_plainSign_151 (by decide) ?_
    exact W.iret (v := 30) hx hb hr (fun t ht hW => ⟨⟨30, S, rfl, hw, by rw [ht]; exact hP, va_K.moved hW.alike hK, hD⟩, hS.F ht⟩) hS.2.2 dX6_plainSign_153
  by_cases c_11 : p1 = 37
  · refine lv_tableIn (off := 150) (tgt := 151) hx hb dX6_plainSign_1 (by rw [c_11]; decide) (by rw [c_11]; decide) (by rw [c_11]; rfl) (by decide) ?_
    refine lv_bipush (v := 30) hx hb dX6_plainSign_151 (by decide) ?_
    exact W.iret (v := 30) hx hb hr (fun t ht hW => ⟨⟨30, S, rfl, hw, by rw [ht]; exact hP, va_K.moved hW.alike hK, hD⟩, hS.F ht⟩) hS.2.2 dX6_plainSign_153
  by_cases c_12 : p1 = 38
  · refine lv_tableIn (off := 150) (tgt := 151) hx hb dX6_plainSign_1 (by rw [c_12]; decide) (by rw [c_12]; decide) (by rw [c_12]; rfl) (by decide) ?_
    refine lv_bipush (v := 30) hx hb dX6_plainSign_151 (by decide) ?_
    exact W.iret (v := 30) hx hb hr (fun t ht hW => ⟨⟨30, S, rfl, hw, by rw [ht]; exact hP, va_K.moved hW.alike hK, hD⟩, hS.F ht⟩) hS.2.2 dX6_plainSign_153
  by_cases c_13 : p1 = 39
  · refine lv_tableIn (off := 150) (tgt := 151) hx hb dX6_plainSign_1 (by rw [c_13]; decide) (by rw [c_13]; decide) (by rw [c_13]; rfl) (by decide) ?_
    refine lv_bipush (v := 30) hx hb dX6_plainSign_151 (by decide) ?_
    exact W.iret (v := 30) hx hb hr (fun t ht hW => ⟨⟨30, S, rfl, hw, by rw [ht]; exact hP, va_K.moved hW.alike hK, hD⟩, hS.F ht⟩) hS.2.2 dX6_plainSign_153
  by_cases c_14 : p1 = 44
  · refine lv_tableIn (off := 150) (tgt := 151) hx hb dX6_plainSign_1 (by rw [c_14]; decide) (by rw [c_14]; decide) (by rw [c_14]; rfl) (by decide) ?_
    refine lv_bipush (v := 30) hx hb dX6_plainSign_151 (by decide) ?_
    exact W.iret (v := 30) hx hb hr (fun t ht hW => ⟨⟨30, S, rfl, hw, by rw [ht]; exact hP, va_K.moved hW.alike hK, hD⟩, hS.F ht⟩) hS.2.2 dX6_plainSign_153
  by_cases c_15 : p1 = 46
  · refine lv_tableIn (off := 150) (tgt := 151) hx hb dX6_plainSign_1 (by rw [c_15]; decide) (by rw [c_15]; decide) (by rw [c_15]; rfl) (by decide) ?_
    refine lv_bipush (v := 30) hx hb dX6_plainSign_151 (by decide) ?_
    exact W.iret (v := 30) hx hb hr (fun t ht hW => ⟨⟨30, S, rfl, hw, by rw [ht]; exact hP, va_K.moved hW.alike hK, hD⟩, hS.F ht⟩) hS.2.2 dX6_plainSign_153
  by_cases c_16 : p1 = 48
  · refine lv_tableIn (off := 150) (tgt := 151) hx hb dX6_plainSign_1 (by rw [c_16]; decide) (by rw [c_16]; decide) (by rw [c_16]; rfl) (by decide) ?_
    refine lv_bipush (v := 30) hx hb dX6_plainSign_151 (by decide) ?_
    exact W.iret (v := 30) hx hb hr (fun t ht hW => ⟨⟨30, S, rfl, hw, by rw [ht]; exact hP, va_K.moved hW.alike hK, hD⟩, hS.F ht⟩) hS.2.2 dX6_plainSign_153
  by_cases c_17 : p1 = 49
  · refine lv_tableIn (off := 150) (tgt := 151) hx hb dX6_plainSign_1 (by rw [c_17]; decide) (by rw [c_17]; decide) (by rw [c_17]; rfl) (by decide) ?_
    refine lv_bipush (v := 30) hx hb dX6_plainSign_151 (by decide) ?_
    exact W.iret (v := 30) hx hb hr (fun t ht hW => ⟨⟨30, S, rfl, hw, by rw [ht]; exact hP, va_K.moved hW.alike hK, hD⟩, hS.F ht⟩) hS.2.2 dX6_plainSign_153
  by_cases c_18 : p1 = 50
  · refine lv_tableIn (off := 150) (tgt := 151) hx hb dX6_plainSign_1 (by rw [c_18]; decide) (by rw [c_18]; decide) (by rw [c_18]; rfl) (by decide) ?_
    refine lv_bipush (v := 30) hx hb dX6_plainSign_151 (by decide) ?_
    exact W.iret (v := 30) hx hb hr (fun t ht hW => ⟨⟨30, S, rfl, hw, by rw [ht]; exact hP, va_K.moved hW.alike hK, hD⟩, hS.F ht⟩) hS.2.2 dX6_plainSign_153
  by_cases c_19 : p1 = 51
  · refine lv_tableIn (off := 150) (tgt := 151) hx hb dX6_plainSign_1 (by rw [c_19]; decide) (by rw [c_19]; decide) (by rw [c_19]; rfl) (by decide) ?_
    refine lv_bipush (v := 30) hx hb dX6_plainSign_151 (by decide) ?_
    exact W.iret (v := 30) hx hb hr (fun t ht hW => ⟨⟨30, S, rfl, hw, by rw [ht]; exact hP, va_K.moved hW.alike hK, hD⟩, hS.F ht⟩) hS.2.2 dX6_plainSign_153
  by_cases c_20 : p1 = 52
  · refine lv_tableIn (off := 150) (tgt := 151) hx hb dX6_plainSign_1 (by rw [c_20]; decide) (by rw [c_20]; decide) (by rw [c_20]; rfl) (by decide) ?_
    refine lv_bipush (v := 30) hx hb dX6_plainSign_151 (by decide) ?_
    exact W.iret (v := 30) hx hb hr (fun t ht hW => ⟨⟨30, S, rfl, hw, by rw [ht]; exact hP, va_K.moved hW.alike hK, hD⟩, hS.F ht⟩) hS.2.2 dX6_plainSign_153
  by_cases c_21 : p1 = 53
  · refine lv_tableIn (off := 150) (tgt := 151) hx hb dX6_plainSign_1 (by rw [c_21]; decide) (by rw [c_21]; decide) (by rw [c_21]; rfl) (by decide) ?_
    refine lv_bipush (v := 30) hx hb dX6_plainSign_151 (by decide) ?_
    exact W.iret (v := 30) hx hb hr (fun t ht hW => ⟨⟨30, S, rfl, hw, by rw [ht]; exact hP, va_K.moved hW.alike hK, hD⟩, hS.F ht⟩) hS.2.2 dX6_plainSign_153
  by_cases c_22 : p1 = 54
  · refine lv_tableIn (off := 150) (tgt := 151) hx hb dX6_plainSign_1 (by rw [c_22]; decide) (by rw [c_22]; decide) (by rw [c_22]; rfl) (by decide) ?_
    refine lv_bipush (v := 30) hx hb dX6_plainSign_151 (by decide) ?_
    exact W.iret (v := 30) hx hb hr (fun t ht hW => ⟨⟨30, S, rfl, hw, by rw [ht]; exact hP, va_K.moved hW.alike hK, hD⟩, hS.F ht⟩) hS.2.2 dX6_plainSign_153
  by_cases c_23 : p1 = 55
  · refine lv_tableIn (off := 150) (tgt := 151) hx hb dX6_plainSign_1 (by rw [c_23]; decide) (by rw [c_23]; decide) (by rw [c_23]; rfl) (by decide) ?_
    refine lv_bipush (v := 30) hx hb dX6_plainSign_151 (by decide) ?_
    exact W.iret (v := 30) hx hb hr (fun t ht hW => ⟨⟨30, S, rfl, hw, by rw [ht]; exact hP, va_K.moved hW.alike hK, hD⟩, hS.F ht⟩) hS.2.2 dX6_plainSign_153
  by_cases c_24 : p1 = 56
  · refine lv_tableIn (off := 150) (tgt := 151) hx hb dX6_plainSign_1 (by rw [c_24]; decide) (by rw [c_24]; decide) (by rw [c_24]; rfl) (by decide) ?_
    refine lv_bipush (v := 30) hx hb dX6_plainSign_151 (by decide) ?_
    exact W.iret (v := 30) hx hb hr (fun t ht hW => ⟨⟨30, S, rfl, hw, by rw [ht]; exact hP, va_K.moved hW.alike hK, hD⟩, hS.F ht⟩) hS.2.2 dX6_plainSign_153
  by_cases c_25 : p1 = 57
  · refine lv_tableIn (off := 150) (tgt := 151) hx hb dX6_plainSign_1 (by rw [c_25]; decide) (by rw [c_25]; decide) (by rw [c_25]; rfl) (by decide) ?_
    refine lv_bipush (v := 30) hx hb dX6_plainSign_151 (by decide) ?_
    exact W.iret (v := 30) hx hb hr (fun t ht hW => ⟨⟨30, S, rfl, hw, by rw [ht]; exact hP, va_K.moved hW.alike hK, hD⟩, hS.F ht⟩) hS.2.2 dX6_plainSign_153
  by_cases c_26 : p1 = 58
  · refine lv_tableIn (off := 150) (tgt := 151) hx hb dX6_plainSign_1 (by rw [c_26]; decide) (by rw [c_26]; decide) (by rw [c_26]; rfl) (by decide) ?_
    refine lv_bipush (v := 30) hx hb dX6_plainSign_151 (by decide) ?_
    exact W.iret (v := 30) hx hb hr (fun t ht hW => ⟨⟨30, S, rfl, hw, by rw [ht]; exact hP, va_K.moved hW.alike hK, hD⟩, hS.F ht⟩) hS.2.2 dX6_plainSign_153
  by_cases c_27 : p1 = 60
  · refine lv_tableIn (off := 150) (tgt := 151) hx hb dX6_plainSign_1 (by rw [c_27]; decide) (by rw [c_27]; decide) (by rw [c_27]; rfl) (by decide) ?_
    refine lv_bipush (v := 30) hx hb dX6_plainSign_151 (by decide) ?_
    exact W.iret (v := 30) hx hb hr (fun t ht hW => ⟨⟨30, S, rfl, hw, by rw [ht]; exact hP, va_K.moved hW.alike hK, hD⟩, hS.F ht⟩) hS.2.2 dX6_plainSign_153
  have c_1n := lv_neT c_1 (a := 35) (by decide)
  have c_2n := lv_neT c_2 (a := 40) (by decide)
  have c_3n := lv_neT c_3 (a := 41) (by decide)
  have c_4n := lv_neT c_4 (a := 42) (by decide)
  have c_5n := lv_neT c_5 (a := 43) (by decide)
  have c_6n := lv_neT c_6 (a := 45) (by decide)
  have c_7n := lv_neT c_7 (a := 47) (by decide)
  have c_8n := lv_neT c_8 (a := 59) (by decide)
  have c_9n := lv_neT c_9 (a := 61) (by decide)
  have c_10n := lv_neT c_10 (a := 36) (by decide)
  have c_11n := lv_neT c_11 (a := 37) (by decide)
  have c_12n := lv_neT c_12 (a := 38) (by decide)
  have c_13n := lv_neT c_13 (a := 39) (by decide)
  have c_14n := lv_neT c_14 (a := 44) (by decide)
  have c_15n := lv_neT c_15 (a := 46) (by decide)
  have c_16n := lv_neT c_16 (a := 48) (by decide)
  have c_17n := lv_neT c_17 (a := 49) (by decide)
  have c_18n := lv_neT c_18 (a := 50) (by decide)
  have c_19n := lv_neT c_19 (a := 51) (by decide)
  have c_20n := lv_neT c_20 (a := 52) (by decide)
  have c_21n := lv_neT c_21 (a := 53) (by decide)
  have c_22n := lv_neT c_22 (a := 54) (by decide)
  have c_23n := lv_neT c_23 (a := 55) (by decide)
  have c_24n := lv_neT c_24 (a := 56) (by decide)
  have c_25n := lv_neT c_25 (a := 57) (by decide)
  have c_26n := lv_neT c_26 (a := 58) (by decide)
  have c_27n := lv_neT c_27 (a := 60) (by decide)
  refine lv_tableOut (tgt := 151) hx hb dX6_plainSign_1 (by omega) (by decide) ?_
  refine lv_bipush (v := 30) hx hb dX6_plainSign_151 (by decide) ?_
  exact W.iret (v := 30) hx hb hr (fun t ht hW => ⟨⟨30, S, rfl, hw, by rw [ht]; exact hP, va_K.moved hW.alike hK, hD⟩, hS.F ht⟩) hS.2.2 dX6_plainSign_153
def wC_X6_takeSign_93 (post : CS → Prop) (S : CS) : Prop := (((cx_r_token S) = 33 → (∀ S_2 : CS, S_2 = (cx_set_r_place S ((cx_r_place S) + 2)) → post S_2)) ∧ (¬ ((cx_r_token S) = 33) → (((cx_r_token S) = 34 → (∀ S_5 : CS, S_5 = (cx_set_r_place S ((cx_r_place S) + 2)) → post S_5)) ∧ (¬ ((cx_r_token S) = 34) → (∀ S_4 : CS, S_4 = (cx_set_r_place S ((cx_r_place S) + 1)) → post S_4)))))
def wC_X6_takeSign_36 (post : CS → Prop) (x1 : Int32) (t0 : Int32) (S : CS) : Prop := ((x1 = 60 → ((t0 = 0 → (∀ S_10 : CS, S_10 = (cx_set_r_token S 35) → wC_X6_takeSign_93 post S_10)) ∧ (¬ (t0 = 0) → (∀ S_11 : CS, S_11 = (cx_set_r_token S 33) → wC_X6_takeSign_93 post S_11)))) ∧ (¬ (x1 = 60) → ((x1 = 62 → ((t0 = 0 → (∀ S_7 : CS, S_7 = (cx_set_r_token S 36) → wC_X6_takeSign_93 post S_7)) ∧ (¬ (t0 = 0) → (∀ S_8 : CS, S_8 = (cx_set_r_token S 34) → wC_X6_takeSign_93 post S_8)))) ∧ (¬ (x1 = 62) → wC_X6_plainSign x1 S (fun r_3 S_4 => (∀ S_5 : CS, S_5 = (cx_set_r_token S_4 r_3) → wC_X6_takeSign_93 post S_5))))))
def wC_X6_takeSign (p1 : Int32) (S : CS) (post : CS → Prop) : Prop := (((cx_r_length S) ≤ ((cx_r_place S) + 1) → wC_X6_takeSign_36 post p1 0 S) ∧ (¬ ((cx_r_length S) ≤ ((cx_r_place S) + 1)) → (((k_at 300 (cx_r_tape S) ((cx_r_place S) + 1)) = 61 → wC_X6_takeSign_36 post p1 1 S) ∧ (¬ ((k_at 300 (cx_r_tape S) ((cx_r_place S) + 1)) = 61) → wC_X6_takeSign_36 post p1 0 S))))
set_option maxHeartbeats 4000000 in
set_option maxRecDepth 100000 in
theorem cC_X6_takeSign (l : Launch) (D : va_G) (h : Nat → Nat) (cy : Nat → ClassId) (p1 : Int32) (S : CS) (post : CS → Prop) (hw : wC_X6_takeSign p1 S post) : e_Mv clE l yX6_takeSign wsX6_takeSign { frames := 1, cells := 0, slots := 0, locals := 21 } D (tyC cy) (wC h cy) [.ref (h 5), .int p1] S post := by
  intro sz
  refine Met.ofW (cc := cX6_takeSign) (maxL := 3) (ret := none) (by decide) rfl ?_
  intro p e s m args below meth c s₁ B hml hv
  obtain ⟨rfl, hsz, hP, hK, hD0, hs⟩ := hv
  have hx := B.exec
  have hb := B.bytes
  have hr := B.returns
  have hts := atoms_spec (ws := wsX6_takeSign) B.pre
  have hown : s.vm.findClass RX6 = some m.cls := findClass_of_methodNamed B.named
  have hlocks := B.notSynchronized
  subst hsz
  have hD := hD0.self (sz := s.heap.size)
  generalize hAe : va_A (wC h cy S) s.heap.size = A at hD hs ⊢
  have hA : ∀ q : Nat, s.heap.size ≤ q → A q := fun q h => by rw [← hAe]; exact Or.inr h
  have hS : va_S A s.heap s.heap [] := va_S.rf
  have hin6 : ∀ w ∈ wsX60, w ∈ wsX6_takeSign := fun _ h => List.mem_cons_of_mem _ (List.mem_append_right _ h)
  have w21 := hts (.fieldLink RX6 21 "ClownsMourn$Reader" "tape" "[I") (List.mem_of_getElem? (i := 3) rfl)
  have w38 := hts (.fieldLink RX6 38 "ClownsMourn$Reader" "place" "I") (List.mem_of_getElem? (i := 1) rfl)
  have w62 := hts (.fieldLink RX6 62 "ClownsMourn$Reader" "token" "I") (List.mem_of_getElem? (i := 4) rfl)
  have w9 := hts (.fieldLink RX6 9 "ClownsMourn$Reader" "length" "I") (List.mem_of_getElem? (i := 2) rfl)
  have wiX11 := hts (.initialized RX11) (List.mem_of_getElem? (i := 6) rfl)
  have wstat := hts (.static yX11_at) (List.mem_of_getElem? (i := 5) rfl)
  have hl := lv_entry ([.ref (h 5), .int p1]) (n := 3) (Nat.le_of_ble_eq_true rfl)
  rw [lg_entry_eq]
  generalize (lg_sl ([.ref (h 5), .int p1]) ++ List.replicate (3 - (lg_sl ([.ref (h 5), .int p1])).length) Slot.unset).toArray = ls at hl ⊢
  have hl : lv_has ls 3 [(0, .ref (h 5)), (1, .int p1)] := hl
  unfold wC_X6_takeSign at hw
  clear hD0
  have J_93 : ∀ (S : CS) (H : Heap) (locs : List Loc) (ls : Array Slot), wC_X6_takeSign_93 post S → va_P D vwCl (wC h cy S) H → va_D A (wC h cy S) → va_S A s.heap H locs → lv_has ls 3 [(0, .ref (h 5))] → W p l e (headSpec wsX6_takeSign { frames := 1, cells := 0, slots := 0, locals := 21 }).room s m (([.ref (h 5), .int p1] : List Value).toArray) below meth c H locs 0 0 (MQ below (va_Qv post (k_Post D (tyC cy) (wC h cy) A) A) (([.ref (h 5), .int p1] : List Value).toArray) s 0 0 A) (F0 m 93 ls []) := by
    intro S H locs ls hw hP hD hS hl
    unfold wC_X6_takeSign_93 at hw
    refine lv_aload_n hx hb dX6_takeSign_93 rfl (lv_at hl 0 rfl) ?_
    refine lv_dup hx hb dX6_takeSign_94 rfl ?_
    refine va_get (D := D) (ci := 6) (v := .int (cx_r_place S)) (C := RX6) (T := TX6) (N := 16) hx hb hts hin6 hown hK hP 5 rfl rfl 9 (by decide) w38 (fun _ h9 => h9) rfl dX6_takeSign_95 ?_
    refine lv_aload_n hx hb dX6_takeSign_98 rfl (lv_at hl 0 rfl) ?_
    refine va_get (D := D) (ci := 6) (v := .int (cx_r_token S)) (C := RX6) (T := TX6) (N := 16) hx hb hts hin6 hown hK hP 5 rfl rfl 11 (by decide) w62 (fun _ h9 => h9) rfl dX6_takeSign_99 ?_
    refine lv_bipush (v := 33) hx hb dX6_takeSign_102 (by decide) ?_
    obtain ⟨hc_1t, hc_1f⟩ := hw
    refine lv_icmp_eq (tgt := 116) hx hb dX6_takeSign_104 (by decide) (fun c_1 => ?_) (fun c_1 => ?_)
    · have hw := hc_1t c_1
      clear hc_1t hc_1f
      refine lv_iconst (v := 2) hx hb dX6_takeSign_116 (by decide) ?_
      refine lv_goto (tgt := 121) hx hb dX6_takeSign_117 (by decide) ?_
      refine lv_iadd hx hb dX6_takeSign_121 ?_
      refine va_put (D := D) (ci := 6) (v := .int ((cx_r_place S) + 2)) (ty := .int) (C := RX6) (T := TX6) (N := 16) hx hb hts hin6 tyX6 tyX6_ok nmX6 hown hK hP hD hS 5 rfl rfl 9 (by decide) w38 (fun _ h9 => h9) rfl (tyX6_ok 9 (by decide)) rfl rfl (Nat.le_of_ble_eq_true rfl) dX6_takeSign_122 (fun H locs hP hD hS => ?_)
      obtain ⟨S_2, eS_2⟩ : ∃ z : CS, z = (cx_set_r_place S ((cx_r_place S) + 2)) := ⟨_, rfl⟩
      replace hw := hw S_2 eS_2
      have hP : va_P D vwCl (wC h cy S_2) H := by rw [eS_2, ← wCp_r_place]; exact hP
      have hD : va_D A (wC h cy S_2) := by rw [eS_2, ← wCp_r_place]; exact hD
      exact W.vret hx hb hr (fun t ht hW => ⟨⟨S_2, rfl, hw, by rw [ht]; exact hP, va_K.moved hW.alike hK, hD⟩, hS.F ht⟩) hS.2.2 dX6_takeSign_125
    · have hw := hc_1f c_1
      clear hc_1t hc_1f
      refine lv_aload_n hx hb dX6_takeSign_107 rfl (lv_at hl 0 rfl) ?_
      refine va_get (D := D) (ci := 6) (v := .int (cx_r_token S)) (C := RX6) (T := TX6) (N := 16) hx hb hts hin6 hown hK hP 5 rfl rfl 11 (by decide) w62 (fun _ h9 => h9) rfl dX6_takeSign_108 ?_
      refine lv_bipush (v := 34) hx hb dX6_takeSign_111 (by decide) ?_
      obtain ⟨hc_3t, hc_3f⟩ := hw
      refine lv_icmp_ne (tgt := 120) hx hb dX6_takeSign_113 (by decide) (fun c_3 => ?_) (fun c_3 => ?_)
      · have hw := hc_3f c_3
        clear hc_3t hc_3f
        refine lv_iconst (v := 1) hx hb dX6_takeSign_120 (by decide) ?_
        refine lv_iadd hx hb dX6_takeSign_121 ?_
        refine va_put (D := D) (ci := 6) (v := .int ((cx_r_place S) + 1)) (ty := .int) (C := RX6) (T := TX6) (N := 16) hx hb hts hin6 tyX6 tyX6_ok nmX6 hown hK hP hD hS 5 rfl rfl 9 (by decide) w38 (fun _ h9 => h9) rfl (tyX6_ok 9 (by decide)) rfl rfl (Nat.le_of_ble_eq_true rfl) dX6_takeSign_122 (fun H locs hP hD hS => ?_)
        obtain ⟨S_4, eS_4⟩ : ∃ z : CS, z = (cx_set_r_place S ((cx_r_place S) + 1)) := ⟨_, rfl⟩
        replace hw := hw S_4 eS_4
        have hP : va_P D vwCl (wC h cy S_4) H := by rw [eS_4, ← wCp_r_place]; exact hP
        have hD : va_D A (wC h cy S_4) := by rw [eS_4, ← wCp_r_place]; exact hD
        exact W.vret hx hb hr (fun t ht hW => ⟨⟨S_4, rfl, hw, by rw [ht]; exact hP, va_K.moved hW.alike hK, hD⟩, hS.F ht⟩) hS.2.2 dX6_takeSign_125
      · have hw := hc_3t c_3
        clear hc_3t hc_3f
        refine lv_iconst (v := 2) hx hb dX6_takeSign_116 (by decide) ?_
        refine lv_goto (tgt := 121) hx hb dX6_takeSign_117 (by decide) ?_
        refine lv_iadd hx hb dX6_takeSign_121 ?_
        refine va_put (D := D) (ci := 6) (v := .int ((cx_r_place S) + 2)) (ty := .int) (C := RX6) (T := TX6) (N := 16) hx hb hts hin6 tyX6 tyX6_ok nmX6 hown hK hP hD hS 5 rfl rfl 9 (by decide) w38 (fun _ h9 => h9) rfl (tyX6_ok 9 (by decide)) rfl rfl (Nat.le_of_ble_eq_true rfl) dX6_takeSign_122 (fun H locs hP hD hS => ?_)
        obtain ⟨S_5, eS_5⟩ : ∃ z : CS, z = (cx_set_r_place S ((cx_r_place S) + 2)) := ⟨_, rfl⟩
        replace hw := hw S_5 eS_5
        have hP : va_P D vwCl (wC h cy S_5) H := by rw [eS_5, ← wCp_r_place]; exact hP
        have hD : va_D A (wC h cy S_5) := by rw [eS_5, ← wCp_r_place]; exact hD
        exact W.vret hx hb hr (fun t ht hW => ⟨⟨S_5, rfl, hw, by rw [ht]; exact hP, va_K.moved hW.alike hK, hD⟩, hS.F ht⟩) hS.2.2 dX6_takeSign_125
  have J_36 : ∀ (x1 : Int32) (t0 : Int32) (S : CS) (H : Heap) (locs : List Loc) (ls : Array Slot), wC_X6_takeSign_36 post x1 t0 S → va_P D vwCl (wC h cy S) H → va_D A (wC h cy S) → va_S A s.heap H locs → lv_has ls 3 [(0, .ref (h 5)), (1, .int x1)] → W p l e (headSpec wsX6_takeSign { frames := 1, cells := 0, slots := 0, locals := 21 }).room s m (([.ref (h 5), .int p1] : List Value).toArray) below meth c H locs 0 0 (MQ below (va_Qv post (k_Post D (tyC cy) (wC h cy) A) A) (([.ref (h 5), .int p1] : List Value).toArray) s 0 0 A) (F0 m 36 ls [.int t0]) := by
    intro x1 t0 S H locs ls hw hP hD hS hl
    unfold wC_X6_takeSign_36 at hw
    refine lv_istore_n (lv' := [(2, .int t0), (0, .ref (h 5)), (1, .int x1)]) hx hb dX6_takeSign_36 rfl hl (by decide) rfl (fun ls hl => ?_)
    refine lv_iload_n hx hb dX6_takeSign_37 rfl (lv_at hl 2 rfl) ?_
    refine lv_bipush (v := 60) hx hb dX6_takeSign_38 (by decide) ?_
    obtain ⟨hc_6t, hc_6f⟩ := hw
    refine lv_icmp_ne (tgt := 61) hx hb dX6_takeSign_40 (by decide) (fun c_6 => ?_) (fun c_6 => ?_)
    · have hw := hc_6f c_6
      clear hc_6t hc_6f
      refine lv_iload_n hx hb dX6_takeSign_61 rfl (lv_at hl 2 rfl) ?_
      refine lv_bipush (v := 62) hx hb dX6_takeSign_62 (by decide) ?_
      obtain ⟨hc_7t, hc_7f⟩ := hw
      refine lv_icmp_ne (tgt := 85) hx hb dX6_takeSign_64 (by decide) (fun c_7 => ?_) (fun c_7 => ?_)
      · have hw := hc_7f c_7
        clear hc_7t hc_7f
        refine lv_aload_n hx hb dX6_takeSign_85 rfl (lv_at hl 1 rfl) ?_
        refine lv_iload_n hx hb dX6_takeSign_86 rfl (lv_at hl 2 rfl) ?_
        refine e_callSi (As := [.int x1]) (rest := [.ref (h 5)]) clE_stable hs ⟨hx, hb, hml, hown, hts⟩ (cC_X6_plainSign l D h cy _ _ _ hw) (va_cwS 1 hts gX6_takeSign_X6_plainSign rfl rfl rfl (by decide +kernel) ⟨Nat.le_of_ble_eq_true rfl, Nat.le_of_ble_eq_true rfl⟩) hK hP hD hS hA rfl hl.1 rfl (Nat.le_of_ble_eq_true rfl) dX6_takeSign_87 ⟨Nat.zero_le _, Nat.zero_le _⟩ (fun r_8 S_9 H locs hw hP hD hS => ?_)
        refine va_put (D := D) (ci := 6) (v := .int r_8) (ty := .int) (C := RX6) (T := TX6) (N := 16) hx hb hts hin6 tyX6 tyX6_ok nmX6 hown hK hP hD hS 5 rfl rfl 11 (by decide) w62 (fun _ h9 => h9) rfl (tyX6_ok 11 (by decide)) rfl rfl (Nat.le_of_ble_eq_true rfl) dX6_takeSign_90 (fun H locs hP hD hS => ?_)
        obtain ⟨S_10, eS_10⟩ : ∃ z : CS, z = (cx_set_r_token S_9 r_8) := ⟨_, rfl⟩
        replace hw := hw S_10 eS_10
        have hP : va_P D vwCl (wC h cy S_10) H := by rw [eS_10, ← wCp_r_token]; exact hP
        have hD : va_D A (wC h cy S_10) := by rw [eS_10, ← wCp_r_token]; exact hD
        exact J_93 S_10 _ _ _ hw hP hD hS (lv_sub hl [1] rfl)
      · have hw := hc_7t c_7
        clear hc_7t hc_7f
        refine lv_aload_n hx hb dX6_takeSign_67 rfl (lv_at hl 1 rfl) ?_
        refine lv_iload_n hx hb dX6_takeSign_68 rfl (lv_at hl 0 rfl) ?_
        obtain ⟨hc_11t, hc_11f⟩ := hw
        refine lv_if_eq (tgt := 77) hx hb dX6_takeSign_69 (by decide) (fun c_11 => ?_) (fun c_11 => ?_)
        · have hw := hc_11t c_11
          clear hc_11t hc_11f
          refine lv_bipush (v := 36) hx hb dX6_takeSign_77 (by decide) ?_
          refine va_put (D := D) (ci := 6) (v := .int 36) (ty := .int) (C := RX6) (T := TX6) (N := 16) hx hb hts hin6 tyX6 tyX6_ok nmX6 hown hK hP hD hS 5 rfl rfl 11 (by decide) w62 (fun _ h9 => h9) rfl (tyX6_ok 11 (by decide)) rfl rfl (Nat.le_of_ble_eq_true rfl) dX6_takeSign_79 (fun H locs hP hD hS => ?_)
          obtain ⟨S_12, eS_12⟩ : ∃ z : CS, z = (cx_set_r_token S 36) := ⟨_, rfl⟩
          replace hw := hw S_12 eS_12
          have hP : va_P D vwCl (wC h cy S_12) H := by rw [eS_12, ← wCp_r_token]; exact hP
          have hD : va_D A (wC h cy S_12) := by rw [eS_12, ← wCp_r_token]; exact hD
          refine lv_goto (tgt := 93) hx hb dX6_takeSign_82 (by decide) ?_
          exact J_93 S_12 _ _ _ hw hP hD hS (lv_sub hl [1] rfl)
        · have hw := hc_11f c_11
          clear hc_11t hc_11f
          refine lv_bipush (v := 34) hx hb dX6_takeSign_72 (by decide) ?_
          refine lv_goto (tgt := 79) hx hb dX6_takeSign_74 (by decide) ?_
          refine va_put (D := D) (ci := 6) (v := .int 34) (ty := .int) (C := RX6) (T := TX6) (N := 16) hx hb hts hin6 tyX6 tyX6_ok nmX6 hown hK hP hD hS 5 rfl rfl 11 (by decide) w62 (fun _ h9 => h9) rfl (tyX6_ok 11 (by decide)) rfl rfl (Nat.le_of_ble_eq_true rfl) dX6_takeSign_79 (fun H locs hP hD hS => ?_)
          obtain ⟨S_13, eS_13⟩ : ∃ z : CS, z = (cx_set_r_token S 34) := ⟨_, rfl⟩
          replace hw := hw S_13 eS_13
          have hP : va_P D vwCl (wC h cy S_13) H := by rw [eS_13, ← wCp_r_token]; exact hP
          have hD : va_D A (wC h cy S_13) := by rw [eS_13, ← wCp_r_token]; exact hD
          refine lv_goto (tgt := 93) hx hb dX6_takeSign_82 (by decide) ?_
          exact J_93 S_13 _ _ _ hw hP hD hS (lv_sub hl [1] rfl)
    · have hw := hc_6t c_6
      clear hc_6t hc_6f
      refine lv_aload_n hx hb dX6_takeSign_43 rfl (lv_at hl 1 rfl) ?_
      refine lv_iload_n hx hb dX6_takeSign_44 rfl (lv_at hl 0 rfl) ?_
      obtain ⟨hc_14t, hc_14f⟩ := hw
      refine lv_if_eq (tgt := 53) hx hb dX6_takeSign_45 (by decide) (fun c_14 => ?_) (fun c_14 => ?_)
      · have hw := hc_14t c_14
        clear hc_14t hc_14f
        refine lv_bipush (v := 35) hx hb dX6_takeSign_53 (by decide) ?_
        refine va_put (D := D) (ci := 6) (v := .int 35) (ty := .int) (C := RX6) (T := TX6) (N := 16) hx hb hts hin6 tyX6 tyX6_ok nmX6 hown hK hP hD hS 5 rfl rfl 11 (by decide) w62 (fun _ h9 => h9) rfl (tyX6_ok 11 (by decide)) rfl rfl (Nat.le_of_ble_eq_true rfl) dX6_takeSign_55 (fun H locs hP hD hS => ?_)
        obtain ⟨S_15, eS_15⟩ : ∃ z : CS, z = (cx_set_r_token S 35) := ⟨_, rfl⟩
        replace hw := hw S_15 eS_15
        have hP : va_P D vwCl (wC h cy S_15) H := by rw [eS_15, ← wCp_r_token]; exact hP
        have hD : va_D A (wC h cy S_15) := by rw [eS_15, ← wCp_r_token]; exact hD
        refine lv_goto (tgt := 93) hx hb dX6_takeSign_58 (by decide) ?_
        exact J_93 S_15 _ _ _ hw hP hD hS (lv_sub hl [1] rfl)
      · have hw := hc_14f c_14
        clear hc_14t hc_14f
        refine lv_bipush (v := 33) hx hb dX6_takeSign_48 (by decide) ?_
        refine lv_goto (tgt := 55) hx hb dX6_takeSign_50 (by decide) ?_
        refine va_put (D := D) (ci := 6) (v := .int 33) (ty := .int) (C := RX6) (T := TX6) (N := 16) hx hb hts hin6 tyX6 tyX6_ok nmX6 hown hK hP hD hS 5 rfl rfl 11 (by decide) w62 (fun _ h9 => h9) rfl (tyX6_ok 11 (by decide)) rfl rfl (Nat.le_of_ble_eq_true rfl) dX6_takeSign_55 (fun H locs hP hD hS => ?_)
        obtain ⟨S_16, eS_16⟩ : ∃ z : CS, z = (cx_set_r_token S 33) := ⟨_, rfl⟩
        replace hw := hw S_16 eS_16
        have hP : va_P D vwCl (wC h cy S_16) H := by rw [eS_16, ← wCp_r_token]; exact hP
        have hD : va_D A (wC h cy S_16) := by rw [eS_16, ← wCp_r_token]; exact hD
        refine lv_goto (tgt := 93) hx hb dX6_takeSign_58 (by decide) ?_
        exact J_93 S_16 _ _ _ hw hP hD hS (lv_sub hl [1] rfl)
  refine lv_aload_n hx hb dX6_takeSign_0 rfl (lv_at hl 0 rfl) ?_
  refine va_get (D := D) (ci := 6) (v := .int (cx_r_place S)) (C := RX6) (T := TX6) (N := 16) hx hb hts hin6 hown hK hP 5 rfl rfl 9 (by decide) w38 (fun _ h9 => h9) rfl dX6_takeSign_1 ?_
  refine lv_iconst (v := 1) hx hb dX6_takeSign_4 (by decide) ?_
  refine lv_iadd hx hb dX6_takeSign_5 ?_
  refine lv_aload_n hx hb dX6_takeSign_6 rfl (lv_at hl 0 rfl) ?_
  refine va_get (D := D) (ci := 6) (v := .int (cx_r_length S)) (C := RX6) (T := TX6) (N := 16) hx hb hts hin6 hown hK hP 5 rfl rfl 0 (by decide) w9 (fun _ h9 => h9) rfl dX6_takeSign_7 ?_
  obtain ⟨hc_17t, hc_17f⟩ := hw
  refine lv_icmp_ge (tgt := 35) hx hb dX6_takeSign_10 (by decide) (fun c_17 => ?_) (fun c_17 => ?_)
  · have hw := hc_17t c_17
    clear hc_17t hc_17f
    refine lv_iconst (v := 0) hx hb dX6_takeSign_35 (by decide) ?_
    exact J_36 p1 0 S _ _ _ hw hP hD hS (lv_sub hl [0, 1] rfl)
  · have hw := hc_17f c_17
    clear hc_17t hc_17f
    refine lv_aload_n hx hb dX6_takeSign_13 rfl (lv_at hl 0 rfl) ?_
    refine va_get (D := D) (ci := 6) (v := .ref (h 36)) (C := RX6) (T := TX6) (N := 16) hx hb hts hin6 hown hK hP 5 rfl rfl 3 (by decide) w21 (fun _ h9 => h9) rfl dX6_takeSign_14 ?_
    refine lv_aload_n hx hb dX6_takeSign_17 rfl (lv_at hl 0 rfl) ?_
    refine va_get (D := D) (ci := 6) (v := .int (cx_r_place S)) (C := RX6) (T := TX6) (N := 16) hx hb hts hin6 hown hK hP 5 rfl rfl 9 (by decide) w38 (fun _ h9 => h9) rfl dX6_takeSign_18 ?_
    refine lv_iconst (v := 1) hx hb dX6_takeSign_21 (by decide) ?_
    refine lv_iadd hx hb dX6_takeSign_22 ?_
    refine e_callNi (As := [.ref (h 36), .int ((cx_r_place S) + 1)]) (rest := []) clE_stable hs ⟨hx, hb, hml, hown, hts⟩ (cA_at l D clE (tyC cy) (wC h cy) S 36 24 _ _ 300 (cx_r_tape S) rfl rfl (by decide) _ (fun r S0 => r = k_at 300 (cx_r_tape S) ((cx_r_place S) + 1) ∧ S = S0) ⟨rfl, rfl⟩) ⟨va_cnB 2 hts gX6_takeSign_X11_at_n100 rfl rfl rfl hs.1.2.2.2.2.2.2.2.2.1 wiX11 (by decide +kernel) ⟨Nat.le_of_ble_eq_true rfl, Nat.le_of_ble_eq_true rfl⟩, wstat, trivial⟩ hK hP hD hS hA rfl hl.1 rfl (Nat.le_of_ble_eq_true rfl) dX6_takeSign_23 ⟨Nat.zero_le _, Nat.zero_le _⟩ (fun r_ S_ H locs hq hP hD hS => ?_)
    obtain ⟨rfl, rfl⟩ := hq
    refine lv_bipush (v := 61) hx hb dX6_takeSign_26 (by decide) ?_
    obtain ⟨hc_18t, hc_18f⟩ := hw
    refine lv_icmp_ne (tgt := 35) hx hb dX6_takeSign_28 (by decide) (fun c_18 => ?_) (fun c_18 => ?_)
    · have hw := hc_18f c_18
      clear hc_18t hc_18f
      refine lv_iconst (v := 0) hx hb dX6_takeSign_35 (by decide) ?_
      exact J_36 p1 0 S _ _ _ hw hP hD hS (lv_sub hl [0, 1] rfl)
    · have hw := hc_18t c_18
      clear hc_18t hc_18f
      refine lv_iconst (v := 1) hx hb dX6_takeSign_31 (by decide) ?_
      refine lv_goto (tgt := 36) hx hb dX6_takeSign_32 (by decide) ?_
      exact J_36 p1 1 S _ _ _ hw hP hD hS (lv_sub hl [0, 1] rfl)
def wC_X6_takeNumber_5 (post : CS → Prop) : Nat → CS → Prop
  | 0, _ => False
  | n + 1, S => (((cx_r_length S) ≤ (cx_r_place S) → (∀ S_2 : CS, S_2 = (cx_set_r_token S 32) → post S_2)) ∧ (¬ ((cx_r_length S) ≤ (cx_r_place S)) → wC_X6_isDigit (k_at 300 (cx_r_tape S) (cx_r_place S)) S (fun r_3 S_4 => ((r_3 = 0 → (∀ S_6 : CS, S_6 = (cx_set_r_token S_4 32) → post S_6)) ∧ (¬ (r_3 = 0) → (∀ S_7 : CS, S_7 = (cx_set_r_number S_4 (if 10000 < ((((cx_r_number S_4) * 10) + (k_at 300 (cx_r_tape S_4) (cx_r_place S_4))) - 48) then 10000 else ((((cx_r_number S_4) * 10) + (k_at 300 (cx_r_tape S_4) (cx_r_place S_4))) - 48))) → (∀ S_8 : CS, S_8 = (cx_set_r_place S_7 ((cx_r_place S_7) + 1)) → wC_X6_takeNumber_5 post n S_8)))))))
def wC_X6_takeNumber (S : CS) (post : CS → Prop) : Prop := (∀ S_1 : CS, S_1 = (cx_set_r_number S 0) → ∃ k_ : Nat, wC_X6_takeNumber_5 post k_ S_1)
set_option maxHeartbeats 4000000 in
set_option maxRecDepth 100000 in
theorem cC_X6_takeNumber (l : Launch) (D : va_G) (h : Nat → Nat) (cy : Nat → ClassId) (S : CS) (post : CS → Prop) (hw : wC_X6_takeNumber S post) : e_Mv clE l yX6_takeNumber wsX6_takeNumber { frames := 1, cells := 0, slots := 0, locals := 21 } D (tyC cy) (wC h cy) [.ref (h 5)] S post := by
  intro sz
  refine Met.ofW (cc := cX6_takeNumber) (maxL := 1) (ret := none) (by decide) rfl ?_
  intro p e s m args below meth c s₁ B hml hv
  obtain ⟨rfl, hsz, hP, hK, hD0, hs⟩ := hv
  have hx := B.exec
  have hb := B.bytes
  have hr := B.returns
  have hts := atoms_spec (ws := wsX6_takeNumber) B.pre
  have hown : s.vm.findClass RX6 = some m.cls := findClass_of_methodNamed B.named
  have hlocks := B.notSynchronized
  subst hsz
  have hD := hD0.self (sz := s.heap.size)
  generalize hAe : va_A (wC h cy S) s.heap.size = A at hD hs ⊢
  have hA : ∀ q : Nat, s.heap.size ≤ q → A q := fun q h => by rw [← hAe]; exact Or.inr h
  have hS : va_S A s.heap s.heap [] := va_S.rf
  have hin6 : ∀ w ∈ wsX60, w ∈ wsX6_takeNumber := fun _ h => List.mem_cons_of_mem _ (List.mem_append_right _ h)
  have w120 := hts (.fieldLink RX6 120 "ClownsMourn$Reader" "number" "I") (List.mem_of_getElem? (i := 1) rfl)
  have w21 := hts (.fieldLink RX6 21 "ClownsMourn$Reader" "tape" "[I") (List.mem_of_getElem? (i := 4) rfl)
  have w38 := hts (.fieldLink RX6 38 "ClownsMourn$Reader" "place" "I") (List.mem_of_getElem? (i := 2) rfl)
  have w62 := hts (.fieldLink RX6 62 "ClownsMourn$Reader" "token" "I") (List.mem_of_getElem? (i := 9) rfl)
  have w9 := hts (.fieldLink RX6 9 "ClownsMourn$Reader" "length" "I") (List.mem_of_getElem? (i := 3) rfl)
  have wm188 := hts (.methodLink RX6 188 Lib.Math.min.name) (List.mem_of_getElem? (i := 5) rfl)
  have wsmin := hts (.static Lib.Math.min.name) (List.mem_of_getElem? (i := 6) rfl)
  have wcdmin := hts (.code Lib.Math.min.name Lib.Math.min.code 2 (some .int)) (List.mem_of_getElem? (i := 8) rfl)
  have wiM := hts (.initialized "java/lang/Math") (List.mem_of_getElem? (i := 7) rfl)
  have wiX11 := hts (.initialized RX11) (List.mem_of_getElem? (i := 11) rfl)
  have wstat := hts (.static yX11_at) (List.mem_of_getElem? (i := 10) rfl)
  have hl := lv_entry ([.ref (h 5)]) (n := 1) (Nat.le_of_ble_eq_true rfl)
  rw [lg_entry_eq]
  generalize (lg_sl ([.ref (h 5)]) ++ List.replicate (1 - (lg_sl ([.ref (h 5)])).length) Slot.unset).toArray = ls at hl ⊢
  have hl : lv_has ls 1 [(0, .ref (h 5))] := hl
  unfold wC_X6_takeNumber at hw
  clear hD0
  have L_5 : ∀ (n5 : Nat) (S : CS) (H : Heap) (locs : List Loc) (ls : Array Slot), wC_X6_takeNumber_5 post n5 S → va_P D vwCl (wC h cy S) H → va_D A (wC h cy S) → va_S A s.heap H locs → lv_has ls 1 [(0, .ref (h 5))] → W p l e (headSpec wsX6_takeNumber { frames := 1, cells := 0, slots := 0, locals := 21 }).room s m (([.ref (h 5)] : List Value).toArray) below meth c H locs 0 0 (MQ below (va_Qv post (k_Post D (tyC cy) (wC h cy) A) A) (([.ref (h 5)] : List Value).toArray) s 0 0 A) (F0 m 5 ls []) := by
    intro n5
    induction n5 with
    | zero => intro S H locs ls hw; exact False.elim hw
    | succ n5 ih_5 =>
      intro S H locs ls hw hP hD hS hl
      unfold wC_X6_takeNumber_5 at hw
      refine lv_aload_n hx hb dX6_takeNumber_5 rfl (lv_at hl 0 rfl) ?_
      refine va_get (D := D) (ci := 6) (v := .int (cx_r_place S)) (C := RX6) (T := TX6) (N := 16) hx hb hts hin6 hown hK hP 5 rfl rfl 9 (by decide) w38 (fun _ h9 => h9) rfl dX6_takeNumber_6 ?_
      refine lv_aload_n hx hb dX6_takeNumber_9 rfl (lv_at hl 0 rfl) ?_
      refine va_get (D := D) (ci := 6) (v := .int (cx_r_length S)) (C := RX6) (T := TX6) (N := 16) hx hb hts hin6 hown hK hP 5 rfl rfl 0 (by decide) w9 (fun _ h9 => h9) rfl dX6_takeNumber_10 ?_
      obtain ⟨hc_1t, hc_1f⟩ := hw
      refine lv_icmp_ge (tgt := 78) hx hb dX6_takeNumber_13 (by decide) (fun c_1 => ?_) (fun c_1 => ?_)
      · have hw := hc_1t c_1
        clear hc_1t hc_1f
        refine lv_aload_n hx hb dX6_takeNumber_78 rfl (lv_at hl 0 rfl) ?_
        refine lv_bipush (v := 32) hx hb dX6_takeNumber_79 (by decide) ?_
        refine va_put (D := D) (ci := 6) (v := .int 32) (ty := .int) (C := RX6) (T := TX6) (N := 16) hx hb hts hin6 tyX6 tyX6_ok nmX6 hown hK hP hD hS 5 rfl rfl 11 (by decide) w62 (fun _ h9 => h9) rfl (tyX6_ok 11 (by decide)) rfl rfl (Nat.le_of_ble_eq_true rfl) dX6_takeNumber_81 (fun H locs hP hD hS => ?_)
        obtain ⟨S_2, eS_2⟩ : ∃ z : CS, z = (cx_set_r_token S 32) := ⟨_, rfl⟩
        replace hw := hw S_2 eS_2
        have hP : va_P D vwCl (wC h cy S_2) H := by rw [eS_2, ← wCp_r_token]; exact hP
        have hD : va_D A (wC h cy S_2) := by rw [eS_2, ← wCp_r_token]; exact hD
        exact W.vret hx hb hr (fun t ht hW => ⟨⟨S_2, rfl, hw, by rw [ht]; exact hP, va_K.moved hW.alike hK, hD⟩, hS.F ht⟩) hS.2.2 dX6_takeNumber_84
      · have hw := hc_1f c_1
        clear hc_1t hc_1f
        refine lv_aload_n hx hb dX6_takeNumber_16 rfl (lv_at hl 0 rfl) ?_
        refine va_get (D := D) (ci := 6) (v := .ref (h 36)) (C := RX6) (T := TX6) (N := 16) hx hb hts hin6 hown hK hP 5 rfl rfl 3 (by decide) w21 (fun _ h9 => h9) rfl dX6_takeNumber_17 ?_
        refine lv_aload_n hx hb dX6_takeNumber_20 rfl (lv_at hl 0 rfl) ?_
        refine va_get (D := D) (ci := 6) (v := .int (cx_r_place S)) (C := RX6) (T := TX6) (N := 16) hx hb hts hin6 hown hK hP 5 rfl rfl 9 (by decide) w38 (fun _ h9 => h9) rfl dX6_takeNumber_21 ?_
        refine e_callNi (As := [.ref (h 36), .int (cx_r_place S)]) (rest := []) clE_stable hs ⟨hx, hb, hml, hown, hts⟩ (cA_at l D clE (tyC cy) (wC h cy) S 36 24 _ _ 300 (cx_r_tape S) rfl rfl (by decide) _ (fun r S0 => r = k_at 300 (cx_r_tape S) (cx_r_place S) ∧ S = S0) ⟨rfl, rfl⟩) ⟨va_cnB 2 hts gX6_takeNumber_X11_at_n100 rfl rfl rfl hs.1.2.2.2.2.2.2.2.2.1 wiX11 (by decide +kernel) ⟨Nat.le_of_ble_eq_true rfl, Nat.le_of_ble_eq_true rfl⟩, wstat, trivial⟩ hK hP hD hS hA rfl hl.1 rfl (Nat.le_of_ble_eq_true rfl) dX6_takeNumber_24 ⟨Nat.zero_le _, Nat.zero_le _⟩ (fun r_ S_ H locs hq hP hD hS => ?_)
        obtain ⟨rfl, rfl⟩ := hq
        refine e_callSi (As := [.int (k_at 300 (cx_r_tape S) (cx_r_place S))]) (rest := []) clE_stable hs ⟨hx, hb, hml, hown, hts⟩ (cC_X6_isDigit l D h cy _ _ _ hw) (va_cwS 1 hts gX6_takeNumber_X6_isDigit rfl rfl rfl (by decide +kernel) ⟨Nat.le_of_ble_eq_true rfl, Nat.le_of_ble_eq_true rfl⟩) hK hP hD hS hA rfl hl.1 rfl (Nat.le_of_ble_eq_true rfl) dX6_takeNumber_27 ⟨Nat.zero_le _, Nat.zero_le _⟩ (fun r_3 S_4 H locs hw hP hD hS => ?_)
        obtain ⟨hc_5t, hc_5f⟩ := hw
        refine lv_if_eq (tgt := 78) hx hb dX6_takeNumber_30 (by decide) (fun c_5 => ?_) (fun c_5 => ?_)
        · have hw := hc_5t c_5
          clear hc_5t hc_5f
          refine lv_aload_n hx hb dX6_takeNumber_78 rfl (lv_at hl 0 rfl) ?_
          refine lv_bipush (v := 32) hx hb dX6_takeNumber_79 (by decide) ?_
          refine va_put (D := D) (ci := 6) (v := .int 32) (ty := .int) (C := RX6) (T := TX6) (N := 16) hx hb hts hin6 tyX6 tyX6_ok nmX6 hown hK hP hD hS 5 rfl rfl 11 (by decide) w62 (fun _ h9 => h9) rfl (tyX6_ok 11 (by decide)) rfl rfl (Nat.le_of_ble_eq_true rfl) dX6_takeNumber_81 (fun H locs hP hD hS => ?_)
          obtain ⟨S_6, eS_6⟩ : ∃ z : CS, z = (cx_set_r_token S_4 32) := ⟨_, rfl⟩
          replace hw := hw S_6 eS_6
          have hP : va_P D vwCl (wC h cy S_6) H := by rw [eS_6, ← wCp_r_token]; exact hP
          have hD : va_D A (wC h cy S_6) := by rw [eS_6, ← wCp_r_token]; exact hD
          exact W.vret hx hb hr (fun t ht hW => ⟨⟨S_6, rfl, hw, by rw [ht]; exact hP, va_K.moved hW.alike hK, hD⟩, hS.F ht⟩) hS.2.2 dX6_takeNumber_84
        · have hw := hc_5f c_5
          clear hc_5t hc_5f
          refine lv_aload_n hx hb dX6_takeNumber_33 rfl (lv_at hl 0 rfl) ?_
          refine lv_aload_n hx hb dX6_takeNumber_34 rfl (lv_at hl 0 rfl) ?_
          refine va_get (D := D) (ci := 6) (v := .int (cx_r_number S_4)) (C := RX6) (T := TX6) (N := 16) hx hb hts hin6 hown hK hP 5 rfl rfl 12 (by decide) w120 (fun _ h9 => h9) rfl dX6_takeNumber_35 ?_
          refine lv_bipush (v := 10) hx hb dX6_takeNumber_38 (by decide) ?_
          refine lv_imul hx hb dX6_takeNumber_40 ?_
          refine lv_aload_n hx hb dX6_takeNumber_41 rfl (lv_at hl 0 rfl) ?_
          refine va_get (D := D) (ci := 6) (v := .ref (h 36)) (C := RX6) (T := TX6) (N := 16) hx hb hts hin6 hown hK hP 5 rfl rfl 3 (by decide) w21 (fun _ h9 => h9) rfl dX6_takeNumber_42 ?_
          refine lv_aload_n hx hb dX6_takeNumber_45 rfl (lv_at hl 0 rfl) ?_
          refine va_get (D := D) (ci := 6) (v := .int (cx_r_place S_4)) (C := RX6) (T := TX6) (N := 16) hx hb hts hin6 hown hK hP 5 rfl rfl 9 (by decide) w38 (fun _ h9 => h9) rfl dX6_takeNumber_46 ?_
          refine e_callNi (As := [.ref (h 36), .int (cx_r_place S_4)]) (rest := [.int ((cx_r_number S_4) * 10), .ref (h 5)]) clE_stable hs ⟨hx, hb, hml, hown, hts⟩ (cA_at l D clE (tyC cy) (wC h cy) S_4 36 24 _ _ 300 (cx_r_tape S_4) rfl rfl (by decide) _ (fun r S0 => r = k_at 300 (cx_r_tape S_4) (cx_r_place S_4) ∧ S_4 = S0) ⟨rfl, rfl⟩) ⟨va_cnB 2 hts gX6_takeNumber_X11_at_n100 rfl rfl rfl hs.1.2.2.2.2.2.2.2.2.1 wiX11 (by decide +kernel) ⟨Nat.le_of_ble_eq_true rfl, Nat.le_of_ble_eq_true rfl⟩, wstat, trivial⟩ hK hP hD hS hA rfl hl.1 rfl (Nat.le_of_ble_eq_true rfl) dX6_takeNumber_49 ⟨Nat.zero_le _, Nat.zero_le _⟩ (fun r_ S_ H locs hq hP hD hS => ?_)
          obtain ⟨rfl, rfl⟩ := hq
          refine lv_iadd hx hb dX6_takeNumber_52 ?_
          refine lv_bipush (v := 48) hx hb dX6_takeNumber_53 (by decide) ?_
          refine lv_isub hx hb dX6_takeNumber_55 ?_
          refine lv_sipush (v := 10000) hx hb dX6_takeNumber_56 (by decide) ?_
          refine va_mmin (own := RX6) (index := 188) hx hb (hml.trans hl.1.symm) hown wm188 wsmin wiM wcdmin (Nat.le_of_ble_eq_true rfl) (Nat.le_of_ble_eq_true rfl) (Nat.zero_le _) (Nat.zero_le _) dX6_takeNumber_59 ?_
          refine va_put (D := D) (ci := 6) (v := .int (if 10000 < ((((cx_r_number S_4) * 10) + (k_at 300 (cx_r_tape S_4) (cx_r_place S_4))) - 48) then 10000 else ((((cx_r_number S_4) * 10) + (k_at 300 (cx_r_tape S_4) (cx_r_place S_4))) - 48))) (ty := .int) (C := RX6) (T := TX6) (N := 16) hx hb hts hin6 tyX6 tyX6_ok nmX6 hown hK hP hD hS 5 rfl rfl 12 (by decide) w120 (fun _ h9 => h9) rfl (tyX6_ok 12 (by decide)) rfl rfl (Nat.le_of_ble_eq_true rfl) dX6_takeNumber_62 (fun H locs hP hD hS => ?_)
          obtain ⟨S_7, eS_7⟩ : ∃ z : CS, z = (cx_set_r_number S_4 (if 10000 < ((((cx_r_number S_4) * 10) + (k_at 300 (cx_r_tape S_4) (cx_r_place S_4))) - 48) then 10000 else ((((cx_r_number S_4) * 10) + (k_at 300 (cx_r_tape S_4) (cx_r_place S_4))) - 48))) := ⟨_, rfl⟩
          replace hw := hw S_7 eS_7
          have hP : va_P D vwCl (wC h cy S_7) H := by rw [eS_7, ← wCp_r_number]; exact hP
          have hD : va_D A (wC h cy S_7) := by rw [eS_7, ← wCp_r_number]; exact hD
          refine lv_aload_n hx hb dX6_takeNumber_65 rfl (lv_at hl 0 rfl) ?_
          refine lv_dup hx hb dX6_takeNumber_66 rfl ?_
          refine va_get (D := D) (ci := 6) (v := .int (cx_r_place S_7)) (C := RX6) (T := TX6) (N := 16) hx hb hts hin6 hown hK hP 5 rfl rfl 9 (by decide) w38 (fun _ h9 => h9) rfl dX6_takeNumber_67 ?_
          refine lv_iconst (v := 1) hx hb dX6_takeNumber_70 (by decide) ?_
          refine lv_iadd hx hb dX6_takeNumber_71 ?_
          refine va_put (D := D) (ci := 6) (v := .int ((cx_r_place S_7) + 1)) (ty := .int) (C := RX6) (T := TX6) (N := 16) hx hb hts hin6 tyX6 tyX6_ok nmX6 hown hK hP hD hS 5 rfl rfl 9 (by decide) w38 (fun _ h9 => h9) rfl (tyX6_ok 9 (by decide)) rfl rfl (Nat.le_of_ble_eq_true rfl) dX6_takeNumber_72 (fun H locs hP hD hS => ?_)
          obtain ⟨S_8, eS_8⟩ : ∃ z : CS, z = (cx_set_r_place S_7 ((cx_r_place S_7) + 1)) := ⟨_, rfl⟩
          replace hw := hw S_8 eS_8
          have hP : va_P D vwCl (wC h cy S_8) H := by rw [eS_8, ← wCp_r_place]; exact hP
          have hD : va_D A (wC h cy S_8) := by rw [eS_8, ← wCp_r_place]; exact hD
          refine lv_goto (tgt := 5) hx hb dX6_takeNumber_75 (by decide) ?_
          exact ih_5 S_8 _ _ _ hw hP hD hS (lv_sub hl [0] rfl)
  refine lv_aload_n hx hb dX6_takeNumber_0 rfl (lv_at hl 0 rfl) ?_
  refine lv_iconst (v := 0) hx hb dX6_takeNumber_1 (by decide) ?_
  refine va_put (D := D) (ci := 6) (v := .int 0) (ty := .int) (C := RX6) (T := TX6) (N := 16) hx hb hts hin6 tyX6 tyX6_ok nmX6 hown hK hP hD hS 5 rfl rfl 12 (by decide) w120 (fun _ h9 => h9) rfl (tyX6_ok 12 (by decide)) rfl rfl (Nat.le_of_ble_eq_true rfl) dX6_takeNumber_2 (fun H locs hP hD hS => ?_)
  obtain ⟨S_9, eS_9⟩ : ∃ z : CS, z = (cx_set_r_number S 0) := ⟨_, rfl⟩
  replace hw := hw S_9 eS_9
  have hP : va_P D vwCl (wC h cy S_9) H := by rw [eS_9, ← wCp_r_number]; exact hP
  have hD : va_D A (wC h cy S_9) := by rw [eS_9, ← wCp_r_number]; exact hD
  obtain ⟨n_5, hw⟩ := hw
  exact L_5 n_5 S_9 _ _ _ hw hP hD hS (lv_sub hl [0] rfl)
def wC_X6_isBlank (p1 : Int32) (S : CS) (post : Int32 → CS → Prop) : Prop := ((p1 = 32 → post 1 S) ∧ (¬ (p1 = 32) → ((p1 = 10 → post 1 S) ∧ (¬ (p1 = 10) → post 0 S))))
set_option maxHeartbeats 4000000 in
set_option maxRecDepth 100000 in
theorem cC_X6_isBlank (l : Launch) (D : va_G) (h : Nat → Nat) (cy : Nat → ClassId) (p1 : Int32) (S : CS) (post : Int32 → CS → Prop) (hw : wC_X6_isBlank p1 S post) : e_Mi clE l yX6_isBlank wsX6_isBlank { frames := 0, cells := 0, slots := 0, locals := 0 } D (tyC cy) (wC h cy) [.int p1] S post := by
  intro sz
  refine Met.ofW (cc := cX6_isBlank) (maxL := 1) (ret := (some .boolean)) (by decide) rfl ?_
  intro p e s m args below meth c s₁ B hml hv
  obtain ⟨rfl, hsz, hP, hK, hD0, hs⟩ := hv
  have hx := B.exec
  have hb := B.bytes
  have hr := B.returns
  have hts := atoms_spec (ws := wsX6_isBlank) B.pre
  have hown : s.vm.findClass RX6 = some m.cls := findClass_of_methodNamed B.named
  have hlocks := B.notSynchronized
  subst hsz
  have hD := hD0.self (sz := s.heap.size)
  generalize hAe : va_A (wC h cy S) s.heap.size = A at hD hs ⊢
  have hA : ∀ q : Nat, s.heap.size ≤ q → A q := fun q h => by rw [← hAe]; exact Or.inr h
  have hS : va_S A s.heap s.heap [] := va_S.rf
  have hl := lv_entry ([.int p1]) (n := 1) (Nat.le_of_ble_eq_true rfl)
  rw [lg_entry_eq]
  generalize (lg_sl ([.int p1]) ++ List.replicate (1 - (lg_sl ([.int p1])).length) Slot.unset).toArray = ls at hl ⊢
  have hl : lv_has ls 1 [(0, .int p1)] := hl
  unfold wC_X6_isBlank at hw
  clear hD0
  refine lv_iload_n hx hb dX6_isBlank_0 rfl (lv_at hl 0 rfl) ?_
  refine lv_bipush (v := 32) hx hb dX6_isBlank_1 (by decide) ?_
  obtain ⟨hc_1t, hc_1f⟩ := hw
  refine lv_icmp_eq (tgt := 12) hx hb dX6_isBlank_3 (by decide) (fun c_1 => ?_) (fun c_1 => ?_)
  · have hw := hc_1t c_1
    clear hc_1t hc_1f
    refine lv_iconst (v := 1) hx hb dX6_isBlank_12 (by decide) ?_
    refine lv_goto (tgt := 17) hx hb dX6_isBlank_13 (by decide) ?_
    exact W.zret (v := 1) hx hb hr (by decide +kernel) (fun t ht hW => ⟨⟨1, S, rfl, hw, by rw [ht]; exact hP, va_K.moved hW.alike hK, hD⟩, hS.F ht⟩) hS.2.2 dX6_isBlank_17
  · have hw := hc_1f c_1
    clear hc_1t hc_1f
    refine lv_iload_n hx hb dX6_isBlank_6 rfl (lv_at hl 0 rfl) ?_
    refine lv_bipush (v := 10) hx hb dX6_isBlank_7 (by decide) ?_
    obtain ⟨hc_2t, hc_2f⟩ := hw
    refine lv_icmp_ne (tgt := 16) hx hb dX6_isBlank_9 (by decide) (fun c_2 => ?_) (fun c_2 => ?_)
    · have hw := hc_2f c_2
      clear hc_2t hc_2f
      refine lv_iconst (v := 0) hx hb dX6_isBlank_16 (by decide) ?_
      exact W.zret (v := 0) hx hb hr (by decide +kernel) (fun t ht hW => ⟨⟨0, S, rfl, hw, by rw [ht]; exact hP, va_K.moved hW.alike hK, hD⟩, hS.F ht⟩) hS.2.2 dX6_isBlank_17
    · have hw := hc_2t c_2
      clear hc_2t hc_2f
      refine lv_iconst (v := 1) hx hb dX6_isBlank_12 (by decide) ?_
      refine lv_goto (tgt := 17) hx hb dX6_isBlank_13 (by decide) ?_
      exact W.zret (v := 1) hx hb hr (by decide +kernel) (fun t ht hW => ⟨⟨1, S, rfl, hw, by rw [ht]; exact hP, va_K.moved hW.alike hK, hD⟩, hS.F ht⟩) hS.2.2 dX6_isBlank_17
def wC_X6_fail (p1 : Int32) (S : CS) (post : CS → Prop) : Prop := (((cx_r_fault S) = 0 → (∀ S_3 : CS, S_3 = (cx_set_r_fault S p1) → (∀ S_4 : CS, S_4 = (cx_set_r_token S_3 30) → post S_4))) ∧ (¬ ((cx_r_fault S) = 0) → (∀ S_2 : CS, S_2 = (cx_set_r_token S 30) → post S_2)))
set_option maxHeartbeats 4000000 in
set_option maxRecDepth 100000 in
theorem cC_X6_fail (l : Launch) (D : va_G) (h : Nat → Nat) (cy : Nat → ClassId) (p1 : Int32) (S : CS) (post : CS → Prop) (hw : wC_X6_fail p1 S post) : e_Mv clE l yX6_fail wsX6_fail { frames := 0, cells := 0, slots := 0, locals := 0 } D (tyC cy) (wC h cy) [.ref (h 5), .int p1] S post := by
  intro sz
  refine Met.ofW (cc := cX6_fail) (maxL := 2) (ret := none) (by decide) rfl ?_
  intro p e s m args below meth c s₁ B hml hv
  obtain ⟨rfl, hsz, hP, hK, hD0, hs⟩ := hv
  have hx := B.exec
  have hb := B.bytes
  have hr := B.returns
  have hts := atoms_spec (ws := wsX6_fail) B.pre
  have hown : s.vm.findClass RX6 = some m.cls := findClass_of_methodNamed B.named
  have hlocks := B.notSynchronized
  subst hsz
  have hD := hD0.self (sz := s.heap.size)
  generalize hAe : va_A (wC h cy S) s.heap.size = A at hD hs ⊢
  have hA : ∀ q : Nat, s.heap.size ≤ q → A q := fun q h => by rw [← hAe]; exact Or.inr h
  have hS : va_S A s.heap s.heap [] := va_S.rf
  have hin6 : ∀ w ∈ wsX60, w ∈ wsX6_fail := fun _ h => List.mem_cons_of_mem _ (List.mem_append_right _ h)
  have w41 := hts (.fieldLink RX6 41 "ClownsMourn$Reader" "fault" "I") (List.mem_of_getElem? (i := 1) rfl)
  have w62 := hts (.fieldLink RX6 62 "ClownsMourn$Reader" "token" "I") (List.mem_of_getElem? (i := 2) rfl)
  have hl := lv_entry ([.ref (h 5), .int p1]) (n := 2) (Nat.le_of_ble_eq_true rfl)
  rw [lg_entry_eq]
  generalize (lg_sl ([.ref (h 5), .int p1]) ++ List.replicate (2 - (lg_sl ([.ref (h 5), .int p1])).length) Slot.unset).toArray = ls at hl ⊢
  have hl : lv_has ls 2 [(0, .ref (h 5)), (1, .int p1)] := hl
  unfold wC_X6_fail at hw
  clear hD0
  refine lv_aload_n hx hb dX6_fail_0 rfl (lv_at hl 0 rfl) ?_
  refine va_get (D := D) (ci := 6) (v := .int (cx_r_fault S)) (C := RX6) (T := TX6) (N := 16) hx hb hts hin6 hown hK hP 5 rfl rfl 13 (by decide) w41 (fun _ h9 => h9) rfl dX6_fail_1 ?_
  obtain ⟨hc_1t, hc_1f⟩ := hw
  refine lv_if_ne (tgt := 12) hx hb dX6_fail_4 (by decide) (fun c_1 => ?_) (fun c_1 => ?_)
  · have hw := hc_1f c_1
    clear hc_1t hc_1f
    refine lv_aload_n hx hb dX6_fail_12 rfl (lv_at hl 0 rfl) ?_
    refine lv_bipush (v := 30) hx hb dX6_fail_13 (by decide) ?_
    refine va_put (D := D) (ci := 6) (v := .int 30) (ty := .int) (C := RX6) (T := TX6) (N := 16) hx hb hts hin6 tyX6 tyX6_ok nmX6 hown hK hP hD hS 5 rfl rfl 11 (by decide) w62 (fun _ h9 => h9) rfl (tyX6_ok 11 (by decide)) rfl rfl (Nat.le_of_ble_eq_true rfl) dX6_fail_15 (fun H locs hP hD hS => ?_)
    obtain ⟨S_2, eS_2⟩ : ∃ z : CS, z = (cx_set_r_token S 30) := ⟨_, rfl⟩
    replace hw := hw S_2 eS_2
    have hP : va_P D vwCl (wC h cy S_2) H := by rw [eS_2, ← wCp_r_token]; exact hP
    have hD : va_D A (wC h cy S_2) := by rw [eS_2, ← wCp_r_token]; exact hD
    exact W.vret hx hb hr (fun t ht hW => ⟨⟨S_2, rfl, hw, by rw [ht]; exact hP, va_K.moved hW.alike hK, hD⟩, hS.F ht⟩) hS.2.2 dX6_fail_18
  · have hw := hc_1t c_1
    clear hc_1t hc_1f
    refine lv_aload_n hx hb dX6_fail_7 rfl (lv_at hl 0 rfl) ?_
    refine lv_iload_n hx hb dX6_fail_8 rfl (lv_at hl 1 rfl) ?_
    refine va_put (D := D) (ci := 6) (v := .int p1) (ty := .int) (C := RX6) (T := TX6) (N := 16) hx hb hts hin6 tyX6 tyX6_ok nmX6 hown hK hP hD hS 5 rfl rfl 13 (by decide) w41 (fun _ h9 => h9) rfl (tyX6_ok 13 (by decide)) rfl rfl (Nat.le_of_ble_eq_true rfl) dX6_fail_9 (fun H locs hP hD hS => ?_)
    obtain ⟨S_3, eS_3⟩ : ∃ z : CS, z = (cx_set_r_fault S p1) := ⟨_, rfl⟩
    replace hw := hw S_3 eS_3
    have hP : va_P D vwCl (wC h cy S_3) H := by rw [eS_3, ← wCp_r_fault]; exact hP
    have hD : va_D A (wC h cy S_3) := by rw [eS_3, ← wCp_r_fault]; exact hD
    refine lv_aload_n hx hb dX6_fail_12 rfl (lv_at hl 0 rfl) ?_
    refine lv_bipush (v := 30) hx hb dX6_fail_13 (by decide) ?_
    refine va_put (D := D) (ci := 6) (v := .int 30) (ty := .int) (C := RX6) (T := TX6) (N := 16) hx hb hts hin6 tyX6 tyX6_ok nmX6 hown hK hP hD hS 5 rfl rfl 11 (by decide) w62 (fun _ h9 => h9) rfl (tyX6_ok 11 (by decide)) rfl rfl (Nat.le_of_ble_eq_true rfl) dX6_fail_15 (fun H locs hP hD hS => ?_)
    obtain ⟨S_4, eS_4⟩ : ∃ z : CS, z = (cx_set_r_token S_3 30) := ⟨_, rfl⟩
    replace hw := hw S_4 eS_4
    have hP : va_P D vwCl (wC h cy S_4) H := by rw [eS_4, ← wCp_r_token]; exact hP
    have hD : va_D A (wC h cy S_4) := by rw [eS_4, ← wCp_r_token]; exact hD
    exact W.vret hx hb hr (fun t ht hW => ⟨⟨S_4, rfl, hw, by rw [ht]; exact hP, va_K.moved hW.alike hK, hD⟩, hS.F ht⟩) hS.2.2 dX6_fail_18
def wC_X6_emit (p1 : Int32) (p2 : Int32) (S : CS) (post : CS → Prop) : Prop := (∀ S_1 : CS, S_1 = (cx_set_r_code S (k_put 300 (cx_r_code S) (cx_r_codeLength S) (p1 + (p2 * 64)))) → (∀ S_2 : CS, S_2 = (cx_set_r_codeLength S_1 ((cx_r_codeLength S_1) + 1)) → post S_2))
set_option maxHeartbeats 4000000 in
set_option maxRecDepth 100000 in
theorem cC_X6_emit (l : Launch) (D : va_G) (h : Nat → Nat) (cy : Nat → ClassId) (p1 : Int32) (p2 : Int32) (S : CS) (post : CS → Prop) (hw : wC_X6_emit p1 p2 S post) : e_Mv clE l yX6_emit wsX6_emit { frames := 1, cells := 0, slots := 0, locals := 22 } D (tyC cy) (wC h cy) [.ref (h 5), .int p1, .int p2] S post := by
  intro sz
  refine Met.ofW (cc := cX6_emit) (maxL := 3) (ret := none) (by decide) rfl ?_
  intro p e s m args below meth c s₁ B hml hv
  obtain ⟨rfl, hsz, hP, hK, hD0, hs⟩ := hv
  have hx := B.exec
  have hb := B.bytes
  have hr := B.returns
  have hts := atoms_spec (ws := wsX6_emit) B.pre
  have hown : s.vm.findClass RX6 = some m.cls := findClass_of_methodNamed B.named
  have hlocks := B.notSynchronized
  subst hsz
  have hD := hD0.self (sz := s.heap.size)
  generalize hAe : va_A (wC h cy S) s.heap.size = A at hD hs ⊢
  have hA : ∀ q : Nat, s.heap.size ≤ q → A q := fun q h => by rw [← hAe]; exact Or.inr h
  have hS : va_S A s.heap s.heap [] := va_S.rf
  have hin6 : ∀ w ∈ wsX60, w ∈ wsX6_emit := fun _ h => List.mem_cons_of_mem _ (List.mem_append_right _ h)
  have w28 := hts (.fieldLink RX6 28 "ClownsMourn$Reader" "code" "[I") (List.mem_of_getElem? (i := 1) rfl)
  have w47 := hts (.fieldLink RX6 47 "ClownsMourn$Reader" "codeLength" "I") (List.mem_of_getElem? (i := 2) rfl)
  have wiX11 := hts (.initialized RX11) (List.mem_of_getElem? (i := 4) rfl)
  have wstput := hts (.static yX11_put) (List.mem_of_getElem? (i := 3) rfl)
  have hl := lv_entry ([.ref (h 5), .int p1, .int p2]) (n := 3) (Nat.le_of_ble_eq_true rfl)
  rw [lg_entry_eq]
  generalize (lg_sl ([.ref (h 5), .int p1, .int p2]) ++ List.replicate (3 - (lg_sl ([.ref (h 5), .int p1, .int p2])).length) Slot.unset).toArray = ls at hl ⊢
  have hl : lv_has ls 3 [(0, .ref (h 5)), (1, .int p1), (2, .int p2)] := hl
  unfold wC_X6_emit at hw
  clear hD0
  refine lv_aload_n hx hb dX6_emit_0 rfl (lv_at hl 0 rfl) ?_
  refine va_get (D := D) (ci := 6) (v := .ref (h 38)) (C := RX6) (T := TX6) (N := 16) hx hb hts hin6 hown hK hP 5 rfl rfl 5 (by decide) w28 (fun _ h9 => h9) rfl dX6_emit_1 ?_
  refine lv_aload_n hx hb dX6_emit_4 rfl (lv_at hl 0 rfl) ?_
  refine va_get (D := D) (ci := 6) (v := .int (cx_r_codeLength S)) (C := RX6) (T := TX6) (N := 16) hx hb hts hin6 hown hK hP 5 rfl rfl 8 (by decide) w47 (fun _ h9 => h9) rfl dX6_emit_5 ?_
  refine lv_iload_n hx hb dX6_emit_8 rfl (lv_at hl 1 rfl) ?_
  refine lv_iload_n hx hb dX6_emit_9 rfl (lv_at hl 2 rfl) ?_
  refine lv_bipush (v := 64) hx hb dX6_emit_10 (by decide) ?_
  refine lv_imul hx hb dX6_emit_12 ?_
  refine lv_iadd hx hb dX6_emit_13 ?_
  refine e_callNv (As := [.ref (h 38), .int (cx_r_codeLength S), .int (p1 + (p2 * 64))]) (rest := []) clE_stable hs ⟨hx, hb, hml, hown, hts⟩ (cA_put l D clE (tyC cy) (wC h cy) cx_r_code cx_set_r_code S 38 26 _ _ 300 rfl (wCs_r_code h cy S) rfl (by decide) _ _ (fun S0 => S0 = (cx_set_r_code S (k_put 300 (cx_r_code S) (cx_r_codeLength S) (p1 + (p2 * 64))))) rfl) ⟨va_cnB 3 hts gX6_emit_X11_put_n34 rfl rfl rfl hs.1.2.2.2.2.2.2.2.1 wiX11 (by decide +kernel) ⟨Nat.le_of_ble_eq_true rfl, Nat.le_of_ble_eq_true rfl⟩, wstput, trivial⟩ hK hP hD hS hA rfl hl.1 rfl (Nat.le_of_ble_eq_true rfl) dX6_emit_14 ⟨Nat.zero_le _, Nat.zero_le _⟩ (fun S_1 H locs eS_1 hP hD hS => ?_)
  replace hw := hw S_1 eS_1
  refine lv_aload_n hx hb dX6_emit_17 rfl (lv_at hl 0 rfl) ?_
  refine lv_dup hx hb dX6_emit_18 rfl ?_
  refine va_get (D := D) (ci := 6) (v := .int (cx_r_codeLength S_1)) (C := RX6) (T := TX6) (N := 16) hx hb hts hin6 hown hK hP 5 rfl rfl 8 (by decide) w47 (fun _ h9 => h9) rfl dX6_emit_19 ?_
  refine lv_iconst (v := 1) hx hb dX6_emit_22 (by decide) ?_
  refine lv_iadd hx hb dX6_emit_23 ?_
  refine va_put (D := D) (ci := 6) (v := .int ((cx_r_codeLength S_1) + 1)) (ty := .int) (C := RX6) (T := TX6) (N := 16) hx hb hts hin6 tyX6 tyX6_ok nmX6 hown hK hP hD hS 5 rfl rfl 8 (by decide) w47 (fun _ h9 => h9) rfl (tyX6_ok 8 (by decide)) rfl rfl (Nat.le_of_ble_eq_true rfl) dX6_emit_24 (fun H locs hP hD hS => ?_)
  obtain ⟨S_2, eS_2⟩ : ∃ z : CS, z = (cx_set_r_codeLength S_1 ((cx_r_codeLength S_1) + 1)) := ⟨_, rfl⟩
  replace hw := hw S_2 eS_2
  have hP : va_P D vwCl (wC h cy S_2) H := by rw [eS_2, ← wCp_r_codeLength]; exact hP
  have hD : va_D A (wC h cy S_2) := by rw [eS_2, ← wCp_r_codeLength]; exact hD
  exact W.vret hx hb hr (fun t ht hW => ⟨⟨S_2, rfl, hw, by rw [ht]; exact hP, va_K.moved hW.alike hK, hD⟩, hS.F ht⟩) hS.2.2 dX6_emit_27
def wC_X6_isLaw (p1 : Int32) (S : CS) (post : Int32 → CS → Prop) : Prop := ((p1 < 12 → post 0 S) ∧ (¬ (p1 < 12) → ((14 < p1 → post 0 S) ∧ (¬ (14 < p1) → post 1 S))))
set_option maxHeartbeats 4000000 in
set_option maxRecDepth 100000 in
theorem cC_X6_isLaw (l : Launch) (D : va_G) (h : Nat → Nat) (cy : Nat → ClassId) (p1 : Int32) (S : CS) (post : Int32 → CS → Prop) (hw : wC_X6_isLaw p1 S post) : e_Mi clE l yX6_isLaw wsX6_isLaw { frames := 0, cells := 0, slots := 0, locals := 0 } D (tyC cy) (wC h cy) [.int p1] S post := by
  intro sz
  refine Met.ofW (cc := cX6_isLaw) (maxL := 1) (ret := (some .boolean)) (by decide) rfl ?_
  intro p e s m args below meth c s₁ B hml hv
  obtain ⟨rfl, hsz, hP, hK, hD0, hs⟩ := hv
  have hx := B.exec
  have hb := B.bytes
  have hr := B.returns
  have hts := atoms_spec (ws := wsX6_isLaw) B.pre
  have hown : s.vm.findClass RX6 = some m.cls := findClass_of_methodNamed B.named
  have hlocks := B.notSynchronized
  subst hsz
  have hD := hD0.self (sz := s.heap.size)
  generalize hAe : va_A (wC h cy S) s.heap.size = A at hD hs ⊢
  have hA : ∀ q : Nat, s.heap.size ≤ q → A q := fun q h => by rw [← hAe]; exact Or.inr h
  have hS : va_S A s.heap s.heap [] := va_S.rf
  have hl := lv_entry ([.int p1]) (n := 1) (Nat.le_of_ble_eq_true rfl)
  rw [lg_entry_eq]
  generalize (lg_sl ([.int p1]) ++ List.replicate (1 - (lg_sl ([.int p1])).length) Slot.unset).toArray = ls at hl ⊢
  have hl : lv_has ls 1 [(0, .int p1)] := hl
  unfold wC_X6_isLaw at hw
  clear hD0
  refine lv_iload_n hx hb dX6_isLaw_0 rfl (lv_at hl 0 rfl) ?_
  refine lv_bipush (v := 12) hx hb dX6_isLaw_1 (by decide) ?_
  obtain ⟨hc_1t, hc_1f⟩ := hw
  refine lv_icmp_lt (tgt := 16) hx hb dX6_isLaw_3 (by decide) (fun c_1 => ?_) (fun c_1 => ?_)
  · have hw := hc_1t c_1
    clear hc_1t hc_1f
    refine lv_iconst (v := 0) hx hb dX6_isLaw_16 (by decide) ?_
    exact W.zret (v := 0) hx hb hr (by decide +kernel) (fun t ht hW => ⟨⟨0, S, rfl, hw, by rw [ht]; exact hP, va_K.moved hW.alike hK, hD⟩, hS.F ht⟩) hS.2.2 dX6_isLaw_17
  · have hw := hc_1f c_1
    clear hc_1t hc_1f
    refine lv_iload_n hx hb dX6_isLaw_6 rfl (lv_at hl 0 rfl) ?_
    refine lv_bipush (v := 14) hx hb dX6_isLaw_7 (by decide) ?_
    obtain ⟨hc_2t, hc_2f⟩ := hw
    refine lv_icmp_gt (tgt := 16) hx hb dX6_isLaw_9 (by decide) (fun c_2 => ?_) (fun c_2 => ?_)
    · have hw := hc_2t c_2
      clear hc_2t hc_2f
      refine lv_iconst (v := 0) hx hb dX6_isLaw_16 (by decide) ?_
      exact W.zret (v := 0) hx hb hr (by decide +kernel) (fun t ht hW => ⟨⟨0, S, rfl, hw, by rw [ht]; exact hP, va_K.moved hW.alike hK, hD⟩, hS.F ht⟩) hS.2.2 dX6_isLaw_17
    · have hw := hc_2f c_2
      clear hc_2t hc_2f
      refine lv_iconst (v := 1) hx hb dX6_isLaw_12 (by decide) ?_
      refine lv_goto (tgt := 17) hx hb dX6_isLaw_13 (by decide) ?_
      exact W.zret (v := 1) hx hb hr (by decide +kernel) (fun t ht hW => ⟨⟨1, S, rfl, hw, by rw [ht]; exact hP, va_K.moved hW.alike hK, hD⟩, hS.F ht⟩) hS.2.2 dX6_isLaw_17
def wC_X6_beginsClause (p1 : Int32) (S : CS) (post : Int32 → CS → Prop) : Prop := ((p1 = 0 → post 1 S) ∧ (¬ (p1 = 0) → ((p1 = 3 → post 1 S) ∧ (¬ (p1 = 3) → ((p1 = 5 → post 1 S) ∧ (¬ (p1 = 5) → ((p1 = 9 → post 1 S) ∧ (¬ (p1 = 9) → ((p1 < 12 → post 0 S) ∧ (¬ (p1 < 12) → ((17 < p1 → post 0 S) ∧ (¬ (17 < p1) → post 1 S))))))))))))
set_option maxHeartbeats 4000000 in
set_option maxRecDepth 100000 in
theorem cC_X6_beginsClause (l : Launch) (D : va_G) (h : Nat → Nat) (cy : Nat → ClassId) (p1 : Int32) (S : CS) (post : Int32 → CS → Prop) (hw : wC_X6_beginsClause p1 S post) : e_Mi clE l yX6_beginsClause wsX6_beginsClause { frames := 0, cells := 0, slots := 0, locals := 0 } D (tyC cy) (wC h cy) [.int p1] S post := by
  intro sz
  refine Met.ofW (cc := cX6_beginsClause) (maxL := 1) (ret := (some .boolean)) (by decide) rfl ?_
  intro p e s m args below meth c s₁ B hml hv
  obtain ⟨rfl, hsz, hP, hK, hD0, hs⟩ := hv
  have hx := B.exec
  have hb := B.bytes
  have hr := B.returns
  have hts := atoms_spec (ws := wsX6_beginsClause) B.pre
  have hown : s.vm.findClass RX6 = some m.cls := findClass_of_methodNamed B.named
  have hlocks := B.notSynchronized
  subst hsz
  have hD := hD0.self (sz := s.heap.size)
  generalize hAe : va_A (wC h cy S) s.heap.size = A at hD hs ⊢
  have hA : ∀ q : Nat, s.heap.size ≤ q → A q := fun q h => by rw [← hAe]; exact Or.inr h
  have hS : va_S A s.heap s.heap [] := va_S.rf
  have hl := lv_entry ([.int p1]) (n := 1) (Nat.le_of_ble_eq_true rfl)
  rw [lg_entry_eq]
  generalize (lg_sl ([.int p1]) ++ List.replicate (1 - (lg_sl ([.int p1])).length) Slot.unset).toArray = ls at hl ⊢
  have hl : lv_has ls 1 [(0, .int p1)] := hl
  unfold wC_X6_beginsClause at hw
  clear hD0
  refine lv_iload_n hx hb dX6_beginsClause_0 rfl (lv_at hl 0 rfl) ?_
  obtain ⟨hc_1t, hc_1f⟩ := hw
  refine lv_if_eq (tgt := 32) hx hb dX6_beginsClause_1 (by decide) (fun c_1 => ?_) (fun c_1 => ?_)
  · have hw := hc_1t c_1
    clear hc_1t hc_1f
    refine lv_iconst (v := 1) hx hb dX6_beginsClause_32 (by decide) ?_
    refine lv_goto (tgt := 37) hx hb dX6_beginsClause_33 (by decide) ?_
    exact W.zret (v := 1) hx hb hr (by decide +kernel) (fun t ht hW => ⟨⟨1, S, rfl, hw, by rw [ht]; exact hP, va_K.moved hW.alike hK, hD⟩, hS.F ht⟩) hS.2.2 dX6_beginsClause_37
  · have hw := hc_1f c_1
    clear hc_1t hc_1f
    refine lv_iload_n hx hb dX6_beginsClause_4 rfl (lv_at hl 0 rfl) ?_
    refine lv_iconst (v := 3) hx hb dX6_beginsClause_5 (by decide) ?_
    obtain ⟨hc_2t, hc_2f⟩ := hw
    refine lv_icmp_eq (tgt := 32) hx hb dX6_beginsClause_6 (by decide) (fun c_2 => ?_) (fun c_2 => ?_)
    · have hw := hc_2t c_2
      clear hc_2t hc_2f
      refine lv_iconst (v := 1) hx hb dX6_beginsClause_32 (by decide) ?_
      refine lv_goto (tgt := 37) hx hb dX6_beginsClause_33 (by decide) ?_
      exact W.zret (v := 1) hx hb hr (by decide +kernel) (fun t ht hW => ⟨⟨1, S, rfl, hw, by rw [ht]; exact hP, va_K.moved hW.alike hK, hD⟩, hS.F ht⟩) hS.2.2 dX6_beginsClause_37
    · have hw := hc_2f c_2
      clear hc_2t hc_2f
      refine lv_iload_n hx hb dX6_beginsClause_9 rfl (lv_at hl 0 rfl) ?_
      refine lv_iconst (v := 5) hx hb dX6_beginsClause_10 (by decide) ?_
      obtain ⟨hc_3t, hc_3f⟩ := hw
      refine lv_icmp_eq (tgt := 32) hx hb dX6_beginsClause_11 (by decide) (fun c_3 => ?_) (fun c_3 => ?_)
      · have hw := hc_3t c_3
        clear hc_3t hc_3f
        refine lv_iconst (v := 1) hx hb dX6_beginsClause_32 (by decide) ?_
        refine lv_goto (tgt := 37) hx hb dX6_beginsClause_33 (by decide) ?_
        exact W.zret (v := 1) hx hb hr (by decide +kernel) (fun t ht hW => ⟨⟨1, S, rfl, hw, by rw [ht]; exact hP, va_K.moved hW.alike hK, hD⟩, hS.F ht⟩) hS.2.2 dX6_beginsClause_37
      · have hw := hc_3f c_3
        clear hc_3t hc_3f
        refine lv_iload_n hx hb dX6_beginsClause_14 rfl (lv_at hl 0 rfl) ?_
        refine lv_bipush (v := 9) hx hb dX6_beginsClause_15 (by decide) ?_
        obtain ⟨hc_4t, hc_4f⟩ := hw
        refine lv_icmp_eq (tgt := 32) hx hb dX6_beginsClause_17 (by decide) (fun c_4 => ?_) (fun c_4 => ?_)
        · have hw := hc_4t c_4
          clear hc_4t hc_4f
          refine lv_iconst (v := 1) hx hb dX6_beginsClause_32 (by decide) ?_
          refine lv_goto (tgt := 37) hx hb dX6_beginsClause_33 (by decide) ?_
          exact W.zret (v := 1) hx hb hr (by decide +kernel) (fun t ht hW => ⟨⟨1, S, rfl, hw, by rw [ht]; exact hP, va_K.moved hW.alike hK, hD⟩, hS.F ht⟩) hS.2.2 dX6_beginsClause_37
        · have hw := hc_4f c_4
          clear hc_4t hc_4f
          refine lv_iload_n hx hb dX6_beginsClause_20 rfl (lv_at hl 0 rfl) ?_
          refine lv_bipush (v := 12) hx hb dX6_beginsClause_21 (by decide) ?_
          obtain ⟨hc_5t, hc_5f⟩ := hw
          refine lv_icmp_lt (tgt := 36) hx hb dX6_beginsClause_23 (by decide) (fun c_5 => ?_) (fun c_5 => ?_)
          · have hw := hc_5t c_5
            clear hc_5t hc_5f
            refine lv_iconst (v := 0) hx hb dX6_beginsClause_36 (by decide) ?_
            exact W.zret (v := 0) hx hb hr (by decide +kernel) (fun t ht hW => ⟨⟨0, S, rfl, hw, by rw [ht]; exact hP, va_K.moved hW.alike hK, hD⟩, hS.F ht⟩) hS.2.2 dX6_beginsClause_37
          · have hw := hc_5f c_5
            clear hc_5t hc_5f
            refine lv_iload_n hx hb dX6_beginsClause_26 rfl (lv_at hl 0 rfl) ?_
            refine lv_bipush (v := 17) hx hb dX6_beginsClause_27 (by decide) ?_
            obtain ⟨hc_6t, hc_6f⟩ := hw
            refine lv_icmp_gt (tgt := 36) hx hb dX6_beginsClause_29 (by decide) (fun c_6 => ?_) (fun c_6 => ?_)
            · have hw := hc_6t c_6
              clear hc_6t hc_6f
              refine lv_iconst (v := 0) hx hb dX6_beginsClause_36 (by decide) ?_
              exact W.zret (v := 0) hx hb hr (by decide +kernel) (fun t ht hW => ⟨⟨0, S, rfl, hw, by rw [ht]; exact hP, va_K.moved hW.alike hK, hD⟩, hS.F ht⟩) hS.2.2 dX6_beginsClause_37
            · have hw := hc_6f c_6
              clear hc_6t hc_6f
              refine lv_iconst (v := 1) hx hb dX6_beginsClause_32 (by decide) ?_
              refine lv_goto (tgt := 37) hx hb dX6_beginsClause_33 (by decide) ?_
              exact W.zret (v := 1) hx hb hr (by decide +kernel) (fun t ht hW => ⟨⟨1, S, rfl, hw, by rw [ht]; exact hP, va_K.moved hW.alike hK, hD⟩, hS.F ht⟩) hS.2.2 dX6_beginsClause_37
