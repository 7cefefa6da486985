def wC_X11_bears (p1 : Int32) (S : CS) (post : Int32 → CS → Prop) : Prop := ((p1 = 0 → wC_X0_leastErrors S (fun r_1 S_2 => post r_1 S_2)) ∧ (p1 = 1 → wC_X0_leastBorne S (fun r_4 S_5 => post r_4 S_5)) ∧ (p1 = 2 → wC_X0_greatestBorne S (fun r_7 S_8 => post r_7 S_8)) ∧ (¬ p1 = 0 → ¬ p1 = 1 → ¬ p1 = 2 → post (-2) S))
set_option maxHeartbeats 4000000 in
set_option maxRecDepth 100000 in
theorem cC_X11_bears (l : Launch) (D : va_G) (h : Nat → Nat) (cy : Nat → ClassId) (p1 : Int32) (S : CS) (post : Int32 → CS → Prop) (hw : wC_X11_bears p1 S post) : e_Mi nxE l yX11_bears wsX11_bears { frames := 4, cells := 0, slots := 0, locals := 91 } D (tyC cy) (wC h cy) [.ref (h 0), .int p1] S post := by
  intro sz
  refine Met.ofW (cc := cX11_bears) (maxL := 2) (ret := (some .int)) (by decide) rfl ?_
  intro p e s m args below meth c s₁ B hml hv
  obtain ⟨rfl, hsz, hP, hK, hD0, hs⟩ := hv
  have hx := B.exec
  have hb := B.bytes
  have hr := B.returns
  have hts := atoms_spec (ws := wsX11_bears) B.pre
  have hown : s.vm.findClass RX11 = some m.cls := findClass_of_methodNamed B.named
  have hlocks := B.notSynchronized
  subst hsz
  have hD := hD0.self (sz := s.heap.size)
  generalize hAe : va_A (wC h cy S) s.heap.size = A at hD ⊢
  have hA : ∀ q : Nat, s.heap.size ≤ q → A q := fun q h => by rw [← hAe]; exact Or.inr h
  have hS : va_S A s.heap s.heap [] := va_S.rf
  have hin11 : ∀ w ∈ wsX110, w ∈ wsX11_bears := fun _ h => List.mem_cons_of_mem _ (List.mem_append_left _ (List.mem_append_right _ h))
  have hin0 : ∀ w ∈ wsX00, w ∈ wsX11_bears := fun _ h => List.mem_cons_of_mem _ (List.mem_append_right _ h)
  have w10 := hts (.fieldLink RX11 10 "ClownsMourn" "city" "LClownsMourn$City;") (List.mem_of_getElem? (i := 1) rfl)
  have hl := lv_entry ([.ref (h 0), .int p1]) (n := 2) (Nat.le_of_ble_eq_true rfl)
  rw [lg_entry_eq]
  generalize (lg_sl ([.ref (h 0), .int p1]) ++ List.replicate (2 - (lg_sl ([.ref (h 0), .int p1])).length) Slot.unset).toArray = ls at hl ⊢
  have hl : lv_has ls 2 [(0, .ref (h 0)), (1, .int p1)] := hl
  unfold wC_X11_bears at hw
  clear hD0
  refine lv_iload_n hx hb dX11_bears_0 rfl (lv_at hl 1 rfl) ?_
  obtain ⟨hc_3, hw⟩ := hw
  by_cases c_3 : p1 = 0
  · have hw := hc_3 c_3
    refine lv_tableIn (off := 27) (tgt := 28) hx hb dX11_bears_1 (by rw [c_3]; decide) (by rw [c_3]; decide) (by rw [c_3]; rfl) (by decide) ?_
    refine lv_aload_n hx hb dX11_bears_28 rfl (lv_at hl 0 rfl) ?_
    refine va_get (D := D) (ci := 10) (v := .ref (h 1)) (C := RX11) (T := TX11) (N := 9) hx hb hts hin11 hown hK hP 0 rfl rfl 0 (by decide) w10 (fun _ h9 => h9) rfl dX11_bears_29 ?_
    refine e_callVi (As := []) (rest := []) nxE_stable hs ⟨hx, hb, hml, hown, hts⟩ (cC_X0_leastErrors l D h cy _ _ hw) (cwV 0 hts gX11_bears_X0_leastErrors rfl rfl rfl (by decide +kernel) ⟨Nat.le_of_ble_eq_true rfl, Nat.le_of_ble_eq_true rfl⟩) (va_recv hK hP (ci := 0) (q0 := 1) rfl rfl) hK hP hD hS hA rfl hl.1 rfl (Nat.le_of_ble_eq_true rfl) dX11_bears_32 ⟨Nat.zero_le _, Nat.zero_le _⟩ (fun r_1 S_2 H locs hw hP hD hS => ?_)
    exact W.iret (v := r_1) hx hb hr (fun t ht hW => ⟨⟨r_1, S_2, rfl, hw, by rw [ht]; exact hP, va_K.moved hW.alike hK, hD⟩, hS.F ht⟩) hS.2.2 dX11_bears_35
  obtain ⟨hc_6, hw⟩ := hw
  by_cases c_6 : p1 = 1
  · have hw := hc_6 c_6
    refine lv_tableIn (off := 35) (tgt := 36) hx hb dX11_bears_1 (by rw [c_6]; decide) (by rw [c_6]; decide) (by rw [c_6]; rfl) (by decide) ?_
    refine lv_aload_n hx hb dX11_bears_36 rfl (lv_at hl 0 rfl) ?_
    refine va_get (D := D) (ci := 10) (v := .ref (h 1)) (C := RX11) (T := TX11) (N := 9) hx hb hts hin11 hown hK hP 0 rfl rfl 0 (by decide) w10 (fun _ h9 => h9) rfl dX11_bears_37 ?_
    refine e_callVi (As := []) (rest := []) nxE_stable hs ⟨hx, hb, hml, hown, hts⟩ (cC_X0_leastBorne l D h cy _ _ hw) (cwV 0 hts gX11_bears_X0_leastBorne rfl rfl rfl (by decide +kernel) ⟨Nat.le_of_ble_eq_true rfl, Nat.le_of_ble_eq_true rfl⟩) (va_recv hK hP (ci := 0) (q0 := 1) rfl rfl) hK hP hD hS hA rfl hl.1 rfl (Nat.le_of_ble_eq_true rfl) dX11_bears_40 ⟨Nat.zero_le _, Nat.zero_le _⟩ (fun r_4 S_5 H locs hw hP hD hS => ?_)
    exact W.iret (v := r_4) hx hb hr (fun t ht hW => ⟨⟨r_4, S_5, rfl, hw, by rw [ht]; exact hP, va_K.moved hW.alike hK, hD⟩, hS.F ht⟩) hS.2.2 dX11_bears_43
  obtain ⟨hc_9, hw⟩ := hw
  by_cases c_9 : p1 = 2
  · have hw := hc_9 c_9
    refine lv_tableIn (off := 43) (tgt := 44) hx hb dX11_bears_1 (by rw [c_9]; decide) (by rw [c_9]; decide) (by rw [c_9]; rfl) (by decide) ?_
    refine lv_aload_n hx hb dX11_bears_44 rfl (lv_at hl 0 rfl) ?_
    refine va_get (D := D) (ci := 10) (v := .ref (h 1)) (C := RX11) (T := TX11) (N := 9) hx hb hts hin11 hown hK hP 0 rfl rfl 0 (by decide) w10 (fun _ h9 => h9) rfl dX11_bears_45 ?_
    refine e_callVi (As := []) (rest := []) nxE_stable hs ⟨hx, hb, hml, hown, hts⟩ (cC_X0_greatestBorne l D h cy _ _ hw) (cwV 0 hts gX11_bears_X0_greatestBorne rfl rfl rfl (by decide +kernel) ⟨Nat.le_of_ble_eq_true rfl, Nat.le_of_ble_eq_true rfl⟩) (va_recv hK hP (ci := 0) (q0 := 1) rfl rfl) hK hP hD hS hA rfl hl.1 rfl (Nat.le_of_ble_eq_true rfl) dX11_bears_48 ⟨Nat.zero_le _, Nat.zero_le _⟩ (fun r_7 S_8 H locs hw hP hD hS => ?_)
    exact W.iret (v := r_7) hx hb hr (fun t ht hW => ⟨⟨r_7, S_8, rfl, hw, by rw [ht]; exact hP, va_K.moved hW.alike hK, hD⟩, hS.F ht⟩) hS.2.2 dX11_bears_51
  have hw := hw c_3 c_6 c_9
  have c_3n := lv_neT c_3 (a := 0) (by decide)
  have c_6n := lv_neT c_6 (a := 1) (by decide)
  have c_9n := lv_neT c_9 (a := 2) (by decide)
  refine lv_tableOut (tgt := 52) hx hb dX11_bears_1 (by omega) (by decide) ?_
  refine lv_bipush (v := (-2)) hx hb dX11_bears_52 (by decide) ?_
  exact W.iret (v := (-2)) hx hb hr (fun t ht hW => ⟨⟨(-2), S, rfl, hw, by rw [ht]; exact hP, va_K.moved hW.alike hK, hD⟩, hS.F ht⟩) hS.2.2 dX11_bears_54
def wC_X11_next_97 (post : Int32 → CS → Prop) (K71 : Int32 → Int32 → Int32 → Int32 → Int32 → Int32 → Int32 → CS → Prop) (x1 : Int32) (x2 : Int32) (x3 : Int32) (x4 : Int32) (x5 : Int32) (x7 : Int32) (t0 : Int32) (t1 : Int32) (S : CS) : Prop := (((t0 - t1) ≤ 0 → K71 x1 x2 x3 x4 x5 (t0 - t1) (x7 + 1) S) ∧ (¬ ((t0 - t1) ≤ 0) → ((x3 ≤ (t0 - t1) → K71 x1 x2 x3 x4 x5 (t0 - t1) (x7 + 1) S) ∧ (¬ (x3 ≤ (t0 - t1)) → ((x4 = (-1) → K71 x1 x2 x3 x7 (if 0 ≤ ((2 * (t0 - t1)) - x3) then ((2 * (t0 - t1)) - x3) else 0 - ((2 * (t0 - t1)) - x3)) (t0 - t1) (x7 + 1) S) ∧ (¬ (x4 = (-1)) → ((x5 ≤ (if 0 ≤ ((2 * (t0 - t1)) - x3) then ((2 * (t0 - t1)) - x3) else 0 - ((2 * (t0 - t1)) - x3)) → K71 x1 x2 x3 x4 x5 (t0 - t1) (x7 + 1) S) ∧ (¬ (x5 ≤ (if 0 ≤ ((2 * (t0 - t1)) - x3) then ((2 * (t0 - t1)) - x3) else 0 - ((2 * (t0 - t1)) - x3))) → K71 x1 x2 x3 x7 (if 0 ≤ ((2 * (t0 - t1)) - x3) then ((2 * (t0 - t1)) - x3) else 0 - ((2 * (t0 - t1)) - x3)) (t0 - t1) (x7 + 1) S))))))))
def wC_X11_next_71 (post : Int32 → CS → Prop) : Nat → Int32 → Int32 → Int32 → Int32 → Int32 → Int32 → Int32 → CS → Prop
  | 0, _, _, _, _, _, _, _, _ => False
  | n + 1, x1, x2, x3, x4, x5, x6, x7, S => ((x1 < x7 → post x4 S) ∧ (¬ (x1 < x7) → wC_X0_errorsAt x7 S (fun r_2 S_3 => ((r_2 = x2 → wC_X11_next_97 post (wC_X11_next_71 post n) x1 x2 x3 x4 x5 x7 x6 1 S_3) ∧ (¬ (r_2 = x2) → wC_X11_next_97 post (wC_X11_next_71 post n) x1 x2 x3 x4 x5 x7 x6 0 S_3)))))
def wC_X11_next_25 (post : Int32 → CS → Prop) : Nat → Int32 → Int32 → Int32 → Int32 → CS → Prop
  | 0, _, _, _, _, _ => False
  | n + 1, x1, x2, x3, x4, S => ((100 < x4 → ∃ k_ : Nat, wC_X11_next_71 post k_ x1 x2 x3 (-1) 0 x3 0 S) ∧ (¬ (100 < x4) → wC_X0_errorsAt x4 S (fun r_2 S_3 => ((r_2 = x2 → wC_X11_next_25 post n x1 x2 (x3 + 1) (x4 + 1) S_3) ∧ (¬ (r_2 = x2) → wC_X11_next_25 post n x1 x2 (x3 + 0) (x4 + 1) S_3)))))
def wC_X11_next (p1 : Int32) (S : CS) (post : Int32 → CS → Prop) : Prop := wC_X11_within p1 0 99 S (fun r_1 S_2 => ((r_1 = 0 → post (-1) S_2) ∧ (¬ (r_1 = 0) → wC_X0_leastErrors S_2 (fun r_4 S_5 => ∃ k_ : Nat, wC_X11_next_25 post k_ p1 r_4 0 0 S_5))))
set_option maxHeartbeats 4000000 in
set_option maxRecDepth 100000 in
theorem cC_X11_next (l : Launch) (D : va_G) (h : Nat → Nat) (cy : Nat → ClassId) (p1 : Int32) (S : CS) (post : Int32 → CS → Prop) (hw : wC_X11_next p1 S post) : e_Mi nxE l yX11_next wsX11_next { frames := 3, cells := 0, slots := 0, locals := 68 } D (tyC cy) (wC h cy) [.ref (h 0), .int p1] S post := by
  intro sz
  refine Met.ofW (cc := cX11_next) (maxL := 9) (ret := (some .int)) (by decide) rfl ?_
  intro p e s m args below meth c s₁ B hml hv
  obtain ⟨rfl, hsz, hP, hK, hD0, hs⟩ := hv
  have hx := B.exec
  have hb := B.bytes
  have hr := B.returns
  have hts := atoms_spec (ws := wsX11_next) B.pre
  have hown : s.vm.findClass RX11 = some m.cls := findClass_of_methodNamed B.named
  have hlocks := B.notSynchronized
  subst hsz
  have hD := hD0.self (sz := s.heap.size)
  generalize hAe : va_A (wC h cy S) s.heap.size = A at hD ⊢
  have hA : ∀ q : Nat, s.heap.size ≤ q → A q := fun q h => by rw [← hAe]; exact Or.inr h
  have hS : va_S A s.heap s.heap [] := va_S.rf
  have hin11 : ∀ w ∈ wsX110, w ∈ wsX11_next := fun _ h => List.mem_cons_of_mem _ (List.mem_append_left _ (List.mem_append_right _ h))
  have hin0 : ∀ w ∈ wsX00, w ∈ wsX11_next := fun _ h => List.mem_cons_of_mem _ (List.mem_append_right _ h)
  have w10 := hts (.fieldLink RX11 10 "ClownsMourn" "city" "LClownsMourn$City;") (List.mem_of_getElem? (i := 1) rfl)
  have wm304 := hts (.methodLink RX11 304 Lib.Math.abs.name) (List.mem_of_getElem? (i := 2) rfl)
  have wsabs := hts (.static Lib.Math.abs.name) (List.mem_of_getElem? (i := 3) rfl)
  have wcdabs := hts (.code Lib.Math.abs.name Lib.Math.abs.code 1 (some .int)) (List.mem_of_getElem? (i := 5) rfl)
  have wiM := hts (.initialized "java/lang/Math") (List.mem_of_getElem? (i := 4) rfl)
  have hl := lv_entry ([.ref (h 0), .int p1]) (n := 9) (Nat.le_of_ble_eq_true rfl)
  rw [lg_entry_eq]
  generalize (lg_sl ([.ref (h 0), .int p1]) ++ List.replicate (9 - (lg_sl ([.ref (h 0), .int p1])).length) Slot.unset).toArray = ls at hl ⊢
  have hl : lv_has ls 9 [(0, .ref (h 0)), (1, .int p1)] := hl
  unfold wC_X11_next at hw
  clear hD0
  have L_71 : ∀ (n71 : Nat) (x1 : Int32) (x2 : Int32) (x3 : Int32) (x4 : Int32) (x5 : Int32) (x6 : Int32) (x7 : Int32) (S : CS) (H : Heap) (locs : List Loc) (ls : Array Slot), wC_X11_next_71 post n71 x1 x2 x3 x4 x5 x6 x7 S → va_P D vwCl (wC h cy S) H → va_D A (wC h cy S) → va_S A s.heap H locs → lv_has ls 9 [(0, .ref (h 0)), (1, .int x1), (2, .int x2), (3, .int x3), (4, .int x4), (5, .int x5), (6, .int x6), (7, .int x7)] → W p l e (headSpec wsX11_next { frames := 3, cells := 0, slots := 0, locals := 68 }).room s m (([.ref (h 0), .int p1] : List Value).toArray) below meth c H locs 0 0 (MQ below (va_Qi post (k_Post D (tyC cy) (wC h cy) A) A) (([.ref (h 0), .int p1] : List Value).toArray) s 0 0 A) (F0 m 71 ls []) := by
    intro n71
    induction n71 with
    | zero => intro x1 x2 x3 x4 x5 x6 x7 S H locs ls hw; exact False.elim hw
    | succ n71 ih_71 =>
      have J_97 : ∀ (x1 : Int32) (x2 : Int32) (x3 : Int32) (x4 : Int32) (x5 : Int32) (x7 : Int32) (t0 : Int32) (t1 : Int32) (S : CS) (H : Heap) (locs : List Loc) (ls : Array Slot), wC_X11_next_97 post (wC_X11_next_71 post n71) x1 x2 x3 x4 x5 x7 t0 t1 S → va_P D vwCl (wC h cy S) H → va_D A (wC h cy S) → va_S A s.heap H locs → lv_has ls 9 [(0, .ref (h 0)), (1, .int x1), (2, .int x2), (3, .int x3), (4, .int x4), (5, .int x5), (7, .int x7)] → W p l e (headSpec wsX11_next { frames := 3, cells := 0, slots := 0, locals := 68 }).room s m (([.ref (h 0), .int p1] : List Value).toArray) below meth c H locs 0 0 (MQ below (va_Qi post (k_Post D (tyC cy) (wC h cy) A) A) (([.ref (h 0), .int p1] : List Value).toArray) s 0 0 A) (F0 m 97 ls [.int t1, .int t0]) := by
        intro x1 x2 x3 x4 x5 x7 t0 t1 S H locs ls hw hP hD hS hl
        unfold wC_X11_next_97 at hw
        refine lv_isub hx hb dX11_next_97 ?_
        refine lv_istore (lv' := [(6, .int (t0 - t1)), (0, .ref (h 0)), (1, .int x1), (2, .int x2), (3, .int x3), (4, .int x4), (5, .int x5), (7, .int x7)]) hx hb dX11_next_98 hl (by decide) rfl (fun ls hl => ?_)
        refine lv_iconst (v := 2) hx hb dX11_next_100 (by decide) ?_
        refine lv_iload hx hb dX11_next_101 (lv_at hl 0 rfl) ?_
        refine lv_imul hx hb dX11_next_103 ?_
        refine lv_iload_n hx hb dX11_next_104 rfl (lv_at hl 4 rfl) ?_
        refine lv_isub hx hb dX11_next_105 ?_
        refine va_mabs (own := RX11) (index := 304) hx hb (hml.trans hl.1.symm) hown wm304 wsabs wiM wcdabs (Nat.le_of_ble_eq_true rfl) (Nat.le_of_ble_eq_true rfl) (Nat.zero_le _) (Nat.zero_le _) dX11_next_106 ?_
        refine lv_istore (lv' := [(8, .int (if 0 ≤ ((2 * (t0 - t1)) - x3) then ((2 * (t0 - t1)) - x3) else 0 - ((2 * (t0 - t1)) - x3))), (6, .int (t0 - t1)), (0, .ref (h 0)), (1, .int x1), (2, .int x2), (3, .int x3), (4, .int x4), (5, .int x5), (7, .int x7)]) hx hb dX11_next_109 hl (by decide) rfl (fun ls hl => ?_)
        refine lv_iload hx hb dX11_next_111 (lv_at hl 1 rfl) ?_
        obtain ⟨hc_1t, hc_1f⟩ := hw
        refine lv_if_le (tgt := 143) hx hb dX11_next_113 (by decide) (fun c_1 => ?_) (fun c_1 => ?_)
        · have hw := hc_1t c_1
          clear hc_1t hc_1f
          refine lv_iinc (v := x7 + 1) (lv' := [(7, .int (x7 + 1)), (8, .int (if 0 ≤ ((2 * (t0 - t1)) - x3) then ((2 * (t0 - t1)) - x3) else 0 - ((2 * (t0 - t1)) - x3))), (6, .int (t0 - t1)), (0, .ref (h 0)), (1, .int x1), (2, .int x2), (3, .int x3), (4, .int x4), (5, .int x5)]) hx hb dX11_next_143 hl (k := 8) rfl (k_inc (by decide)) (by decide) rfl (fun ls hl => ?_)
          refine lv_goto (tgt := 71) hx hb dX11_next_146 (by decide) ?_
          exact ih_71 x1 x2 x3 x4 x5 (t0 - t1) (x7 + 1) S _ _ _ hw hP hD hS (lv_sub hl [3, 4, 5, 6, 7, 8, 2, 0] rfl)
        · have hw := hc_1f c_1
          clear hc_1t hc_1f
          refine lv_iload hx hb dX11_next_116 (lv_at hl 1 rfl) ?_
          refine lv_iload_n hx hb dX11_next_118 rfl (lv_at hl 5 rfl) ?_
          obtain ⟨hc_2t, hc_2f⟩ := hw
          refine lv_icmp_ge (tgt := 143) hx hb dX11_next_119 (by decide) (fun c_2 => ?_) (fun c_2 => ?_)
          · have hw := hc_2t c_2
            clear hc_2t hc_2f
            refine lv_iinc (v := x7 + 1) (lv' := [(7, .int (x7 + 1)), (8, .int (if 0 ≤ ((2 * (t0 - t1)) - x3) then ((2 * (t0 - t1)) - x3) else 0 - ((2 * (t0 - t1)) - x3))), (6, .int (t0 - t1)), (0, .ref (h 0)), (1, .int x1), (2, .int x2), (3, .int x3), (4, .int x4), (5, .int x5)]) hx hb dX11_next_143 hl (k := 8) rfl (k_inc (by decide)) (by decide) rfl (fun ls hl => ?_)
            refine lv_goto (tgt := 71) hx hb dX11_next_146 (by decide) ?_
            exact ih_71 x1 x2 x3 x4 x5 (t0 - t1) (x7 + 1) S _ _ _ hw hP hD hS (lv_sub hl [3, 4, 5, 6, 7, 8, 2, 0] rfl)
          · have hw := hc_2f c_2
            clear hc_2t hc_2f
            refine lv_iload hx hb dX11_next_122 (lv_at hl 6 rfl) ?_
            refine lv_iconst (v := (-1)) hx hb dX11_next_124 (by decide) ?_
            obtain ⟨hc_3t, hc_3f⟩ := hw
            refine lv_icmp_eq (tgt := 135) hx hb dX11_next_125 (by decide) (fun c_3 => ?_) (fun c_3 => ?_)
            · have hw := hc_3t c_3
              clear hc_3t hc_3f
              refine lv_iload hx hb dX11_next_135 (lv_at hl 8 rfl) ?_
              refine lv_istore (lv' := [(4, .int x7), (8, .int (if 0 ≤ ((2 * (t0 - t1)) - x3) then ((2 * (t0 - t1)) - x3) else 0 - ((2 * (t0 - t1)) - x3))), (6, .int (t0 - t1)), (0, .ref (h 0)), (1, .int x1), (2, .int x2), (3, .int x3), (5, .int x5), (7, .int x7)]) hx hb dX11_next_137 hl (by decide) rfl (fun ls hl => ?_)
              refine lv_iload hx hb dX11_next_139 (lv_at hl 1 rfl) ?_
              refine lv_istore (lv' := [(5, .int (if 0 ≤ ((2 * (t0 - t1)) - x3) then ((2 * (t0 - t1)) - x3) else 0 - ((2 * (t0 - t1)) - x3))), (4, .int x7), (8, .int (if 0 ≤ ((2 * (t0 - t1)) - x3) then ((2 * (t0 - t1)) - x3) else 0 - ((2 * (t0 - t1)) - x3))), (6, .int (t0 - t1)), (0, .ref (h 0)), (1, .int x1), (2, .int x2), (3, .int x3), (7, .int x7)]) hx hb dX11_next_141 hl (by decide) rfl (fun ls hl => ?_)
              refine lv_iinc (v := x7 + 1) (lv' := [(7, .int (x7 + 1)), (5, .int (if 0 ≤ ((2 * (t0 - t1)) - x3) then ((2 * (t0 - t1)) - x3) else 0 - ((2 * (t0 - t1)) - x3))), (4, .int x7), (8, .int (if 0 ≤ ((2 * (t0 - t1)) - x3) then ((2 * (t0 - t1)) - x3) else 0 - ((2 * (t0 - t1)) - x3))), (6, .int (t0 - t1)), (0, .ref (h 0)), (1, .int x1), (2, .int x2), (3, .int x3)]) hx hb dX11_next_143 hl (k := 8) rfl (k_inc (by decide)) (by decide) rfl (fun ls hl => ?_)
              refine lv_goto (tgt := 71) hx hb dX11_next_146 (by decide) ?_
              exact ih_71 x1 x2 x3 x7 (if 0 ≤ ((2 * (t0 - t1)) - x3) then ((2 * (t0 - t1)) - x3) else 0 - ((2 * (t0 - t1)) - x3)) (t0 - t1) (x7 + 1) S _ _ _ hw hP hD hS (lv_sub hl [5, 6, 7, 8, 2, 1, 4, 0] rfl)
            · have hw := hc_3f c_3
              clear hc_3t hc_3f
              refine lv_iload hx hb dX11_next_128 (lv_at hl 0 rfl) ?_
              refine lv_iload hx hb dX11_next_130 (lv_at hl 7 rfl) ?_
              obtain ⟨hc_4t, hc_4f⟩ := hw
              refine lv_icmp_ge (tgt := 143) hx hb dX11_next_132 (by decide) (fun c_4 => ?_) (fun c_4 => ?_)
              · have hw := hc_4t c_4
                clear hc_4t hc_4f
                refine lv_iinc (v := x7 + 1) (lv' := [(7, .int (x7 + 1)), (8, .int (if 0 ≤ ((2 * (t0 - t1)) - x3) then ((2 * (t0 - t1)) - x3) else 0 - ((2 * (t0 - t1)) - x3))), (6, .int (t0 - t1)), (0, .ref (h 0)), (1, .int x1), (2, .int x2), (3, .int x3), (4, .int x4), (5, .int x5)]) hx hb dX11_next_143 hl (k := 8) rfl (k_inc (by decide)) (by decide) rfl (fun ls hl => ?_)
                refine lv_goto (tgt := 71) hx hb dX11_next_146 (by decide) ?_
                exact ih_71 x1 x2 x3 x4 x5 (t0 - t1) (x7 + 1) S _ _ _ hw hP hD hS (lv_sub hl [3, 4, 5, 6, 7, 8, 2, 0] rfl)
              · have hw := hc_4f c_4
                clear hc_4t hc_4f
                refine lv_iload hx hb dX11_next_135 (lv_at hl 8 rfl) ?_
                refine lv_istore (lv' := [(4, .int x7), (8, .int (if 0 ≤ ((2 * (t0 - t1)) - x3) then ((2 * (t0 - t1)) - x3) else 0 - ((2 * (t0 - t1)) - x3))), (6, .int (t0 - t1)), (0, .ref (h 0)), (1, .int x1), (2, .int x2), (3, .int x3), (5, .int x5), (7, .int x7)]) hx hb dX11_next_137 hl (by decide) rfl (fun ls hl => ?_)
                refine lv_iload hx hb dX11_next_139 (lv_at hl 1 rfl) ?_
                refine lv_istore (lv' := [(5, .int (if 0 ≤ ((2 * (t0 - t1)) - x3) then ((2 * (t0 - t1)) - x3) else 0 - ((2 * (t0 - t1)) - x3))), (4, .int x7), (8, .int (if 0 ≤ ((2 * (t0 - t1)) - x3) then ((2 * (t0 - t1)) - x3) else 0 - ((2 * (t0 - t1)) - x3))), (6, .int (t0 - t1)), (0, .ref (h 0)), (1, .int x1), (2, .int x2), (3, .int x3), (7, .int x7)]) hx hb dX11_next_141 hl (by decide) rfl (fun ls hl => ?_)
                refine lv_iinc (v := x7 + 1) (lv' := [(7, .int (x7 + 1)), (5, .int (if 0 ≤ ((2 * (t0 - t1)) - x3) then ((2 * (t0 - t1)) - x3) else 0 - ((2 * (t0 - t1)) - x3))), (4, .int x7), (8, .int (if 0 ≤ ((2 * (t0 - t1)) - x3) then ((2 * (t0 - t1)) - x3) else 0 - ((2 * (t0 - t1)) - x3))), (6, .int (t0 - t1)), (0, .ref (h 0)), (1, .int x1), (2, .int x2), (3, .int x3)]) hx hb dX11_next_143 hl (k := 8) rfl (k_inc (by decide)) (by decide) rfl (fun ls hl => ?_)
                refine lv_goto (tgt := 71) hx hb dX11_next_146 (by decide) ?_
                exact ih_71 x1 x2 x3 x7 (if 0 ≤ ((2 * (t0 - t1)) - x3) then ((2 * (t0 - t1)) - x3) else 0 - ((2 * (t0 - t1)) - x3)) (t0 - t1) (x7 + 1) S _ _ _ hw hP hD hS (lv_sub hl [5, 6, 7, 8, 2, 1, 4, 0] rfl)
      intro x1 x2 x3 x4 x5 x6 x7 S H locs ls hw hP hD hS hl
      unfold wC_X11_next_71 at hw
      refine lv_iload hx hb dX11_next_71 (lv_at hl 7 rfl) ?_
      refine lv_iload_n hx hb dX11_next_73 rfl (lv_at hl 1 rfl) ?_
      obtain ⟨hc_5t, hc_5f⟩ := hw
      refine lv_icmp_gt (tgt := 149) hx hb dX11_next_74 (by decide) (fun c_5 => ?_) (fun c_5 => ?_)
      · have hw := hc_5t c_5
        clear hc_5t hc_5f
        refine lv_iload hx hb dX11_next_149 (lv_at hl 4 rfl) ?_
        exact W.iret (v := x4) hx hb hr (fun t ht hW => ⟨⟨x4, S, rfl, hw, by rw [ht]; exact hP, va_K.moved hW.alike hK, hD⟩, hS.F ht⟩) hS.2.2 dX11_next_151
      · have hw := hc_5f c_5
        clear hc_5t hc_5f
        refine lv_iload hx hb dX11_next_77 (lv_at hl 6 rfl) ?_
        refine lv_aload_n hx hb dX11_next_79 rfl (lv_at hl 0 rfl) ?_
        refine va_get (D := D) (ci := 10) (v := .ref (h 1)) (C := RX11) (T := TX11) (N := 9) hx hb hts hin11 hown hK hP 0 rfl rfl 0 (by decide) w10 (fun _ h9 => h9) rfl dX11_next_80 ?_
        refine lv_iload hx hb dX11_next_83 (lv_at hl 7 rfl) ?_
        refine e_callVi (As := [.int x7]) (rest := [.int x6]) nxE_stable hs ⟨hx, hb, hml, hown, hts⟩ (cC_X0_errorsAt l D h cy _ _ _ hw) (cwV 1 hts gX11_next_X0_errorsAt rfl rfl rfl (by decide +kernel) ⟨Nat.le_of_ble_eq_true rfl, Nat.le_of_ble_eq_true rfl⟩) (va_recv hK hP (ci := 0) (q0 := 1) rfl rfl) hK hP hD hS hA rfl hl.1 rfl (Nat.le_of_ble_eq_true rfl) dX11_next_85 ⟨Nat.zero_le _, Nat.zero_le _⟩ (fun r_6 S_7 H locs hw hP hD hS => ?_)
        refine lv_iload_n hx hb dX11_next_88 rfl (lv_at hl 2 rfl) ?_
        obtain ⟨hc_8t, hc_8f⟩ := hw
        refine lv_icmp_ne (tgt := 96) hx hb dX11_next_89 (by decide) (fun c_8 => ?_) (fun c_8 => ?_)
        · have hw := hc_8f c_8
          clear hc_8t hc_8f
          refine lv_iconst (v := 0) hx hb dX11_next_96 (by decide) ?_
          exact J_97 x1 x2 x3 x4 x5 x7 x6 0 S_7 _ _ _ hw hP hD hS (lv_sub hl [0, 1, 2, 3, 4, 5, 7] rfl)
        · have hw := hc_8t c_8
          clear hc_8t hc_8f
          refine lv_iconst (v := 1) hx hb dX11_next_92 (by decide) ?_
          refine lv_goto (tgt := 97) hx hb dX11_next_93 (by decide) ?_
          exact J_97 x1 x2 x3 x4 x5 x7 x6 1 S_7 _ _ _ hw hP hD hS (lv_sub hl [0, 1, 2, 3, 4, 5, 7] rfl)
  have L_25 : ∀ (n25 : Nat) (x1 : Int32) (x2 : Int32) (x3 : Int32) (x4 : Int32) (S : CS) (H : Heap) (locs : List Loc) (ls : Array Slot), wC_X11_next_25 post n25 x1 x2 x3 x4 S → va_P D vwCl (wC h cy S) H → va_D A (wC h cy S) → va_S A s.heap H locs → lv_has ls 9 [(0, .ref (h 0)), (1, .int x1), (2, .int x2), (3, .int x3), (4, .int x4)] → W p l e (headSpec wsX11_next { frames := 3, cells := 0, slots := 0, locals := 68 }).room s m (([.ref (h 0), .int p1] : List Value).toArray) below meth c H locs 0 0 (MQ below (va_Qi post (k_Post D (tyC cy) (wC h cy) A) A) (([.ref (h 0), .int p1] : List Value).toArray) s 0 0 A) (F0 m 25 ls []) := by
    intro n25
    induction n25 with
    | zero => intro x1 x2 x3 x4 S H locs ls hw; exact False.elim hw
    | succ n25 ih_25 =>
      intro x1 x2 x3 x4 S H locs ls hw hP hD hS hl
      unfold wC_X11_next_25 at hw
      refine lv_iload hx hb dX11_next_25 (lv_at hl 4 rfl) ?_
      refine lv_bipush (v := 100) hx hb dX11_next_27 (by decide) ?_
      obtain ⟨hc_9t, hc_9f⟩ := hw
      refine lv_icmp_gt (tgt := 59) hx hb dX11_next_29 (by decide) (fun c_9 => ?_) (fun c_9 => ?_)
      · have hw := hc_9t c_9
        clear hc_9t hc_9f
        refine lv_iconst (v := (-1)) hx hb dX11_next_59 (by decide) ?_
        refine lv_istore (lv' := [(4, .int (-1)), (0, .ref (h 0)), (1, .int x1), (2, .int x2), (3, .int x3)]) hx hb dX11_next_60 hl (by decide) rfl (fun ls hl => ?_)
        refine lv_iconst (v := 0) hx hb dX11_next_62 (by decide) ?_
        refine lv_istore (lv' := [(5, .int 0), (4, .int (-1)), (0, .ref (h 0)), (1, .int x1), (2, .int x2), (3, .int x3)]) hx hb dX11_next_63 hl (by decide) rfl (fun ls hl => ?_)
        refine lv_iload_n hx hb dX11_next_65 rfl (lv_at hl 5 rfl) ?_
        refine lv_istore (lv' := [(6, .int x3), (5, .int 0), (4, .int (-1)), (0, .ref (h 0)), (1, .int x1), (2, .int x2), (3, .int x3)]) hx hb dX11_next_66 hl (by decide) rfl (fun ls hl => ?_)
        refine lv_iconst (v := 0) hx hb dX11_next_68 (by decide) ?_
        refine lv_istore (lv' := [(7, .int 0), (6, .int x3), (5, .int 0), (4, .int (-1)), (0, .ref (h 0)), (1, .int x1), (2, .int x2), (3, .int x3)]) hx hb dX11_next_69 hl (by decide) rfl (fun ls hl => ?_)
        obtain ⟨n_71, hw⟩ := hw
        exact L_71 n_71 x1 x2 x3 (-1) 0 x3 0 S _ _ _ hw hP hD hS (lv_sub hl [4, 5, 6, 7, 3, 2, 1, 0] rfl)
      · have hw := hc_9f c_9
        clear hc_9t hc_9f
        refine lv_iload_n hx hb dX11_next_32 rfl (lv_at hl 3 rfl) ?_
        refine lv_aload_n hx hb dX11_next_33 rfl (lv_at hl 0 rfl) ?_
        refine va_get (D := D) (ci := 10) (v := .ref (h 1)) (C := RX11) (T := TX11) (N := 9) hx hb hts hin11 hown hK hP 0 rfl rfl 0 (by decide) w10 (fun _ h9 => h9) rfl dX11_next_34 ?_
        refine lv_iload hx hb dX11_next_37 (lv_at hl 4 rfl) ?_
        refine e_callVi (As := [.int x4]) (rest := [.int x3]) nxE_stable hs ⟨hx, hb, hml, hown, hts⟩ (cC_X0_errorsAt l D h cy _ _ _ hw) (cwV 1 hts gX11_next_X0_errorsAt rfl rfl rfl (by decide +kernel) ⟨Nat.le_of_ble_eq_true rfl, Nat.le_of_ble_eq_true rfl⟩) (va_recv hK hP (ci := 0) (q0 := 1) rfl rfl) hK hP hD hS hA rfl hl.1 rfl (Nat.le_of_ble_eq_true rfl) dX11_next_39 ⟨Nat.zero_le _, Nat.zero_le _⟩ (fun r_10 S_11 H locs hw hP hD hS => ?_)
        refine lv_iload_n hx hb dX11_next_42 rfl (lv_at hl 2 rfl) ?_
        obtain ⟨hc_12t, hc_12f⟩ := hw
        refine lv_icmp_ne (tgt := 50) hx hb dX11_next_43 (by decide) (fun c_12 => ?_) (fun c_12 => ?_)
        · have hw := hc_12f c_12
          clear hc_12t hc_12f
          refine lv_iconst (v := 0) hx hb dX11_next_50 (by decide) ?_
          refine lv_iadd hx hb dX11_next_51 ?_
          refine lv_istore_n (lv' := [(3, .int (x3 + 0)), (0, .ref (h 0)), (1, .int x1), (2, .int x2), (4, .int x4)]) hx hb dX11_next_52 rfl hl (by decide) rfl (fun ls hl => ?_)
          refine lv_iinc (v := x4 + 1) (lv' := [(4, .int (x4 + 1)), (3, .int (x3 + 0)), (0, .ref (h 0)), (1, .int x1), (2, .int x2)]) hx hb dX11_next_53 hl (k := 4) rfl (k_inc (by decide)) (by decide) rfl (fun ls hl => ?_)
          refine lv_goto (tgt := 25) hx hb dX11_next_56 (by decide) ?_
          exact ih_25 x1 x2 (x3 + 0) (x4 + 1) S_11 _ _ _ hw hP hD hS (lv_sub hl [2, 3, 4, 1, 0] rfl)
        · have hw := hc_12t c_12
          clear hc_12t hc_12f
          refine lv_iconst (v := 1) hx hb dX11_next_46 (by decide) ?_
          refine lv_goto (tgt := 51) hx hb dX11_next_47 (by decide) ?_
          refine lv_iadd hx hb dX11_next_51 ?_
          refine lv_istore_n (lv' := [(3, .int (x3 + 1)), (0, .ref (h 0)), (1, .int x1), (2, .int x2), (4, .int x4)]) hx hb dX11_next_52 rfl hl (by decide) rfl (fun ls hl => ?_)
          refine lv_iinc (v := x4 + 1) (lv' := [(4, .int (x4 + 1)), (3, .int (x3 + 1)), (0, .ref (h 0)), (1, .int x1), (2, .int x2)]) hx hb dX11_next_53 hl (k := 4) rfl (k_inc (by decide)) (by decide) rfl (fun ls hl => ?_)
          refine lv_goto (tgt := 25) hx hb dX11_next_56 (by decide) ?_
          exact ih_25 x1 x2 (x3 + 1) (x4 + 1) S_11 _ _ _ hw hP hD hS (lv_sub hl [2, 3, 4, 1, 0] rfl)
  refine lv_iload_n hx hb dX11_next_0 rfl (lv_at hl 1 rfl) ?_
  refine lv_iconst (v := 0) hx hb dX11_next_1 (by decide) ?_
  refine lv_bipush (v := 99) hx hb dX11_next_2 (by decide) ?_
  refine e_callSi (As := [.int p1, .int 0, .int 99]) (rest := []) nxE_stable hs ⟨hx, hb, hml, hown, hts⟩ (cC_X11_within l D h cy _ _ _ _ _ hw) (va_cwS 3 hts gX11_next_X11_within rfl rfl rfl (by decide +kernel) ⟨Nat.le_of_ble_eq_true rfl, Nat.le_of_ble_eq_true rfl⟩) hK hP hD hS hA rfl hl.1 rfl (Nat.le_of_ble_eq_true rfl) dX11_next_4 ⟨Nat.zero_le _, Nat.zero_le _⟩ (fun r_13 S_14 H locs hw hP hD hS => ?_)
  obtain ⟨hc_15t, hc_15f⟩ := hw
  refine lv_if_ne (tgt := 12) hx hb dX11_next_7 (by decide) (fun c_15 => ?_) (fun c_15 => ?_)
  · have hw := hc_15f c_15
    clear hc_15t hc_15f
    refine lv_aload_n hx hb dX11_next_12 rfl (lv_at hl 0 rfl) ?_
    refine va_get (D := D) (ci := 10) (v := .ref (h 1)) (C := RX11) (T := TX11) (N := 9) hx hb hts hin11 hown hK hP 0 rfl rfl 0 (by decide) w10 (fun _ h9 => h9) rfl dX11_next_13 ?_
    refine e_callVi (As := []) (rest := []) nxE_stable hs ⟨hx, hb, hml, hown, hts⟩ (cC_X0_leastErrors l D h cy _ _ hw) (cwV 0 hts gX11_next_X0_leastErrors rfl rfl rfl (by decide +kernel) ⟨Nat.le_of_ble_eq_true rfl, Nat.le_of_ble_eq_true rfl⟩) (va_recv hK hP (ci := 0) (q0 := 1) rfl rfl) hK hP hD hS hA rfl hl.1 rfl (Nat.le_of_ble_eq_true rfl) dX11_next_16 ⟨Nat.zero_le _, Nat.zero_le _⟩ (fun r_16 S_17 H locs hw hP hD hS => ?_)
    refine lv_istore_n (lv' := [(2, .int r_16), (0, .ref (h 0)), (1, .int p1)]) hx hb dX11_next_19 rfl hl (by decide) rfl (fun ls hl => ?_)
    refine lv_iconst (v := 0) hx hb dX11_next_20 (by decide) ?_
    refine lv_istore_n (lv' := [(3, .int 0), (2, .int r_16), (0, .ref (h 0)), (1, .int p1)]) hx hb dX11_next_21 rfl hl (by decide) rfl (fun ls hl => ?_)
    refine lv_iconst (v := 0) hx hb dX11_next_22 (by decide) ?_
    refine lv_istore (lv' := [(4, .int 0), (3, .int 0), (2, .int r_16), (0, .ref (h 0)), (1, .int p1)]) hx hb dX11_next_23 hl (by decide) rfl (fun ls hl => ?_)
    obtain ⟨n_25, hw⟩ := hw
    exact L_25 n_25 p1 r_16 0 0 S_17 _ _ _ hw hP hD hS (lv_sub hl [3, 4, 2, 1, 0] rfl)
  · have hw := hc_15t c_15
    clear hc_15t hc_15f
    refine lv_iconst (v := (-1)) hx hb dX11_next_10 (by decide) ?_
    exact W.iret (v := (-1)) hx hb hr (fun t ht hW => ⟨⟨(-1), S_14, rfl, hw, by rw [ht]; exact hP, va_K.moved hW.alike hK, hD⟩, hS.F ht⟩) hS.2.2 dX11_next_11
def wC_X11_worth (p1 : Int32) (p2 : Int32) (S : CS) (post : Int32 → CS → Prop) : Prop := wC_X11_within p1 1 15 S (fun r_1 S_2 => ((r_1 = 0 → post 0 S_2) ∧ (¬ (r_1 = 0) → wC_X11_within p2 0 999 S_2 (fun r_4 S_5 => ((r_4 = 0 → post 0 S_5) ∧ (¬ (r_4 = 0) → (∀ S_7 : CS, S_7 = (cx_set_c_worths S_5 (k_put 16 (cx_c_worths S_5) p1 p2)) → post 1 S_7)))))))
set_option maxHeartbeats 4000000 in
set_option maxRecDepth 100000 in
theorem cC_X11_worth (l : Launch) (D : va_G) (h : Nat → Nat) (cy : Nat → ClassId) (p1 : Int32) (p2 : Int32) (S : CS) (post : Int32 → CS → Prop) (hw : wC_X11_worth p1 p2 S post) : e_Mi nxE l yX11_worth wsX11_worth { frames := 1, cells := 0, slots := 0, locals := 22 } D (tyC cy) (wC h cy) [.ref (h 0), .int p1, .int p2] S post := by
  intro sz
  refine Met.ofW (cc := cX11_worth) (maxL := 3) (ret := (some .boolean)) (by decide) rfl ?_
  intro p e s m args below meth c s₁ B hml hv
  obtain ⟨rfl, hsz, hP, hK, hD0, hs⟩ := hv
  have hx := B.exec
  have hb := B.bytes
  have hr := B.returns
  have hts := atoms_spec (ws := wsX11_worth) B.pre
  have hown : s.vm.findClass RX11 = some m.cls := findClass_of_methodNamed B.named
  have hlocks := B.notSynchronized
  subst hsz
  have hD := hD0.self (sz := s.heap.size)
  generalize hAe : va_A (wC h cy S) s.heap.size = A at hD ⊢
  have hA : ∀ q : Nat, s.heap.size ≤ q → A q := fun q h => by rw [← hAe]; exact Or.inr h
  have hS : va_S A s.heap s.heap [] := va_S.rf
  have hin11 : ∀ w ∈ wsX110, w ∈ wsX11_worth := fun _ h => List.mem_cons_of_mem _ (List.mem_append_left _ (List.mem_append_right _ h))
  have hin0 : ∀ w ∈ wsX00, w ∈ wsX11_worth := fun _ h => List.mem_cons_of_mem _ (List.mem_append_right _ h)
  have w10 := hts (.fieldLink RX11 10 "ClownsMourn" "city" "LClownsMourn$City;") (List.mem_of_getElem? (i := 1) rfl)
  have w309 := hts (.fieldLink RX11 309 "ClownsMourn$City" "worths" "[I") (List.mem_of_getElem? (i := 2) rfl)
  have hl := lv_entry ([.ref (h 0), .int p1, .int p2]) (n := 3) (Nat.le_of_ble_eq_true rfl)
  rw [lg_entry_eq]
  generalize (lg_sl ([.ref (h 0), .int p1, .int p2]) ++ List.replicate (3 - (lg_sl ([.ref (h 0), .int p1, .int p2])).length) Slot.unset).toArray = ls at hl ⊢
  have hl : lv_has ls 3 [(0, .ref (h 0)), (1, .int p1), (2, .int p2)] := hl
  unfold wC_X11_worth at hw
  clear hD0
  refine lv_iload_n hx hb dX11_worth_0 rfl (lv_at hl 1 rfl) ?_
  refine lv_iconst (v := 1) hx hb dX11_worth_1 (by decide) ?_
  refine lv_bipush (v := 15) hx hb dX11_worth_2 (by decide) ?_
  refine e_callSi (As := [.int p1, .int 1, .int 15]) (rest := []) nxE_stable hs ⟨hx, hb, hml, hown, hts⟩ (cC_X11_within l D h cy _ _ _ _ _ hw) (va_cwS 3 hts gX11_worth_X11_within rfl rfl rfl (by decide +kernel) ⟨Nat.le_of_ble_eq_true rfl, Nat.le_of_ble_eq_true rfl⟩) hK hP hD hS hA rfl hl.1 rfl (Nat.le_of_ble_eq_true rfl) dX11_worth_4 ⟨Nat.zero_le _, Nat.zero_le _⟩ (fun r_1 S_2 H locs hw hP hD hS => ?_)
  obtain ⟨hc_3t, hc_3f⟩ := hw
  refine lv_if_eq (tgt := 21) hx hb dX11_worth_7 (by decide) (fun c_3 => ?_) (fun c_3 => ?_)
  · have hw := hc_3t c_3
    clear hc_3t hc_3f
    refine lv_iconst (v := 0) hx hb dX11_worth_21 (by decide) ?_
    exact W.zret (v := 0) hx hb hr (by decide +kernel) (fun t ht hW => ⟨⟨0, S_2, rfl, hw, by rw [ht]; exact hP, va_K.moved hW.alike hK, hD⟩, hS.F ht⟩) hS.2.2 dX11_worth_22
  · have hw := hc_3f c_3
    clear hc_3t hc_3f
    refine lv_iload_n hx hb dX11_worth_10 rfl (lv_at hl 2 rfl) ?_
    refine lv_iconst (v := 0) hx hb dX11_worth_11 (by decide) ?_
    refine lv_sipush (v := 999) hx hb dX11_worth_12 (by decide) ?_
    refine e_callSi (As := [.int p2, .int 0, .int 999]) (rest := []) nxE_stable hs ⟨hx, hb, hml, hown, hts⟩ (cC_X11_within l D h cy _ _ _ _ _ hw) (va_cwS 3 hts gX11_worth_X11_within rfl rfl rfl (by decide +kernel) ⟨Nat.le_of_ble_eq_true rfl, Nat.le_of_ble_eq_true rfl⟩) hK hP hD hS hA rfl hl.1 rfl (Nat.le_of_ble_eq_true rfl) dX11_worth_15 ⟨Nat.zero_le _, Nat.zero_le _⟩ (fun r_4 S_5 H locs hw hP hD hS => ?_)
    obtain ⟨hc_6t, hc_6f⟩ := hw
    refine lv_if_ne (tgt := 23) hx hb dX11_worth_18 (by decide) (fun c_6 => ?_) (fun c_6 => ?_)
    · have hw := hc_6f c_6
      clear hc_6t hc_6f
      refine lv_aload_n hx hb dX11_worth_23 rfl (lv_at hl 0 rfl) ?_
      refine va_get (D := D) (ci := 10) (v := .ref (h 1)) (C := RX11) (T := TX11) (N := 9) hx hb hts hin11 hown hK hP 0 rfl rfl 0 (by decide) w10 (fun _ h9 => h9) rfl dX11_worth_24 ?_
      refine va_get (D := D) (ci := 0) (v := .ref (h 20)) (C := RX0) (T := TX0) (N := 16) hx hb hts hin0 hown hK hP 1 rfl rfl 12 (by decide) w309 (fun _ h9 => h9) rfl dX11_worth_27 ?_
      refine lv_iload_n hx hb dX11_worth_30 rfl (lv_at hl 1 rfl) ?_
      refine lv_iload_n hx hb dX11_worth_31 rfl (lv_at hl 2 rfl) ?_
      refine e_callSv (As := [.ref (h 20), .int p1, .int p2]) (rest := []) nxE_stable hs ⟨hx, hb, hml, hown, hts⟩ (cA_put l D nxE (tyC cy) (wC h cy) cx_c_worths cx_set_c_worths S_5 20 8 _ _ 16 rfl (wCs_c_worths h cy S_5) rfl (by decide) _ _ (fun S0 => S0 = (cx_set_c_worths S_5 (k_put 16 (cx_c_worths S_5) p1 p2))) rfl) (va_cwS 3 hts gX11_worth_X11_put rfl rfl rfl (by decide +kernel) ⟨Nat.le_of_ble_eq_true rfl, Nat.le_of_ble_eq_true rfl⟩) hK hP hD hS hA rfl hl.1 rfl (Nat.le_of_ble_eq_true rfl) dX11_worth_32 ⟨Nat.zero_le _, Nat.zero_le _⟩ (fun S_7 H locs eS_7 hP hD hS => ?_)
      replace hw := hw S_7 eS_7
      refine lv_iconst (v := 1) hx hb dX11_worth_35 (by decide) ?_
      exact W.zret (v := 1) hx hb hr (by decide +kernel) (fun t ht hW => ⟨⟨1, S_7, rfl, hw, by rw [ht]; exact hP, va_K.moved hW.alike hK, hD⟩, hS.F ht⟩) hS.2.2 dX11_worth_36
    · have hw := hc_6t c_6
      clear hc_6t hc_6f
      refine lv_iconst (v := 0) hx hb dX11_worth_21 (by decide) ?_
      exact W.zret (v := 0) hx hb hr (by decide +kernel) (fun t ht hW => ⟨⟨0, S_5, rfl, hw, by rw [ht]; exact hP, va_K.moved hW.alike hK, hD⟩, hS.F ht⟩) hS.2.2 dX11_worth_22
def wC_X11_factorial_4 (post : Int32 → CS → Prop) : Nat → Int32 → Int32 → Int32 → CS → Prop
  | 0, _, _, _, _ => False
  | n + 1, x0, x1, x2, S => ((x0 < x2 → post x1 S) ∧ (¬ (x0 < x2) → ((4 < x2 → post x1 S) ∧ (¬ (4 < x2) → wC_X11_factorial_4 post n x0 (x1 * x2) (x2 + 1) S))))
def wC_X11_factorial (p1 : Int32) (S : CS) (post : Int32 → CS → Prop) : Prop := ∃ k_ : Nat, wC_X11_factorial_4 post k_ p1 1 2 S
set_option maxHeartbeats 4000000 in
set_option maxRecDepth 100000 in
theorem cC_X11_factorial (l : Launch) (D : va_G) (h : Nat → Nat) (cy : Nat → ClassId) (p1 : Int32) (S : CS) (post : Int32 → CS → Prop) (hw : wC_X11_factorial p1 S post) : e_Mi nxE l yX11_factorial wsX11_factorial { frames := 0, cells := 0, slots := 0, locals := 0 } D (tyC cy) (wC h cy) [.int p1] S post := by
  intro sz
  refine Met.ofW (cc := cX11_factorial) (maxL := 3) (ret := (some .int)) (by decide) rfl ?_
  intro p e s m args below meth c s₁ B hml hv
  obtain ⟨rfl, hsz, hP, hK, hD0, hs⟩ := hv
  have hx := B.exec
  have hb := B.bytes
  have hr := B.returns
  have hts := atoms_spec (ws := wsX11_factorial) B.pre
  have hown : s.vm.findClass RX11 = some m.cls := findClass_of_methodNamed B.named
  have hlocks := B.notSynchronized
  subst hsz
  have hD := hD0.self (sz := s.heap.size)
  generalize hAe : va_A (wC h cy S) s.heap.size = A at hD ⊢
  have hA : ∀ q : Nat, s.heap.size ≤ q → A q := fun q h => by rw [← hAe]; exact Or.inr h
  have hS : va_S A s.heap s.heap [] := va_S.rf
  have hl := lv_entry ([.int p1]) (n := 3) (Nat.le_of_ble_eq_true rfl)
  rw [lg_entry_eq]
  generalize (lg_sl ([.int p1]) ++ List.replicate (3 - (lg_sl ([.int p1])).length) Slot.unset).toArray = ls at hl ⊢
  have hl : lv_has ls 3 [(0, .int p1)] := hl
  unfold wC_X11_factorial at hw
  clear hD0
  have L_4 : ∀ (n4 : Nat) (x0 : Int32) (x1 : Int32) (x2 : Int32) (S : CS) (H : Heap) (locs : List Loc) (ls : Array Slot), wC_X11_factorial_4 post n4 x0 x1 x2 S → va_P D vwCl (wC h cy S) H → va_D A (wC h cy S) → va_S A s.heap H locs → lv_has ls 3 [(0, .int x0), (1, .int x1), (2, .int x2)] → W p l e (headSpec wsX11_factorial { frames := 0, cells := 0, slots := 0, locals := 0 }).room s m (([.int p1] : List Value).toArray) below meth c H locs 0 0 (MQ below (va_Qi post (k_Post D (tyC cy) (wC h cy) A) A) (([.int p1] : List Value).toArray) s 0 0 A) (F0 m 4 ls []) := by
    intro n4
    induction n4 with
    | zero => intro x0 x1 x2 S H locs ls hw; exact False.elim hw
    | succ n4 ih_4 =>
      intro x0 x1 x2 S H locs ls hw hP hD hS hl
      unfold wC_X11_factorial_4 at hw
      refine lv_iload_n hx hb dX11_factorial_4 rfl (lv_at hl 2 rfl) ?_
      refine lv_iload_n hx hb dX11_factorial_5 rfl (lv_at hl 0 rfl) ?_
      obtain ⟨hc_1t, hc_1f⟩ := hw
      refine lv_icmp_gt (tgt := 24) hx hb dX11_factorial_6 (by decide) (fun c_1 => ?_) (fun c_1 => ?_)
      · have hw := hc_1t c_1
        clear hc_1t hc_1f
        refine lv_iload_n hx hb dX11_factorial_24 rfl (lv_at hl 1 rfl) ?_
        exact W.iret (v := x1) hx hb hr (fun t ht hW => ⟨⟨x1, S, rfl, hw, by rw [ht]; exact hP, va_K.moved hW.alike hK, hD⟩, hS.F ht⟩) hS.2.2 dX11_factorial_25
      · have hw := hc_1f c_1
        clear hc_1t hc_1f
        refine lv_iload_n hx hb dX11_factorial_9 rfl (lv_at hl 2 rfl) ?_
        refine lv_iconst (v := 4) hx hb dX11_factorial_10 (by decide) ?_
        obtain ⟨hc_2t, hc_2f⟩ := hw
        refine lv_icmp_gt (tgt := 24) hx hb dX11_factorial_11 (by decide) (fun c_2 => ?_) (fun c_2 => ?_)
        · have hw := hc_2t c_2
          clear hc_2t hc_2f
          refine lv_iload_n hx hb dX11_factorial_24 rfl (lv_at hl 1 rfl) ?_
          exact W.iret (v := x1) hx hb hr (fun t ht hW => ⟨⟨x1, S, rfl, hw, by rw [ht]; exact hP, va_K.moved hW.alike hK, hD⟩, hS.F ht⟩) hS.2.2 dX11_factorial_25
        · have hw := hc_2f c_2
          clear hc_2t hc_2f
          refine lv_iload_n hx hb dX11_factorial_14 rfl (lv_at hl 1 rfl) ?_
          refine lv_iload_n hx hb dX11_factorial_15 rfl (lv_at hl 2 rfl) ?_
          refine lv_imul hx hb dX11_factorial_16 ?_
          refine lv_istore_n (lv' := [(1, .int (x1 * x2)), (0, .int x0), (2, .int x2)]) hx hb dX11_factorial_17 rfl hl (by decide) rfl (fun ls hl => ?_)
          refine lv_iinc (v := x2 + 1) (lv' := [(2, .int (x2 + 1)), (1, .int (x1 * x2)), (0, .int x0)]) hx hb dX11_factorial_18 hl (k := 2) rfl (k_inc (by decide)) (by decide) rfl (fun ls hl => ?_)
          refine lv_goto (tgt := 4) hx hb dX11_factorial_21 (by decide) ?_
          exact ih_4 x0 (x1 * x2) (x2 + 1) S _ _ _ hw hP hD hS (lv_sub hl [2, 1, 0] rfl)
  refine lv_iconst (v := 1) hx hb dX11_factorial_0 (by decide) ?_
  refine lv_istore_n (lv' := [(1, .int 1), (0, .int p1)]) hx hb dX11_factorial_1 rfl hl (by decide) rfl (fun ls hl => ?_)
  refine lv_iconst (v := 2) hx hb dX11_factorial_2 (by decide) ?_
  refine lv_istore_n (lv' := [(2, .int 2), (1, .int 1), (0, .int p1)]) hx hb dX11_factorial_3 rfl hl (by decide) rfl (fun ls hl => ?_)
  obtain ⟨n_4, hw⟩ := hw
  exact L_4 n_4 p1 1 2 S _ _ _ hw hP hD hS (lv_sub hl [2, 1, 0] rfl)
def wC_X11_inLowestTerms_42 (post : Int32 → CS → Prop) (x0 : Int32) (x1 : Int32) (x2 : Int32) (x3 : Int32) (S : CS) : Prop := ((x3 = 0 → ((x2 = 0 → post x0 S) ∧ (¬ (x2 = 0) → post x1 S))) ∧ (¬ (x3 = 0) → ((x2 = 0 → (¬ x3 = 0 ∧ post (x0 / x3) S)) ∧ (¬ (x2 = 0) → (¬ x3 = 0 ∧ post (x1 / x3) S)))))
def wC_X11_inLowestTerms_11 (post : Int32 → CS → Prop) : Nat → Int32 → Int32 → Int32 → Int32 → Int32 → Int32 → CS → Prop
  | 0, _, _, _, _, _, _, _ => False
  | n + 1, x0, x1, x2, x3, x4, x5, S => ((100 ≤ x5 → wC_X11_inLowestTerms_42 post x0 x1 x2 x3 S) ∧ (¬ (100 ≤ x5) → ((x4 = 0 → wC_X11_inLowestTerms_42 post x0 x1 x2 x3 S) ∧ (¬ (x4 = 0) → (¬ x4 = 0 ∧ wC_X11_inLowestTerms_11 post n x0 x1 x2 x4 (k_rem x3 x4) (x5 + 1) S)))))
def wC_X11_inLowestTerms (p1 : Int32) (p2 : Int32) (p3 : Int32) (S : CS) (post : Int32 → CS → Prop) : Prop := ∃ k_ : Nat, wC_X11_inLowestTerms_11 post k_ p1 p2 p3 (if 0 ≤ p1 then p1 else 0 - p1) p2 0 S
set_option maxHeartbeats 4000000 in
set_option maxRecDepth 100000 in
theorem cC_X11_inLowestTerms (l : Launch) (D : va_G) (h : Nat → Nat) (cy : Nat → ClassId) (p1 : Int32) (p2 : Int32) (p3 : Int32) (S : CS) (post : Int32 → CS → Prop) (hw : wC_X11_inLowestTerms p1 p2 p3 S post) : e_Mi nxE l yX11_inLowestTerms wsX11_inLowestTerms { frames := 1, cells := 0, slots := 0, locals := 21 } D (tyC cy) (wC h cy) [.int p1, .int p2, .int p3] S post := by
  intro sz
  refine Met.ofW (cc := cX11_inLowestTerms) (maxL := 7) (ret := (some .int)) (by decide) rfl ?_
  intro p e s m args below meth c s₁ B hml hv
  obtain ⟨rfl, hsz, hP, hK, hD0, hs⟩ := hv
  have hx := B.exec
  have hb := B.bytes
  have hr := B.returns
  have hts := atoms_spec (ws := wsX11_inLowestTerms) B.pre
  have hown : s.vm.findClass RX11 = some m.cls := findClass_of_methodNamed B.named
  have hlocks := B.notSynchronized
  subst hsz
  have hD := hD0.self (sz := s.heap.size)
  generalize hAe : va_A (wC h cy S) s.heap.size = A at hD ⊢
  have hA : ∀ q : Nat, s.heap.size ≤ q → A q := fun q h => by rw [← hAe]; exact Or.inr h
  have hS : va_S A s.heap s.heap [] := va_S.rf
  have wm304 := hts (.methodLink RX11 304 Lib.Math.abs.name) (List.mem_of_getElem? (i := 1) rfl)
  have wsabs := hts (.static Lib.Math.abs.name) (List.mem_of_getElem? (i := 2) rfl)
  have wcdabs := hts (.code Lib.Math.abs.name Lib.Math.abs.code 1 (some .int)) (List.mem_of_getElem? (i := 4) rfl)
  have wiM := hts (.initialized "java/lang/Math") (List.mem_of_getElem? (i := 3) rfl)
  have hl := lv_entry ([.int p1, .int p2, .int p3]) (n := 7) (Nat.le_of_ble_eq_true rfl)
  rw [lg_entry_eq]
  generalize (lg_sl ([.int p1, .int p2, .int p3]) ++ List.replicate (7 - (lg_sl ([.int p1, .int p2, .int p3])).length) Slot.unset).toArray = ls at hl ⊢
  have hl : lv_has ls 7 [(0, .int p1), (1, .int p2), (2, .int p3)] := hl
  unfold wC_X11_inLowestTerms at hw
  clear hD0
  have J_42 : ∀ (x0 : Int32) (x1 : Int32) (x2 : Int32) (x3 : Int32) (S : CS) (H : Heap) (locs : List Loc) (ls : Array Slot), wC_X11_inLowestTerms_42 post x0 x1 x2 x3 S → va_P D vwCl (wC h cy S) H → va_D A (wC h cy S) → va_S A s.heap H locs → lv_has ls 7 [(0, .int x0), (1, .int x1), (2, .int x2), (3, .int x3)] → W p l e (headSpec wsX11_inLowestTerms { frames := 1, cells := 0, slots := 0, locals := 21 }).room s m (([.int p1, .int p2, .int p3] : List Value).toArray) below meth c H locs 0 0 (MQ below (va_Qi post (k_Post D (tyC cy) (wC h cy) A) A) (([.int p1, .int p2, .int p3] : List Value).toArray) s 0 0 A) (F0 m 42 ls []) := by
    intro x0 x1 x2 x3 S H locs ls hw hP hD hS hl
    unfold wC_X11_inLowestTerms_42 at hw
    refine lv_iload_n hx hb dX11_inLowestTerms_42 rfl (lv_at hl 3 rfl) ?_
    obtain ⟨hc_1t, hc_1f⟩ := hw
    refine lv_if_ne (tgt := 56) hx hb dX11_inLowestTerms_43 (by decide) (fun c_1 => ?_) (fun c_1 => ?_)
    · have hw := hc_1f c_1
      clear hc_1t hc_1f
      refine lv_iload_n hx hb dX11_inLowestTerms_56 rfl (lv_at hl 2 rfl) ?_
      obtain ⟨hc_2t, hc_2f⟩ := hw
      refine lv_if_eq (tgt := 66) hx hb dX11_inLowestTerms_57 (by decide) (fun c_2 => ?_) (fun c_2 => ?_)
      · have hw := hc_2t c_2
        clear hc_2t hc_2f
        refine lv_iload_n hx hb dX11_inLowestTerms_66 rfl (lv_at hl 0 rfl) ?_
        refine lv_iload_n hx hb dX11_inLowestTerms_67 rfl (lv_at hl 3 rfl) ?_
        obtain ⟨hz_3, hw⟩ := hw
        refine lv_idiv hx hb dX11_inLowestTerms_68 hz_3 ?_
        exact W.iret (v := x0 / x3) hx hb hr (fun t ht hW => ⟨⟨x0 / x3, S, rfl, hw, by rw [ht]; exact hP, va_K.moved hW.alike hK, hD⟩, hS.F ht⟩) hS.2.2 dX11_inLowestTerms_69
      · have hw := hc_2f c_2
        clear hc_2t hc_2f
        refine lv_iload_n hx hb dX11_inLowestTerms_60 rfl (lv_at hl 1 rfl) ?_
        refine lv_iload_n hx hb dX11_inLowestTerms_61 rfl (lv_at hl 3 rfl) ?_
        obtain ⟨hz_4, hw⟩ := hw
        refine lv_idiv hx hb dX11_inLowestTerms_62 hz_4 ?_
        refine lv_goto (tgt := 69) hx hb dX11_inLowestTerms_63 (by decide) ?_
        exact W.iret (v := x1 / x3) hx hb hr (fun t ht hW => ⟨⟨x1 / x3, S, rfl, hw, by rw [ht]; exact hP, va_K.moved hW.alike hK, hD⟩, hS.F ht⟩) hS.2.2 dX11_inLowestTerms_69
    · have hw := hc_1t c_1
      clear hc_1t hc_1f
      refine lv_iload_n hx hb dX11_inLowestTerms_46 rfl (lv_at hl 2 rfl) ?_
      obtain ⟨hc_5t, hc_5f⟩ := hw
      refine lv_if_eq (tgt := 54) hx hb dX11_inLowestTerms_47 (by decide) (fun c_5 => ?_) (fun c_5 => ?_)
      · have hw := hc_5t c_5
        clear hc_5t hc_5f
        refine lv_iload_n hx hb dX11_inLowestTerms_54 rfl (lv_at hl 0 rfl) ?_
        exact W.iret (v := x0) hx hb hr (fun t ht hW => ⟨⟨x0, S, rfl, hw, by rw [ht]; exact hP, va_K.moved hW.alike hK, hD⟩, hS.F ht⟩) hS.2.2 dX11_inLowestTerms_55
      · have hw := hc_5f c_5
        clear hc_5t hc_5f
        refine lv_iload_n hx hb dX11_inLowestTerms_50 rfl (lv_at hl 1 rfl) ?_
        refine lv_goto (tgt := 55) hx hb dX11_inLowestTerms_51 (by decide) ?_
        exact W.iret (v := x1) hx hb hr (fun t ht hW => ⟨⟨x1, S, rfl, hw, by rw [ht]; exact hP, va_K.moved hW.alike hK, hD⟩, hS.F ht⟩) hS.2.2 dX11_inLowestTerms_55
  have L_11 : ∀ (n11 : Nat) (x0 : Int32) (x1 : Int32) (x2 : Int32) (x3 : Int32) (x4 : Int32) (x5 : Int32) (S : CS) (H : Heap) (locs : List Loc) (ls : Array Slot), wC_X11_inLowestTerms_11 post n11 x0 x1 x2 x3 x4 x5 S → va_P D vwCl (wC h cy S) H → va_D A (wC h cy S) → va_S A s.heap H locs → lv_has ls 7 [(0, .int x0), (1, .int x1), (2, .int x2), (3, .int x3), (4, .int x4), (5, .int x5)] → W p l e (headSpec wsX11_inLowestTerms { frames := 1, cells := 0, slots := 0, locals := 21 }).room s m (([.int p1, .int p2, .int p3] : List Value).toArray) below meth c H locs 0 0 (MQ below (va_Qi post (k_Post D (tyC cy) (wC h cy) A) A) (([.int p1, .int p2, .int p3] : List Value).toArray) s 0 0 A) (F0 m 11 ls []) := by
    intro n11
    induction n11 with
    | zero => intro x0 x1 x2 x3 x4 x5 S H locs ls hw; exact False.elim hw
    | succ n11 ih_11 =>
      intro x0 x1 x2 x3 x4 x5 S H locs ls hw hP hD hS hl
      unfold wC_X11_inLowestTerms_11 at hw
      refine lv_iload hx hb dX11_inLowestTerms_11 (lv_at hl 5 rfl) ?_
      refine lv_bipush (v := 100) hx hb dX11_inLowestTerms_13 (by decide) ?_
      obtain ⟨hc_6t, hc_6f⟩ := hw
      refine lv_icmp_ge (tgt := 42) hx hb dX11_inLowestTerms_15 (by decide) (fun c_6 => ?_) (fun c_6 => ?_)
      · have hw := hc_6t c_6
        clear hc_6t hc_6f
        exact J_42 x0 x1 x2 x3 S _ _ _ hw hP hD hS (lv_sub hl [0, 1, 2, 3] rfl)
      · have hw := hc_6f c_6
        clear hc_6t hc_6f
        refine lv_iload hx hb dX11_inLowestTerms_18 (lv_at hl 4 rfl) ?_
        obtain ⟨hc_7t, hc_7f⟩ := hw
        refine lv_if_eq (tgt := 42) hx hb dX11_inLowestTerms_20 (by decide) (fun c_7 => ?_) (fun c_7 => ?_)
        · have hw := hc_7t c_7
          clear hc_7t hc_7f
          exact J_42 x0 x1 x2 x3 S _ _ _ hw hP hD hS (lv_sub hl [0, 1, 2, 3] rfl)
        · have hw := hc_7f c_7
          clear hc_7t hc_7f
          refine lv_iload_n hx hb dX11_inLowestTerms_23 rfl (lv_at hl 3 rfl) ?_
          refine lv_iload hx hb dX11_inLowestTerms_24 (lv_at hl 4 rfl) ?_
          obtain ⟨hz_8, hw⟩ := hw
          refine k_irem hx hb dX11_inLowestTerms_26 hz_8 ?_
          refine lv_istore (lv' := [(6, .int (k_rem x3 x4)), (0, .int x0), (1, .int x1), (2, .int x2), (3, .int x3), (4, .int x4), (5, .int x5)]) hx hb dX11_inLowestTerms_27 hl (by decide) rfl (fun ls hl => ?_)
          refine lv_iload hx hb dX11_inLowestTerms_29 (lv_at hl 5 rfl) ?_
          refine lv_istore_n (lv' := [(3, .int x4), (6, .int (k_rem x3 x4)), (0, .int x0), (1, .int x1), (2, .int x2), (4, .int x4), (5, .int x5)]) hx hb dX11_inLowestTerms_31 rfl hl (by decide) rfl (fun ls hl => ?_)
          refine lv_iload hx hb dX11_inLowestTerms_32 (lv_at hl 1 rfl) ?_
          refine lv_istore (lv' := [(4, .int (k_rem x3 x4)), (3, .int x4), (6, .int (k_rem x3 x4)), (0, .int x0), (1, .int x1), (2, .int x2), (5, .int x5)]) hx hb dX11_inLowestTerms_34 hl (by decide) rfl (fun ls hl => ?_)
          refine lv_iinc (v := x5 + 1) (lv' := [(5, .int (x5 + 1)), (4, .int (k_rem x3 x4)), (3, .int x4), (6, .int (k_rem x3 x4)), (0, .int x0), (1, .int x1), (2, .int x2)]) hx hb dX11_inLowestTerms_36 hl (k := 6) rfl (k_inc (by decide)) (by decide) rfl (fun ls hl => ?_)
          refine lv_goto (tgt := 11) hx hb dX11_inLowestTerms_39 (by decide) ?_
          exact ih_11 x0 x1 x2 x4 (k_rem x3 x4) (x5 + 1) S _ _ _ hw hP hD hS (lv_sub hl [4, 5, 6, 2, 1, 0] rfl)
  refine lv_iload_n hx hb dX11_inLowestTerms_0 rfl (lv_at hl 0 rfl) ?_
  refine va_mabs (own := RX11) (index := 304) hx hb (hml.trans hl.1.symm) hown wm304 wsabs wiM wcdabs (Nat.le_of_ble_eq_true rfl) (Nat.le_of_ble_eq_true rfl) (Nat.zero_le _) (Nat.zero_le _) dX11_inLowestTerms_1 ?_
  refine lv_istore_n (lv' := [(3, .int (if 0 ≤ p1 then p1 else 0 - p1)), (0, .int p1), (1, .int p2), (2, .int p3)]) hx hb dX11_inLowestTerms_4 rfl hl (by decide) rfl (fun ls hl => ?_)
  refine lv_iload_n hx hb dX11_inLowestTerms_5 rfl (lv_at hl 2 rfl) ?_
  refine lv_istore (lv' := [(4, .int p2), (3, .int (if 0 ≤ p1 then p1 else 0 - p1)), (0, .int p1), (1, .int p2), (2, .int p3)]) hx hb dX11_inLowestTerms_6 hl (by decide) rfl (fun ls hl => ?_)
  refine lv_iconst (v := 0) hx hb dX11_inLowestTerms_8 (by decide) ?_
  refine lv_istore (lv' := [(5, .int 0), (4, .int p2), (3, .int (if 0 ≤ p1 then p1 else 0 - p1)), (0, .int p1), (1, .int p2), (2, .int p3)]) hx hb dX11_inLowestTerms_9 hl (by decide) rfl (fun ls hl => ?_)
  obtain ⟨n_11, hw⟩ := hw
  exact L_11 n_11 p1 p2 p3 (if 0 ≤ p1 then p1 else 0 - p1) p2 0 S _ _ _ hw hP hD hS (lv_sub hl [3, 4, 5, 2, 1, 0] rfl)
def wC_X11_share_28 (post : Int32 → CS → Prop) : Nat → Int32 → Int32 → Int32 → Int32 → Int32 → CS → Prop
  | 0, _, _, _, _, _, _ => False
  | n + 1, x1, x2, x3, x4, x5, S => (((k_shl 1 x2) ≤ x5 → wC_X11_factorial x2 S (fun r_2 S_3 => wC_X11_inLowestTerms x4 r_2 x3 S_3 (fun r_4 S_5 => post r_4 S_5))) ∧ (¬ ((k_shl 1 x2) ≤ x5) → ((((k_shr x5 x1) &&& 1) = 0 → wC_J6_bitCount_0f7a4 x5 S (fun r_7 S_8 => wC_X11_factorial r_7 S_8 (fun r_9 S_10 => wC_X11_factorial ((x2 - r_7) - 1) S_10 (fun r_11 S_12 => wC_X11_share_28 post n x1 x2 x3 (x4 + ((r_9 * r_11) * ((k_at 16 (cx_c_worths S_8) (x5 ||| (k_shl 1 x1))) - (k_at 16 (cx_c_worths S_8) x5)))) (x5 + 1) S_12)))) ∧ (¬ (((k_shr x5 x1) &&& 1) = 0) → wC_X11_share_28 post n x1 x2 x3 x4 (x5 + 1) S))))
def wC_X11_share (p1 : Int32) (p2 : Int32) (p3 : Int32) (S : CS) (post : Int32 → CS → Prop) : Prop := wC_X11_within p2 1 4 S (fun r_1 S_2 => ((r_1 = 0 → post (-1) S_2) ∧ (¬ (r_1 = 0) → wC_X11_within p1 0 (p2 - 1) S_2 (fun r_4 S_5 => ((r_4 = 0 → post (-1) S_5) ∧ (¬ (r_4 = 0) → ∃ k_ : Nat, wC_X11_share_28 post k_ p1 p2 p3 0 0 S_5))))))
set_option maxHeartbeats 4000000 in
set_option maxRecDepth 100000 in
theorem cC_X11_share (l : Launch) (D : va_G) (h : Nat → Nat) (cy : Nat → ClassId) (p1 : Int32) (p2 : Int32) (p3 : Int32) (S : CS) (post : Int32 → CS → Prop) (hw : wC_X11_share p1 p2 p3 S post) : e_Mi nxE l yX11_share wsX11_share { frames := 2, cells := 0, slots := 0, locals := 47 } D (tyC cy) (wC h cy) [.ref (h 0), .int p1, .int p2, .int p3] S post := by
  intro sz
  refine Met.ofW (cc := cX11_share) (maxL := 8) (ret := (some .int)) (by decide) rfl ?_
  intro p e s m args below meth c s₁ B hml hv
  obtain ⟨rfl, hsz, hP, hK, hD0, hs⟩ := hv
  have hx := B.exec
  have hb := B.bytes
  have hr := B.returns
  have hts := atoms_spec (ws := wsX11_share) B.pre
  have hown : s.vm.findClass RX11 = some m.cls := findClass_of_methodNamed B.named
  have hlocks := B.notSynchronized
  subst hsz
  have hD := hD0.self (sz := s.heap.size)
  generalize hAe : va_A (wC h cy S) s.heap.size = A at hD ⊢
  have hA : ∀ q : Nat, s.heap.size ≤ q → A q := fun q h => by rw [← hAe]; exact Or.inr h
  have hS : va_S A s.heap s.heap [] := va_S.rf
  have hin11 : ∀ w ∈ wsX110, w ∈ wsX11_share := fun _ h => List.mem_cons_of_mem _ (List.mem_append_left _ (List.mem_append_right _ h))
  have hin0 : ∀ w ∈ wsX00, w ∈ wsX11_share := fun _ h => List.mem_cons_of_mem _ (List.mem_append_right _ h)
  have w10 := hts (.fieldLink RX11 10 "ClownsMourn" "city" "LClownsMourn$City;") (List.mem_of_getElem? (i := 1) rfl)
  have w309 := hts (.fieldLink RX11 309 "ClownsMourn$City" "worths" "[I") (List.mem_of_getElem? (i := 2) rfl)
  have hl := lv_entry ([.ref (h 0), .int p1, .int p2, .int p3]) (n := 8) (Nat.le_of_ble_eq_true rfl)
  rw [lg_entry_eq]
  generalize (lg_sl ([.ref (h 0), .int p1, .int p2, .int p3]) ++ List.replicate (8 - (lg_sl ([.ref (h 0), .int p1, .int p2, .int p3])).length) Slot.unset).toArray = ls at hl ⊢
  have hl : lv_has ls 8 [(0, .ref (h 0)), (1, .int p1), (2, .int p2), (3, .int p3)] := hl
  unfold wC_X11_share at hw
  clear hD0
  have L_28 : ∀ (n28 : Nat) (x1 : Int32) (x2 : Int32) (x3 : Int32) (x4 : Int32) (x5 : Int32) (S : CS) (H : Heap) (locs : List Loc) (ls : Array Slot), wC_X11_share_28 post n28 x1 x2 x3 x4 x5 S → va_P D vwCl (wC h cy S) H → va_D A (wC h cy S) → va_S A s.heap H locs → lv_has ls 8 [(0, .ref (h 0)), (1, .int x1), (2, .int x2), (3, .int x3), (4, .int x4), (5, .int x5)] → W p l e (headSpec wsX11_share { frames := 2, cells := 0, slots := 0, locals := 47 }).room s m (([.ref (h 0), .int p1, .int p2, .int p3] : List Value).toArray) below meth c H locs 0 0 (MQ below (va_Qi post (k_Post D (tyC cy) (wC h cy) A) A) (([.ref (h 0), .int p1, .int p2, .int p3] : List Value).toArray) s 0 0 A) (F0 m 28 ls []) := by
    intro n28
    induction n28 with
    | zero => intro x1 x2 x3 x4 x5 S H locs ls hw; exact False.elim hw
    | succ n28 ih_28 =>
      intro x1 x2 x3 x4 x5 S H locs ls hw hP hD hS hl
      unfold wC_X11_share_28 at hw
      refine lv_iload hx hb dX11_share_28 (lv_at hl 5 rfl) ?_
      refine lv_iconst (v := 1) hx hb dX11_share_30 (by decide) ?_
      refine lv_iload_n hx hb dX11_share_31 rfl (lv_at hl 2 rfl) ?_
      refine k_ishl hx hb dX11_share_32 ?_
      obtain ⟨hc_1t, hc_1f⟩ := hw
      refine lv_icmp_ge (tgt := 112) hx hb dX11_share_33 (by decide) (fun c_1 => ?_) (fun c_1 => ?_)
      · have hw := hc_1t c_1
        clear hc_1t hc_1f
        refine lv_iload hx hb dX11_share_112 (lv_at hl 4 rfl) ?_
        refine lv_iload_n hx hb dX11_share_114 rfl (lv_at hl 2 rfl) ?_
        refine e_callSi (As := [.int x2]) (rest := [.int x4]) nxE_stable hs ⟨hx, hb, hml, hown, hts⟩ (cC_X11_factorial l D h cy _ _ _ hw) (va_cwS 1 hts gX11_share_X11_factorial rfl rfl rfl (by decide +kernel) ⟨Nat.le_of_ble_eq_true rfl, Nat.le_of_ble_eq_true rfl⟩) hK hP hD hS hA rfl hl.1 rfl (Nat.le_of_ble_eq_true rfl) dX11_share_115 ⟨Nat.zero_le _, Nat.zero_le _⟩ (fun r_2 S_3 H locs hw hP hD hS => ?_)
        refine lv_iload_n hx hb dX11_share_118 rfl (lv_at hl 3 rfl) ?_
        refine e_callSi (As := [.int x4, .int r_2, .int x3]) (rest := []) nxE_stable hs ⟨hx, hb, hml, hown, hts⟩ (cC_X11_inLowestTerms l D h cy _ _ _ _ _ hw) (va_cwS 3 hts gX11_share_X11_inLowestTerms rfl rfl rfl (by decide +kernel) ⟨Nat.le_of_ble_eq_true rfl, Nat.le_of_ble_eq_true rfl⟩) hK hP hD hS hA rfl hl.1 rfl (Nat.le_of_ble_eq_true rfl) dX11_share_119 ⟨Nat.zero_le _, Nat.zero_le _⟩ (fun r_4 S_5 H locs hw hP hD hS => ?_)
        exact W.iret (v := r_4) hx hb hr (fun t ht hW => ⟨⟨r_4, S_5, rfl, hw, by rw [ht]; exact hP, va_K.moved hW.alike hK, hD⟩, hS.F ht⟩) hS.2.2 dX11_share_122
      · have hw := hc_1f c_1
        clear hc_1t hc_1f
        refine lv_iload hx hb dX11_share_36 (lv_at hl 5 rfl) ?_
        refine lv_iload_n hx hb dX11_share_38 rfl (lv_at hl 1 rfl) ?_
        refine k_ishr hx hb dX11_share_39 ?_
        refine lv_iconst (v := 1) hx hb dX11_share_40 (by decide) ?_
        refine lv_iand hx hb dX11_share_41 ?_
        obtain ⟨hc_6t, hc_6f⟩ := hw
        refine lv_if_ne (tgt := 106) hx hb dX11_share_42 (by decide) (fun c_6 => ?_) (fun c_6 => ?_)
        · have hw := hc_6f c_6
          clear hc_6t hc_6f
          refine lv_iinc (v := x5 + 1) (lv' := [(5, .int (x5 + 1)), (0, .ref (h 0)), (1, .int x1), (2, .int x2), (3, .int x3), (4, .int x4)]) hx hb dX11_share_106 hl (k := 5) rfl (k_inc (by decide)) (by decide) rfl (fun ls hl => ?_)
          refine lv_goto (tgt := 28) hx hb dX11_share_109 (by decide) ?_
          exact ih_28 x1 x2 x3 x4 (x5 + 1) S _ _ _ hw hP hD hS (lv_sub hl [1, 2, 3, 4, 5, 0] rfl)
        · have hw := hc_6t c_6
          clear hc_6t hc_6f
          refine lv_iload hx hb dX11_share_45 (lv_at hl 5 rfl) ?_
          refine e_callSi (As := [.int x5]) (rest := []) nxE_stable hs ⟨hx, hb, hml, hown, hts⟩ (cC_J6_bitCount_0f7a4 l D h cy _ _ _ hw) (va_cwS 1 hts gX11_share_J6_bitCount_0f7a4 rfl rfl rfl (by decide +kernel) ⟨Nat.le_of_ble_eq_true rfl, Nat.le_of_ble_eq_true rfl⟩) hK hP hD hS hA rfl hl.1 rfl (Nat.le_of_ble_eq_true rfl) dX11_share_47 ⟨Nat.zero_le _, Nat.zero_le _⟩ (fun r_7 S_8 H locs hw hP hD hS => ?_)
          refine lv_istore (lv' := [(6, .int r_7), (0, .ref (h 0)), (1, .int x1), (2, .int x2), (3, .int x3), (4, .int x4), (5, .int x5)]) hx hb dX11_share_50 hl (by decide) rfl (fun ls hl => ?_)
          refine lv_aload_n hx hb dX11_share_52 rfl (lv_at hl 1 rfl) ?_
          refine va_get (D := D) (ci := 10) (v := .ref (h 1)) (C := RX11) (T := TX11) (N := 9) hx hb hts hin11 hown hK hP 0 rfl rfl 0 (by decide) w10 (fun _ h9 => h9) rfl dX11_share_53 ?_
          refine va_get (D := D) (ci := 0) (v := .ref (h 20)) (C := RX0) (T := TX0) (N := 16) hx hb hts hin0 hown hK hP 1 rfl rfl 12 (by decide) w309 (fun _ h9 => h9) rfl dX11_share_56 ?_
          refine lv_iload hx hb dX11_share_59 (lv_at hl 6 rfl) ?_
          refine lv_iconst (v := 1) hx hb dX11_share_61 (by decide) ?_
          refine lv_iload_n hx hb dX11_share_62 rfl (lv_at hl 2 rfl) ?_
          refine k_ishl hx hb dX11_share_63 ?_
          refine lv_ior hx hb dX11_share_64 ?_
          refine e_callSi (As := [.ref (h 20), .int (x5 ||| (k_shl 1 x1))]) (rest := []) nxE_stable hs ⟨hx, hb, hml, hown, hts⟩ (cA_at l D nxE (tyC cy) (wC h cy) S_8 20 8 _ _ 16 (cx_c_worths S_8) rfl rfl (by decide) _ (fun r S0 => r = k_at 16 (cx_c_worths S_8) (x5 ||| (k_shl 1 x1)) ∧ S_8 = S0) ⟨rfl, rfl⟩) (va_cwS 2 hts gX11_share_X11_at rfl rfl rfl (by decide +kernel) ⟨Nat.le_of_ble_eq_true rfl, Nat.le_of_ble_eq_true rfl⟩) hK hP hD hS hA rfl hl.1 rfl (Nat.le_of_ble_eq_true rfl) dX11_share_65 ⟨Nat.zero_le _, Nat.zero_le _⟩ (fun r_ S_ H locs hq hP hD hS => ?_)
          obtain ⟨rfl, rfl⟩ := hq
          refine lv_aload_n hx hb dX11_share_68 rfl (lv_at hl 1 rfl) ?_
          refine va_get (D := D) (ci := 10) (v := .ref (h 1)) (C := RX11) (T := TX11) (N := 9) hx hb hts hin11 hown hK hP 0 rfl rfl 0 (by decide) w10 (fun _ h9 => h9) rfl dX11_share_69 ?_
          refine va_get (D := D) (ci := 0) (v := .ref (h 20)) (C := RX0) (T := TX0) (N := 16) hx hb hts hin0 hown hK hP 1 rfl rfl 12 (by decide) w309 (fun _ h9 => h9) rfl dX11_share_72 ?_
          refine lv_iload hx hb dX11_share_75 (lv_at hl 6 rfl) ?_
          refine e_callSi (As := [.ref (h 20), .int x5]) (rest := [.int (k_at 16 (cx_c_worths S_8) (x5 ||| (k_shl 1 x1)))]) nxE_stable hs ⟨hx, hb, hml, hown, hts⟩ (cA_at l D nxE (tyC cy) (wC h cy) S_8 20 8 _ _ 16 (cx_c_worths S_8) rfl rfl (by decide) _ (fun r S0 => r = k_at 16 (cx_c_worths S_8) x5 ∧ S_8 = S0) ⟨rfl, rfl⟩) (va_cwS 2 hts gX11_share_X11_at rfl rfl rfl (by decide +kernel) ⟨Nat.le_of_ble_eq_true rfl, Nat.le_of_ble_eq_true rfl⟩) hK hP hD hS hA rfl hl.1 rfl (Nat.le_of_ble_eq_true rfl) dX11_share_77 ⟨Nat.zero_le _, Nat.zero_le _⟩ (fun r_ S_ H locs hq hP hD hS => ?_)
          obtain ⟨rfl, rfl⟩ := hq
          refine lv_isub hx hb dX11_share_80 ?_
          refine lv_istore (lv' := [(7, .int ((k_at 16 (cx_c_worths S_8) (x5 ||| (k_shl 1 x1))) - (k_at 16 (cx_c_worths S_8) x5))), (6, .int r_7), (0, .ref (h 0)), (1, .int x1), (2, .int x2), (3, .int x3), (4, .int x4), (5, .int x5)]) hx hb dX11_share_81 hl (by decide) rfl (fun ls hl => ?_)
          refine lv_iload hx hb dX11_share_83 (lv_at hl 6 rfl) ?_
          refine lv_iload hx hb dX11_share_85 (lv_at hl 1 rfl) ?_
          refine e_callSi (As := [.int r_7]) (rest := [.int x4]) nxE_stable hs ⟨hx, hb, hml, hown, hts⟩ (cC_X11_factorial l D h cy _ _ _ hw) (va_cwS 1 hts gX11_share_X11_factorial rfl rfl rfl (by decide +kernel) ⟨Nat.le_of_ble_eq_true rfl, Nat.le_of_ble_eq_true rfl⟩) hK hP hD hS hA rfl hl.1 rfl (Nat.le_of_ble_eq_true rfl) dX11_share_87 ⟨Nat.zero_le _, Nat.zero_le _⟩ (fun r_9 S_10 H locs hw hP hD hS => ?_)
          refine lv_iload_n hx hb dX11_share_90 rfl (lv_at hl 4 rfl) ?_
          refine lv_iload hx hb dX11_share_91 (lv_at hl 1 rfl) ?_
          refine lv_isub hx hb dX11_share_93 ?_
          refine lv_iconst (v := 1) hx hb dX11_share_94 (by decide) ?_
          refine lv_isub hx hb dX11_share_95 ?_
          refine e_callSi (As := [.int ((x2 - r_7) - 1)]) (rest := [.int r_9, .int x4]) nxE_stable hs ⟨hx, hb, hml, hown, hts⟩ (cC_X11_factorial l D h cy _ _ _ hw) (va_cwS 1 hts gX11_share_X11_factorial rfl rfl rfl (by decide +kernel) ⟨Nat.le_of_ble_eq_true rfl, Nat.le_of_ble_eq_true rfl⟩) hK hP hD hS hA rfl hl.1 rfl (Nat.le_of_ble_eq_true rfl) dX11_share_96 ⟨Nat.zero_le _, Nat.zero_le _⟩ (fun r_11 S_12 H locs hw hP hD hS => ?_)
          refine lv_imul hx hb dX11_share_99 ?_
          refine lv_iload hx hb dX11_share_100 (lv_at hl 0 rfl) ?_
          refine lv_imul hx hb dX11_share_102 ?_
          refine lv_iadd hx hb dX11_share_103 ?_
          refine lv_istore (lv' := [(4, .int (x4 + ((r_9 * r_11) * ((k_at 16 (cx_c_worths S_8) (x5 ||| (k_shl 1 x1))) - (k_at 16 (cx_c_worths S_8) x5))))), (7, .int ((k_at 16 (cx_c_worths S_8) (x5 ||| (k_shl 1 x1))) - (k_at 16 (cx_c_worths S_8) x5))), (6, .int r_7), (0, .ref (h 0)), (1, .int x1), (2, .int x2), (3, .int x3), (5, .int x5)]) hx hb dX11_share_104 hl (by decide) rfl (fun ls hl => ?_)
          refine lv_iinc (v := x5 + 1) (lv' := [(5, .int (x5 + 1)), (4, .int (x4 + ((r_9 * r_11) * ((k_at 16 (cx_c_worths S_8) (x5 ||| (k_shl 1 x1))) - (k_at 16 (cx_c_worths S_8) x5))))), (7, .int ((k_at 16 (cx_c_worths S_8) (x5 ||| (k_shl 1 x1))) - (k_at 16 (cx_c_worths S_8) x5))), (6, .int r_7), (0, .ref (h 0)), (1, .int x1), (2, .int x2), (3, .int x3)]) hx hb dX11_share_106 hl (k := 7) rfl (k_inc (by decide)) (by decide) rfl (fun ls hl => ?_)
          refine lv_goto (tgt := 28) hx hb dX11_share_109 (by decide) ?_
          exact ih_28 x1 x2 x3 (x4 + ((r_9 * r_11) * ((k_at 16 (cx_c_worths S_8) (x5 ||| (k_shl 1 x1))) - (k_at 16 (cx_c_worths S_8) x5)))) (x5 + 1) S_12 _ _ _ hw hP hD hS (lv_sub hl [4, 5, 6, 7, 1, 0] rfl)
  refine lv_iload_n hx hb dX11_share_0 rfl (lv_at hl 2 rfl) ?_
  refine lv_iconst (v := 1) hx hb dX11_share_1 (by decide) ?_
  refine lv_iconst (v := 4) hx hb dX11_share_2 (by decide) ?_
  refine e_callSi (As := [.int p2, .int 1, .int 4]) (rest := []) nxE_stable hs ⟨hx, hb, hml, hown, hts⟩ (cC_X11_within l D h cy _ _ _ _ _ hw) (va_cwS 3 hts gX11_share_X11_within rfl rfl rfl (by decide +kernel) ⟨Nat.le_of_ble_eq_true rfl, Nat.le_of_ble_eq_true rfl⟩) hK hP hD hS hA rfl hl.1 rfl (Nat.le_of_ble_eq_true rfl) dX11_share_3 ⟨Nat.zero_le _, Nat.zero_le _⟩ (fun r_13 S_14 H locs hw hP hD hS => ?_)
  obtain ⟨hc_15t, hc_15f⟩ := hw
  refine lv_if_eq (tgt := 20) hx hb dX11_share_6 (by decide) (fun c_15 => ?_) (fun c_15 => ?_)
  · have hw := hc_15t c_15
    clear hc_15t hc_15f
    refine lv_iconst (v := (-1)) hx hb dX11_share_20 (by decide) ?_
    exact W.iret (v := (-1)) hx hb hr (fun t ht hW => ⟨⟨(-1), S_14, rfl, hw, by rw [ht]; exact hP, va_K.moved hW.alike hK, hD⟩, hS.F ht⟩) hS.2.2 dX11_share_21
  · have hw := hc_15f c_15
    clear hc_15t hc_15f
    refine lv_iload_n hx hb dX11_share_9 rfl (lv_at hl 1 rfl) ?_
    refine lv_iconst (v := 0) hx hb dX11_share_10 (by decide) ?_
    refine lv_iload_n hx hb dX11_share_11 rfl (lv_at hl 2 rfl) ?_
    refine lv_iconst (v := 1) hx hb dX11_share_12 (by decide) ?_
    refine lv_isub hx hb dX11_share_13 ?_
    refine e_callSi (As := [.int p1, .int 0, .int (p2 - 1)]) (rest := []) nxE_stable hs ⟨hx, hb, hml, hown, hts⟩ (cC_X11_within l D h cy _ _ _ _ _ hw) (va_cwS 3 hts gX11_share_X11_within rfl rfl rfl (by decide +kernel) ⟨Nat.le_of_ble_eq_true rfl, Nat.le_of_ble_eq_true rfl⟩) hK hP hD hS hA rfl hl.1 rfl (Nat.le_of_ble_eq_true rfl) dX11_share_14 ⟨Nat.zero_le _, Nat.zero_le _⟩ (fun r_16 S_17 H locs hw hP hD hS => ?_)
    obtain ⟨hc_18t, hc_18f⟩ := hw
    refine lv_if_ne (tgt := 22) hx hb dX11_share_17 (by decide) (fun c_18 => ?_) (fun c_18 => ?_)
    · have hw := hc_18f c_18
      clear hc_18t hc_18f
      refine lv_iconst (v := 0) hx hb dX11_share_22 (by decide) ?_
      refine lv_istore (lv' := [(4, .int 0), (0, .ref (h 0)), (1, .int p1), (2, .int p2), (3, .int p3)]) hx hb dX11_share_23 hl (by decide) rfl (fun ls hl => ?_)
      refine lv_iconst (v := 0) hx hb dX11_share_25 (by decide) ?_
      refine lv_istore (lv' := [(5, .int 0), (4, .int 0), (0, .ref (h 0)), (1, .int p1), (2, .int p2), (3, .int p3)]) hx hb dX11_share_26 hl (by decide) rfl (fun ls hl => ?_)
      obtain ⟨n_28, hw⟩ := hw
      exact L_28 n_28 p1 p2 p3 0 0 S_17 _ _ _ hw hP hD hS (lv_sub hl [2, 3, 4, 5, 1, 0] rfl)
    · have hw := hc_18t c_18
      clear hc_18t hc_18f
      refine lv_iconst (v := (-1)) hx hb dX11_share_20 (by decide) ?_
      exact W.iret (v := (-1)) hx hb hr (fun t ht hW => ⟨⟨(-1), S_17, rfl, hw, by rw [ht]; exact hP, va_K.moved hW.alike hK, hD⟩, hS.F ht⟩) hS.2.2 dX11_share_21
def wC_X11_stays_103 (post : Int32 → CS → Prop) (K62 : Int32 → Int32 → Int32 → Int32 → Int32 → Int32 → Int32 → Int32 → Int32 → CS → Prop) (x1 : Int32) (x2 : Int32) (x3 : Int32) (x4 : Int32) (x5 : Int32) (x6 : Int32) (x7 : Int32) (x8 : Int32) (x9 : Int32) (S : CS) : Prop := K62 x1 x2 x3 x4 x5 x6 x7 ((x8 * (10 - x1)) / 10) (x9 + 1) S
def wC_X11_stays_62 (post : Int32 → CS → Prop) : Nat → Int32 → Int32 → Int32 → Int32 → Int32 → Int32 → Int32 → Int32 → Int32 → CS → Prop
  | 0, _, _, _, _, _, _, _, _, _, _ => False
  | n + 1, x1, x2, x3, x4, x5, x6, x7, x8, x9, S => ((6 < x9 → ((x4 = 0 → post x5 S) ∧ (¬ (x4 = 0) → ((x4 = 2 → wC_X11_inLowestTerms x6 1000000 1 S (fun r_6 S_7 => post r_6 S_7)) ∧ (¬ (x4 = 2) → wC_X11_inLowestTerms x6 1000000 0 S (fun r_4 S_5 => post r_4 S_5)))))) ∧ (¬ (6 < x9) → (((x7 + (x8 * ((x1 * x2) - ((10 * x9) * x3)))) ≤ x6 → wC_X11_stays_103 post (wC_X11_stays_62 post n) x1 x2 x3 x4 x5 x6 (x7 + (x8 * ((x1 * x2) - ((10 * x9) * x3)))) x8 x9 S) ∧ (¬ ((x7 + (x8 * ((x1 * x2) - ((10 * x9) * x3)))) ≤ x6) → wC_X11_stays_103 post (wC_X11_stays_62 post n) x1 x2 x3 x4 x9 (x7 + (x8 * ((x1 * x2) - ((10 * x9) * x3)))) (x7 + (x8 * ((x1 * x2) - ((10 * x9) * x3)))) x8 x9 S))))
def wC_X11_stays (p1 : Int32) (p2 : Int32) (p3 : Int32) (p4 : Int32) (S : CS) (post : Int32 → CS → Prop) : Prop := wC_X11_within p1 0 10 S (fun r_1 S_2 => ((r_1 = 0 → post (-100000) S_2) ∧ (¬ (r_1 = 0) → wC_X11_within p2 0 999 S_2 (fun r_4 S_5 => ((r_4 = 0 → post (-100000) S_5) ∧ (¬ (r_4 = 0) → wC_X11_within p3 0 99 S_5 (fun r_7 S_8 => ((r_7 = 0 → post (-100000) S_8) ∧ (¬ (r_7 = 0) → wC_X11_within p4 0 2 S_8 (fun r_10 S_11 => ((r_10 = 0 → post (-100000) S_11) ∧ (¬ (r_10 = 0) → ∃ k_ : Nat, wC_X11_stays_62 post k_ p1 p2 p3 p4 0 0 0 100000 1 S_11))))))))))))
set_option maxHeartbeats 4000000 in
set_option maxRecDepth 100000 in
theorem cC_X11_stays (l : Launch) (D : va_G) (h : Nat → Nat) (cy : Nat → ClassId) (p1 : Int32) (p2 : Int32) (p3 : Int32) (p4 : Int32) (S : CS) (post : Int32 → CS → Prop) (hw : wC_X11_stays p1 p2 p3 p4 S post) : e_Mi nxE l yX11_stays wsX11_stays { frames := 2, cells := 0, slots := 0, locals := 47 } D (tyC cy) (wC h cy) [.ref (h 0), .int p1, .int p2, .int p3, .int p4] S post := by
  intro sz
  refine Met.ofW (cc := cX11_stays) (maxL := 10) (ret := (some .int)) (by decide) rfl ?_
  intro p e s m args below meth c s₁ B hml hv
  obtain ⟨rfl, hsz, hP, hK, hD0, hs⟩ := hv
  have hx := B.exec
  have hb := B.bytes
  have hr := B.returns
  have hts := atoms_spec (ws := wsX11_stays) B.pre
  have hown : s.vm.findClass RX11 = some m.cls := findClass_of_methodNamed B.named
  have hlocks := B.notSynchronized
  subst hsz
  have hD := hD0.self (sz := s.heap.size)
  generalize hAe : va_A (wC h cy S) s.heap.size = A at hD ⊢
  have hA : ∀ q : Nat, s.heap.size ≤ q → A q := fun q h => by rw [← hAe]; exact Or.inr h
  have hS : va_S A s.heap s.heap [] := va_S.rf
  have wc324 := hts (.constant RX11 324 (-100000)) (List.mem_of_getElem? (i := 1) rfl)
  have wc325 := hts (.constant RX11 325 (100000)) (List.mem_of_getElem? (i := 2) rfl)
  have wc326 := hts (.constant RX11 326 (1000000)) (List.mem_of_getElem? (i := 3) rfl)
  have hl := lv_entry ([.ref (h 0), .int p1, .int p2, .int p3, .int p4]) (n := 10) (Nat.le_of_ble_eq_true rfl)
  rw [lg_entry_eq]
  generalize (lg_sl ([.ref (h 0), .int p1, .int p2, .int p3, .int p4]) ++ List.replicate (10 - (lg_sl ([.ref (h 0), .int p1, .int p2, .int p3, .int p4])).length) Slot.unset).toArray = ls at hl ⊢
  have hl : lv_has ls 10 [(0, .ref (h 0)), (1, .int p1), (2, .int p2), (3, .int p3), (4, .int p4)] := hl
  unfold wC_X11_stays at hw
  clear hD0
  have L_62 : ∀ (n62 : Nat) (x1 : Int32) (x2 : Int32) (x3 : Int32) (x4 : Int32) (x5 : Int32) (x6 : Int32) (x7 : Int32) (x8 : Int32) (x9 : Int32) (S : CS) (H : Heap) (locs : List Loc) (ls : Array Slot), wC_X11_stays_62 post n62 x1 x2 x3 x4 x5 x6 x7 x8 x9 S → va_P D vwCl (wC h cy S) H → va_D A (wC h cy S) → va_S A s.heap H locs → lv_has ls 10 [(1, .int x1), (2, .int x2), (3, .int x3), (4, .int x4), (5, .int x5), (6, .int x6), (7, .int x7), (8, .int x8), (9, .int x9)] → W p l e (headSpec wsX11_stays { frames := 2, cells := 0, slots := 0, locals := 47 }).room s m (([.ref (h 0), .int p1, .int p2, .int p3, .int p4] : List Value).toArray) below meth c H locs 0 0 (MQ below (va_Qi post (k_Post D (tyC cy) (wC h cy) A) A) (([.ref (h 0), .int p1, .int p2, .int p3, .int p4] : List Value).toArray) s 0 0 A) (F0 m 62 ls []) := by
    intro n62
    induction n62 with
    | zero => intro x1 x2 x3 x4 x5 x6 x7 x8 x9 S H locs ls hw; exact False.elim hw
    | succ n62 ih_62 =>
      have J_103 : ∀ (x1 : Int32) (x2 : Int32) (x3 : Int32) (x4 : Int32) (x5 : Int32) (x6 : Int32) (x7 : Int32) (x8 : Int32) (x9 : Int32) (S : CS) (H : Heap) (locs : List Loc) (ls : Array Slot), wC_X11_stays_103 post (wC_X11_stays_62 post n62) x1 x2 x3 x4 x5 x6 x7 x8 x9 S → va_P D vwCl (wC h cy S) H → va_D A (wC h cy S) → va_S A s.heap H locs → lv_has ls 10 [(1, .int x1), (2, .int x2), (3, .int x3), (4, .int x4), (5, .int x5), (6, .int x6), (7, .int x7), (8, .int x8), (9, .int x9)] → W p l e (headSpec wsX11_stays { frames := 2, cells := 0, slots := 0, locals := 47 }).room s m (([.ref (h 0), .int p1, .int p2, .int p3, .int p4] : List Value).toArray) below meth c H locs 0 0 (MQ below (va_Qi post (k_Post D (tyC cy) (wC h cy) A) A) (([.ref (h 0), .int p1, .int p2, .int p3, .int p4] : List Value).toArray) s 0 0 A) (F0 m 103 ls []) := by
        intro x1 x2 x3 x4 x5 x6 x7 x8 x9 S H locs ls hw hP hD hS hl
        unfold wC_X11_stays_103 at hw
        refine lv_iload hx hb dX11_stays_103 (lv_at hl 7 rfl) ?_
        refine lv_bipush (v := 10) hx hb dX11_stays_105 (by decide) ?_
        refine lv_iload_n hx hb dX11_stays_107 rfl (lv_at hl 0 rfl) ?_
        refine lv_isub hx hb dX11_stays_108 ?_
        refine lv_imul hx hb dX11_stays_109 ?_
        refine lv_bipush (v := 10) hx hb dX11_stays_110 (by decide) ?_
        refine lv_idiv hx hb dX11_stays_112 (by decide) ?_
        refine lv_istore (lv' := [(8, .int ((x8 * (10 - x1)) / 10)), (1, .int x1), (2, .int x2), (3, .int x3), (4, .int x4), (5, .int x5), (6, .int x6), (7, .int x7), (9, .int x9)]) hx hb dX11_stays_113 hl (by decide) rfl (fun ls hl => ?_)
        refine lv_iinc (v := x9 + 1) (lv' := [(9, .int (x9 + 1)), (8, .int ((x8 * (10 - x1)) / 10)), (1, .int x1), (2, .int x2), (3, .int x3), (4, .int x4), (5, .int x5), (6, .int x6), (7, .int x7)]) hx hb dX11_stays_115 hl (k := 8) rfl (k_inc (by decide)) (by decide) rfl (fun ls hl => ?_)
        refine lv_goto (tgt := 62) hx hb dX11_stays_118 (by decide) ?_
        exact ih_62 x1 x2 x3 x4 x5 x6 x7 ((x8 * (10 - x1)) / 10) (x9 + 1) S _ _ _ hw hP hD hS (lv_sub hl [2, 3, 4, 5, 6, 7, 8, 1, 0] rfl)
      intro x1 x2 x3 x4 x5 x6 x7 x8 x9 S H locs ls hw hP hD hS hl
      unfold wC_X11_stays_62 at hw
      refine lv_iload hx hb dX11_stays_62 (lv_at hl 8 rfl) ?_
      refine lv_bipush (v := 6) hx hb dX11_stays_64 (by decide) ?_
      obtain ⟨hc_1t, hc_1f⟩ := hw
      refine lv_icmp_gt (tgt := 121) hx hb dX11_stays_66 (by decide) (fun c_1 => ?_) (fun c_1 => ?_)
      · have hw := hc_1t c_1
        clear hc_1t hc_1f
        refine lv_iload hx hb dX11_stays_121 (lv_at hl 3 rfl) ?_
        obtain ⟨hc_2t, hc_2f⟩ := hw
        refine lv_if_ne (tgt := 131) hx hb dX11_stays_123 (by decide) (fun c_2 => ?_) (fun c_2 => ?_)
        · have hw := hc_2f c_2
          clear hc_2t hc_2f
          refine lv_iload hx hb dX11_stays_131 (lv_at hl 5 rfl) ?_
          refine lv_ldcw (v := 1000000) hx hb hown wc326 dX11_stays_133 ?_
          refine lv_iload hx hb dX11_stays_136 (lv_at hl 3 rfl) ?_
          refine lv_iconst (v := 2) hx hb dX11_stays_138 (by decide) ?_
          obtain ⟨hc_3t, hc_3f⟩ := hw
          refine lv_icmp_ne (tgt := 146) hx hb dX11_stays_139 (by decide) (fun c_3 => ?_) (fun c_3 => ?_)
          · have hw := hc_3f c_3
            clear hc_3t hc_3f
            refine lv_iconst (v := 0) hx hb dX11_stays_146 (by decide) ?_
            refine e_callSi (As := [.int x6, .int 1000000, .int 0]) (rest := []) nxE_stable hs ⟨hx, hb, hml, hown, hts⟩ (cC_X11_inLowestTerms l D h cy _ _ _ _ _ hw) (va_cwS 3 hts gX11_stays_X11_inLowestTerms rfl rfl rfl (by decide +kernel) ⟨Nat.le_of_ble_eq_true rfl, Nat.le_of_ble_eq_true rfl⟩) hK hP hD hS hA rfl hl.1 rfl (Nat.le_of_ble_eq_true rfl) dX11_stays_147 ⟨Nat.zero_le _, Nat.zero_le _⟩ (fun r_4 S_5 H locs hw hP hD hS => ?_)
            exact W.iret (v := r_4) hx hb hr (fun t ht hW => ⟨⟨r_4, S_5, rfl, hw, by rw [ht]; exact hP, va_K.moved hW.alike hK, hD⟩, hS.F ht⟩) hS.2.2 dX11_stays_150
          · have hw := hc_3t c_3
            clear hc_3t hc_3f
            refine lv_iconst (v := 1) hx hb dX11_stays_142 (by decide) ?_
            refine lv_goto (tgt := 147) hx hb dX11_stays_143 (by decide) ?_
            refine e_callSi (As := [.int x6, .int 1000000, .int 1]) (rest := []) nxE_stable hs ⟨hx, hb, hml, hown, hts⟩ (cC_X11_inLowestTerms l D h cy _ _ _ _ _ hw) (va_cwS 3 hts gX11_stays_X11_inLowestTerms rfl rfl rfl (by decide +kernel) ⟨Nat.le_of_ble_eq_true rfl, Nat.le_of_ble_eq_true rfl⟩) hK hP hD hS hA rfl hl.1 rfl (Nat.le_of_ble_eq_true rfl) dX11_stays_147 ⟨Nat.zero_le _, Nat.zero_le _⟩ (fun r_6 S_7 H locs hw hP hD hS => ?_)
            exact W.iret (v := r_6) hx hb hr (fun t ht hW => ⟨⟨r_6, S_7, rfl, hw, by rw [ht]; exact hP, va_K.moved hW.alike hK, hD⟩, hS.F ht⟩) hS.2.2 dX11_stays_150
        · have hw := hc_2t c_2
          clear hc_2t hc_2f
          refine lv_iload hx hb dX11_stays_126 (lv_at hl 4 rfl) ?_
          refine lv_goto (tgt := 150) hx hb dX11_stays_128 (by decide) ?_
          exact W.iret (v := x5) hx hb hr (fun t ht hW => ⟨⟨x5, S, rfl, hw, by rw [ht]; exact hP, va_K.moved hW.alike hK, hD⟩, hS.F ht⟩) hS.2.2 dX11_stays_150
      · have hw := hc_1f c_1
        clear hc_1t hc_1f
        refine lv_iload hx hb dX11_stays_69 (lv_at hl 6 rfl) ?_
        refine lv_iload hx hb dX11_stays_71 (lv_at hl 7 rfl) ?_
        refine lv_iload_n hx hb dX11_stays_73 rfl (lv_at hl 0 rfl) ?_
        refine lv_iload_n hx hb dX11_stays_74 rfl (lv_at hl 1 rfl) ?_
        refine lv_imul hx hb dX11_stays_75 ?_
        refine lv_bipush (v := 10) hx hb dX11_stays_76 (by decide) ?_
        refine lv_iload hx hb dX11_stays_78 (lv_at hl 8 rfl) ?_
        refine lv_imul hx hb dX11_stays_80 ?_
        refine lv_iload_n hx hb dX11_stays_81 rfl (lv_at hl 2 rfl) ?_
        refine lv_imul hx hb dX11_stays_82 ?_
        refine lv_isub hx hb dX11_stays_83 ?_
        refine lv_imul hx hb dX11_stays_84 ?_
        refine lv_iadd hx hb dX11_stays_85 ?_
        refine lv_istore (lv' := [(7, .int (x7 + (x8 * ((x1 * x2) - ((10 * x9) * x3))))), (1, .int x1), (2, .int x2), (3, .int x3), (4, .int x4), (5, .int x5), (6, .int x6), (8, .int x8), (9, .int x9)]) hx hb dX11_stays_86 hl (by decide) rfl (fun ls hl => ?_)
        refine lv_iload hx hb dX11_stays_88 (lv_at hl 0 rfl) ?_
        refine lv_iload hx hb dX11_stays_90 (lv_at hl 6 rfl) ?_
        obtain ⟨hc_8t, hc_8f⟩ := hw
        refine lv_icmp_le (tgt := 103) hx hb dX11_stays_92 (by decide) (fun c_8 => ?_) (fun c_8 => ?_)
        · have hw := hc_8t c_8
          clear hc_8t hc_8f
          exact J_103 x1 x2 x3 x4 x5 x6 (x7 + (x8 * ((x1 * x2) - ((10 * x9) * x3)))) x8 x9 S _ _ _ hw hP hD hS (lv_sub hl [1, 2, 3, 4, 5, 6, 0, 7, 8] rfl)
        · have hw := hc_8f c_8
          clear hc_8t hc_8f
          refine lv_iload hx hb dX11_stays_95 (lv_at hl 0 rfl) ?_
          refine lv_istore (lv' := [(6, .int (x7 + (x8 * ((x1 * x2) - ((10 * x9) * x3))))), (7, .int (x7 + (x8 * ((x1 * x2) - ((10 * x9) * x3))))), (1, .int x1), (2, .int x2), (3, .int x3), (4, .int x4), (5, .int x5), (8, .int x8), (9, .int x9)]) hx hb dX11_stays_97 hl (by decide) rfl (fun ls hl => ?_)
          refine lv_iload hx hb dX11_stays_99 (lv_at hl 8 rfl) ?_
          refine lv_istore (lv' := [(5, .int x9), (6, .int (x7 + (x8 * ((x1 * x2) - ((10 * x9) * x3))))), (7, .int (x7 + (x8 * ((x1 * x2) - ((10 * x9) * x3))))), (1, .int x1), (2, .int x2), (3, .int x3), (4, .int x4), (8, .int x8), (9, .int x9)]) hx hb dX11_stays_101 hl (by decide) rfl (fun ls hl => ?_)
          exact J_103 x1 x2 x3 x4 x9 (x7 + (x8 * ((x1 * x2) - ((10 * x9) * x3)))) (x7 + (x8 * ((x1 * x2) - ((10 * x9) * x3)))) x8 x9 S _ _ _ hw hP hD hS (lv_sub hl [3, 4, 5, 6, 0, 1, 2, 7, 8] rfl)
  refine lv_iload_n hx hb dX11_stays_0 rfl (lv_at hl 1 rfl) ?_
  refine lv_iconst (v := 0) hx hb dX11_stays_1 (by decide) ?_
  refine lv_bipush (v := 10) hx hb dX11_stays_2 (by decide) ?_
  refine e_callSi (As := [.int p1, .int 0, .int 10]) (rest := []) nxE_stable hs ⟨hx, hb, hml, hown, hts⟩ (cC_X11_within l D h cy _ _ _ _ _ hw) (va_cwS 3 hts gX11_stays_X11_within rfl rfl rfl (by decide +kernel) ⟨Nat.le_of_ble_eq_true rfl, Nat.le_of_ble_eq_true rfl⟩) hK hP hD hS hA rfl hl.1 rfl (Nat.le_of_ble_eq_true rfl) dX11_stays_4 ⟨Nat.zero_le _, Nat.zero_le _⟩ (fun r_9 S_10 H locs hw hP hD hS => ?_)
  obtain ⟨hc_11t, hc_11f⟩ := hw
  refine lv_if_eq (tgt := 41) hx hb dX11_stays_7 (by decide) (fun c_11 => ?_) (fun c_11 => ?_)
  · have hw := hc_11t c_11
    clear hc_11t hc_11f
    refine lv_ldcw (v := (-100000)) hx hb hown wc324 dX11_stays_41 ?_
    exact W.iret (v := (-100000)) hx hb hr (fun t ht hW => ⟨⟨(-100000), S_10, rfl, hw, by rw [ht]; exact hP, va_K.moved hW.alike hK, hD⟩, hS.F ht⟩) hS.2.2 dX11_stays_44
  · have hw := hc_11f c_11
    clear hc_11t hc_11f
    refine lv_iload_n hx hb dX11_stays_10 rfl (lv_at hl 2 rfl) ?_
    refine lv_iconst (v := 0) hx hb dX11_stays_11 (by decide) ?_
    refine lv_sipush (v := 999) hx hb dX11_stays_12 (by decide) ?_
    refine e_callSi (As := [.int p2, .int 0, .int 999]) (rest := []) nxE_stable hs ⟨hx, hb, hml, hown, hts⟩ (cC_X11_within l D h cy _ _ _ _ _ hw) (va_cwS 3 hts gX11_stays_X11_within rfl rfl rfl (by decide +kernel) ⟨Nat.le_of_ble_eq_true rfl, Nat.le_of_ble_eq_true rfl⟩) hK hP hD hS hA rfl hl.1 rfl (Nat.le_of_ble_eq_true rfl) dX11_stays_15 ⟨Nat.zero_le _, Nat.zero_le _⟩ (fun r_12 S_13 H locs hw hP hD hS => ?_)
    obtain ⟨hc_14t, hc_14f⟩ := hw
    refine lv_if_eq (tgt := 41) hx hb dX11_stays_18 (by decide) (fun c_14 => ?_) (fun c_14 => ?_)
    · have hw := hc_14t c_14
      clear hc_14t hc_14f
      refine lv_ldcw (v := (-100000)) hx hb hown wc324 dX11_stays_41 ?_
      exact W.iret (v := (-100000)) hx hb hr (fun t ht hW => ⟨⟨(-100000), S_13, rfl, hw, by rw [ht]; exact hP, va_K.moved hW.alike hK, hD⟩, hS.F ht⟩) hS.2.2 dX11_stays_44
    · have hw := hc_14f c_14
      clear hc_14t hc_14f
      refine lv_iload_n hx hb dX11_stays_21 rfl (lv_at hl 3 rfl) ?_
      refine lv_iconst (v := 0) hx hb dX11_stays_22 (by decide) ?_
      refine lv_bipush (v := 99) hx hb dX11_stays_23 (by decide) ?_
      refine e_callSi (As := [.int p3, .int 0, .int 99]) (rest := []) nxE_stable hs ⟨hx, hb, hml, hown, hts⟩ (cC_X11_within l D h cy _ _ _ _ _ hw) (va_cwS 3 hts gX11_stays_X11_within rfl rfl rfl (by decide +kernel) ⟨Nat.le_of_ble_eq_true rfl, Nat.le_of_ble_eq_true rfl⟩) hK hP hD hS hA rfl hl.1 rfl (Nat.le_of_ble_eq_true rfl) dX11_stays_25 ⟨Nat.zero_le _, Nat.zero_le _⟩ (fun r_15 S_16 H locs hw hP hD hS => ?_)
      obtain ⟨hc_17t, hc_17f⟩ := hw
      refine lv_if_eq (tgt := 41) hx hb dX11_stays_28 (by decide) (fun c_17 => ?_) (fun c_17 => ?_)
      · have hw := hc_17t c_17
        clear hc_17t hc_17f
        refine lv_ldcw (v := (-100000)) hx hb hown wc324 dX11_stays_41 ?_
        exact W.iret (v := (-100000)) hx hb hr (fun t ht hW => ⟨⟨(-100000), S_16, rfl, hw, by rw [ht]; exact hP, va_K.moved hW.alike hK, hD⟩, hS.F ht⟩) hS.2.2 dX11_stays_44
      · have hw := hc_17f c_17
        clear hc_17t hc_17f
        refine lv_iload hx hb dX11_stays_31 (lv_at hl 4 rfl) ?_
        refine lv_iconst (v := 0) hx hb dX11_stays_33 (by decide) ?_
        refine lv_iconst (v := 2) hx hb dX11_stays_34 (by decide) ?_
        refine e_callSi (As := [.int p4, .int 0, .int 2]) (rest := []) nxE_stable hs ⟨hx, hb, hml, hown, hts⟩ (cC_X11_within l D h cy _ _ _ _ _ hw) (va_cwS 3 hts gX11_stays_X11_within rfl rfl rfl (by decide +kernel) ⟨Nat.le_of_ble_eq_true rfl, Nat.le_of_ble_eq_true rfl⟩) hK hP hD hS hA rfl hl.1 rfl (Nat.le_of_ble_eq_true rfl) dX11_stays_35 ⟨Nat.zero_le _, Nat.zero_le _⟩ (fun r_18 S_19 H locs hw hP hD hS => ?_)
        obtain ⟨hc_20t, hc_20f⟩ := hw
        refine lv_if_ne (tgt := 45) hx hb dX11_stays_38 (by decide) (fun c_20 => ?_) (fun c_20 => ?_)
        · have hw := hc_20f c_20
          clear hc_20t hc_20f
          refine lv_iconst (v := 0) hx hb dX11_stays_45 (by decide) ?_
          refine lv_istore (lv' := [(5, .int 0), (0, .ref (h 0)), (1, .int p1), (2, .int p2), (3, .int p3), (4, .int p4)]) hx hb dX11_stays_46 hl (by decide) rfl (fun ls hl => ?_)
          refine lv_iconst (v := 0) hx hb dX11_stays_48 (by decide) ?_
          refine lv_istore (lv' := [(6, .int 0), (5, .int 0), (0, .ref (h 0)), (1, .int p1), (2, .int p2), (3, .int p3), (4, .int p4)]) hx hb dX11_stays_49 hl (by decide) rfl (fun ls hl => ?_)
          refine lv_iconst (v := 0) hx hb dX11_stays_51 (by decide) ?_
          refine lv_istore (lv' := [(7, .int 0), (6, .int 0), (5, .int 0), (0, .ref (h 0)), (1, .int p1), (2, .int p2), (3, .int p3), (4, .int p4)]) hx hb dX11_stays_52 hl (by decide) rfl (fun ls hl => ?_)
          refine lv_ldcw (v := 100000) hx hb hown wc325 dX11_stays_54 ?_
          refine lv_istore (lv' := [(8, .int 100000), (7, .int 0), (6, .int 0), (5, .int 0), (0, .ref (h 0)), (1, .int p1), (2, .int p2), (3, .int p3), (4, .int p4)]) hx hb dX11_stays_57 hl (by decide) rfl (fun ls hl => ?_)
          refine lv_iconst (v := 1) hx hb dX11_stays_59 (by decide) ?_
          refine lv_istore (lv' := [(9, .int 1), (8, .int 100000), (7, .int 0), (6, .int 0), (5, .int 0), (0, .ref (h 0)), (1, .int p1), (2, .int p2), (3, .int p3), (4, .int p4)]) hx hb dX11_stays_60 hl (by decide) rfl (fun ls hl => ?_)
          obtain ⟨n_62, hw⟩ := hw
          exact L_62 n_62 p1 p2 p3 p4 0 0 0 100000 1 S_19 _ _ _ hw hP hD hS (lv_sub hl [6, 7, 8, 9, 4, 3, 2, 1, 0] rfl)
        · have hw := hc_20t c_20
          clear hc_20t hc_20f
          refine lv_ldcw (v := (-100000)) hx hb hown wc324 dX11_stays_41 ?_
          exact W.iret (v := (-100000)) hx hb hr (fun t ht hW => ⟨⟨(-100000), S_19, rfl, hw, by rw [ht]; exact hP, va_K.moved hW.alike hK, hD⟩, hS.F ht⟩) hS.2.2 dX11_stays_44
def wC_X11_behind (p1 : Int32) (p2 : Int32) (S : CS) (post : Int32 → CS → Prop) : Prop := wC_X11_isFall p1 S (fun r_1 S_2 => ((r_1 = 0 → post 0 S_2) ∧ (¬ (r_1 = 0) → wC_X11_isFall p2 S_2 (fun r_4 S_5 => ((r_4 = 0 → post 0 S_5) ∧ (¬ (r_4 = 0) → ((p1 = p2 → post 0 S_5) ∧ (¬ (p1 = p2) → (∀ S_8 : CS, S_8 = (cx_set_c_aheads S_5 (k_put 5 (cx_c_aheads S_5) p1 ((k_at 5 (cx_c_aheads S_5) p1) ||| (k_shl 1 p2)))) → ((((k_shr (k_at 5 (cx_c_aheads S_5) p1) p2) &&& 1) = 0 → post 1 S_8) ∧ (¬ (((k_shr (k_at 5 (cx_c_aheads S_5) p1) p2) &&& 1) = 0) → post 0 S_8)))))))))))
set_option maxHeartbeats 4000000 in
set_option maxRecDepth 100000 in
theorem cC_X11_behind (l : Launch) (D : va_G) (h : Nat → Nat) (cy : Nat → ClassId) (p1 : Int32) (p2 : Int32) (S : CS) (post : Int32 → CS → Prop) (hw : wC_X11_behind p1 p2 S post) : e_Mi nxE l yX11_behind wsX11_behind { frames := 2, cells := 0, slots := 0, locals := 42 } D (tyC cy) (wC h cy) [.ref (h 0), .int p1, .int p2] S post := by
  intro sz
  refine Met.ofW (cc := cX11_behind) (maxL := 4) (ret := (some .boolean)) (by decide) rfl ?_
  intro p e s m args below meth c s₁ B hml hv
  obtain ⟨rfl, hsz, hP, hK, hD0, hs⟩ := hv
  have hx := B.exec
  have hb := B.bytes
  have hr := B.returns
  have hts := atoms_spec (ws := wsX11_behind) B.pre
  have hown : s.vm.findClass RX11 = some m.cls := findClass_of_methodNamed B.named
  have hlocks := B.notSynchronized
  subst hsz
  have hD := hD0.self (sz := s.heap.size)
  generalize hAe : va_A (wC h cy S) s.heap.size = A at hD ⊢
  have hA : ∀ q : Nat, s.heap.size ≤ q → A q := fun q h => by rw [← hAe]; exact Or.inr h
  have hS : va_S A s.heap s.heap [] := va_S.rf
  have hin11 : ∀ w ∈ wsX110, w ∈ wsX11_behind := fun _ h => List.mem_cons_of_mem _ (List.mem_append_left _ (List.mem_append_right _ h))
  have hin0 : ∀ w ∈ wsX00, w ∈ wsX11_behind := fun _ h => List.mem_cons_of_mem _ (List.mem_append_right _ h)
  have w10 := hts (.fieldLink RX11 10 "ClownsMourn" "city" "LClownsMourn$City;") (List.mem_of_getElem? (i := 1) rfl)
  have w327 := hts (.fieldLink RX11 327 "ClownsMourn$City" "aheads" "[I") (List.mem_of_getElem? (i := 2) rfl)
  have hl := lv_entry ([.ref (h 0), .int p1, .int p2]) (n := 4) (Nat.le_of_ble_eq_true rfl)
  rw [lg_entry_eq]
  generalize (lg_sl ([.ref (h 0), .int p1, .int p2]) ++ List.replicate (4 - (lg_sl ([.ref (h 0), .int p1, .int p2])).length) Slot.unset).toArray = ls at hl ⊢
  have hl : lv_has ls 4 [(0, .ref (h 0)), (1, .int p1), (2, .int p2)] := hl
  unfold wC_X11_behind at hw
  clear hD0
  refine lv_iload_n hx hb dX11_behind_0 rfl (lv_at hl 1 rfl) ?_
  refine e_callSi (As := [.int p1]) (rest := []) nxE_stable hs ⟨hx, hb, hml, hown, hts⟩ (cC_X11_isFall l D h cy _ _ _ hw) (va_cwS 1 hts gX11_behind_X11_isFall rfl rfl rfl (by decide +kernel) ⟨Nat.le_of_ble_eq_true rfl, Nat.le_of_ble_eq_true rfl⟩) hK hP hD hS hA rfl hl.1 rfl (Nat.le_of_ble_eq_true rfl) dX11_behind_1 ⟨Nat.zero_le _, Nat.zero_le _⟩ (fun r_1 S_2 H locs hw hP hD hS => ?_)
  obtain ⟨hc_3t, hc_3f⟩ := hw
  refine lv_if_eq (tgt := 19) hx hb dX11_behind_4 (by decide) (fun c_3 => ?_) (fun c_3 => ?_)
  · have hw := hc_3t c_3
    clear hc_3t hc_3f
    refine lv_iconst (v := 0) hx hb dX11_behind_19 (by decide) ?_
    exact W.zret (v := 0) hx hb hr (by decide +kernel) (fun t ht hW => ⟨⟨0, S_2, rfl, hw, by rw [ht]; exact hP, va_K.moved hW.alike hK, hD⟩, hS.F ht⟩) hS.2.2 dX11_behind_20
  · have hw := hc_3f c_3
    clear hc_3t hc_3f
    refine lv_iload_n hx hb dX11_behind_7 rfl (lv_at hl 2 rfl) ?_
    refine e_callSi (As := [.int p2]) (rest := []) nxE_stable hs ⟨hx, hb, hml, hown, hts⟩ (cC_X11_isFall l D h cy _ _ _ hw) (va_cwS 1 hts gX11_behind_X11_isFall rfl rfl rfl (by decide +kernel) ⟨Nat.le_of_ble_eq_true rfl, Nat.le_of_ble_eq_true rfl⟩) hK hP hD hS hA rfl hl.1 rfl (Nat.le_of_ble_eq_true rfl) dX11_behind_8 ⟨Nat.zero_le _, Nat.zero_le _⟩ (fun r_4 S_5 H locs hw hP hD hS => ?_)
    obtain ⟨hc_6t, hc_6f⟩ := hw
    refine lv_if_eq (tgt := 19) hx hb dX11_behind_11 (by decide) (fun c_6 => ?_) (fun c_6 => ?_)
    · have hw := hc_6t c_6
      clear hc_6t hc_6f
      refine lv_iconst (v := 0) hx hb dX11_behind_19 (by decide) ?_
      exact W.zret (v := 0) hx hb hr (by decide +kernel) (fun t ht hW => ⟨⟨0, S_5, rfl, hw, by rw [ht]; exact hP, va_K.moved hW.alike hK, hD⟩, hS.F ht⟩) hS.2.2 dX11_behind_20
    · have hw := hc_6f c_6
      clear hc_6t hc_6f
      refine lv_iload_n hx hb dX11_behind_14 rfl (lv_at hl 1 rfl) ?_
      refine lv_iload_n hx hb dX11_behind_15 rfl (lv_at hl 2 rfl) ?_
      obtain ⟨hc_7t, hc_7f⟩ := hw
      refine lv_icmp_ne (tgt := 21) hx hb dX11_behind_16 (by decide) (fun c_7 => ?_) (fun c_7 => ?_)
      · have hw := hc_7f c_7
        clear hc_7t hc_7f
        refine lv_aload_n hx hb dX11_behind_21 rfl (lv_at hl 0 rfl) ?_
        refine va_get (D := D) (ci := 10) (v := .ref (h 1)) (C := RX11) (T := TX11) (N := 9) hx hb hts hin11 hown hK hP 0 rfl rfl 0 (by decide) w10 (fun _ h9 => h9) rfl dX11_behind_22 ?_
        refine va_get (D := D) (ci := 0) (v := .ref (h 21)) (C := RX0) (T := TX0) (N := 16) hx hb hts hin0 hown hK hP 1 rfl rfl 13 (by decide) w327 (fun _ h9 => h9) rfl dX11_behind_25 ?_
        refine lv_iload_n hx hb dX11_behind_28 rfl (lv_at hl 1 rfl) ?_
        refine e_callSi (As := [.ref (h 21), .int p1]) (rest := []) nxE_stable hs ⟨hx, hb, hml, hown, hts⟩ (cA_at l D nxE (tyC cy) (wC h cy) S_5 21 9 _ _ 5 (cx_c_aheads S_5) rfl rfl (by decide) _ (fun r S0 => r = k_at 5 (cx_c_aheads S_5) p1 ∧ S_5 = S0) ⟨rfl, rfl⟩) (va_cwS 2 hts gX11_behind_X11_at rfl rfl rfl (by decide +kernel) ⟨Nat.le_of_ble_eq_true rfl, Nat.le_of_ble_eq_true rfl⟩) hK hP hD hS hA rfl hl.1 rfl (Nat.le_of_ble_eq_true rfl) dX11_behind_29 ⟨Nat.zero_le _, Nat.zero_le _⟩ (fun r_ S_ H locs hq hP hD hS => ?_)
        obtain ⟨rfl, rfl⟩ := hq
        refine lv_istore_n (lv' := [(3, .int (k_at 5 (cx_c_aheads S_5) p1)), (0, .ref (h 0)), (1, .int p1), (2, .int p2)]) hx hb dX11_behind_32 rfl hl (by decide) rfl (fun ls hl => ?_)
        refine lv_aload_n hx hb dX11_behind_33 rfl (lv_at hl 1 rfl) ?_
        refine va_get (D := D) (ci := 10) (v := .ref (h 1)) (C := RX11) (T := TX11) (N := 9) hx hb hts hin11 hown hK hP 0 rfl rfl 0 (by decide) w10 (fun _ h9 => h9) rfl dX11_behind_34 ?_
        refine va_get (D := D) (ci := 0) (v := .ref (h 21)) (C := RX0) (T := TX0) (N := 16) hx hb hts hin0 hown hK hP 1 rfl rfl 13 (by decide) w327 (fun _ h9 => h9) rfl dX11_behind_37 ?_
        refine lv_iload_n hx hb dX11_behind_40 rfl (lv_at hl 2 rfl) ?_
        refine lv_iload_n hx hb dX11_behind_41 rfl (lv_at hl 0 rfl) ?_
        refine lv_iconst (v := 1) hx hb dX11_behind_42 (by decide) ?_
        refine lv_iload_n hx hb dX11_behind_43 rfl (lv_at hl 3 rfl) ?_
        refine k_ishl hx hb dX11_behind_44 ?_
        refine lv_ior hx hb dX11_behind_45 ?_
        refine e_callSv (As := [.ref (h 21), .int p1, .int ((k_at 5 (cx_c_aheads S_5) p1) ||| (k_shl 1 p2))]) (rest := []) nxE_stable hs ⟨hx, hb, hml, hown, hts⟩ (cA_put l D nxE (tyC cy) (wC h cy) cx_c_aheads cx_set_c_aheads S_5 21 9 _ _ 5 rfl (wCs_c_aheads h cy S_5) rfl (by decide) _ _ (fun S0 => S0 = (cx_set_c_aheads S_5 (k_put 5 (cx_c_aheads S_5) p1 ((k_at 5 (cx_c_aheads S_5) p1) ||| (k_shl 1 p2))))) rfl) (va_cwS 3 hts gX11_behind_X11_put rfl rfl rfl (by decide +kernel) ⟨Nat.le_of_ble_eq_true rfl, Nat.le_of_ble_eq_true rfl⟩) hK hP hD hS hA rfl hl.1 rfl (Nat.le_of_ble_eq_true rfl) dX11_behind_46 ⟨Nat.zero_le _, Nat.zero_le _⟩ (fun S_8 H locs eS_8 hP hD hS => ?_)
        replace hw := hw S_8 eS_8
        refine lv_iload_n hx hb dX11_behind_49 rfl (lv_at hl 0 rfl) ?_
        refine lv_iload_n hx hb dX11_behind_50 rfl (lv_at hl 3 rfl) ?_
        refine k_ishr hx hb dX11_behind_51 ?_
        refine lv_iconst (v := 1) hx hb dX11_behind_52 (by decide) ?_
        refine lv_iand hx hb dX11_behind_53 ?_
        obtain ⟨hc_9t, hc_9f⟩ := hw
        refine lv_if_ne (tgt := 61) hx hb dX11_behind_54 (by decide) (fun c_9 => ?_) (fun c_9 => ?_)
        · have hw := hc_9f c_9
          clear hc_9t hc_9f
          refine lv_iconst (v := 0) hx hb dX11_behind_61 (by decide) ?_
          exact W.zret (v := 0) hx hb hr (by decide +kernel) (fun t ht hW => ⟨⟨0, S_8, rfl, hw, by rw [ht]; exact hP, va_K.moved hW.alike hK, hD⟩, hS.F ht⟩) hS.2.2 dX11_behind_62
        · have hw := hc_9t c_9
          clear hc_9t hc_9f
          refine lv_iconst (v := 1) hx hb dX11_behind_57 (by decide) ?_
          refine lv_goto (tgt := 62) hx hb dX11_behind_58 (by decide) ?_
          exact W.zret (v := 1) hx hb hr (by decide +kernel) (fun t ht hW => ⟨⟨1, S_8, rfl, hw, by rw [ht]; exact hP, va_K.moved hW.alike hK, hD⟩, hS.F ht⟩) hS.2.2 dX11_behind_62
      · have hw := hc_7t c_7
        clear hc_7t hc_7f
        refine lv_iconst (v := 0) hx hb dX11_behind_19 (by decide) ?_
        exact W.zret (v := 0) hx hb hr (by decide +kernel) (fun t ht hW => ⟨⟨0, S_5, rfl, hw, by rw [ht]; exact hP, va_K.moved hW.alike hK, hD⟩, hS.F ht⟩) hS.2.2 dX11_behind_20
def wC_X11_canLearn_city_aheads (p2 : Int32) (p3 : Int32) (S : CS) (post : Int32 → CS → Prop) : Prop := ((((k_shr p2 p3) &&& 1) = 0 → ((((k_at 5 (cx_c_aheads S) p3) &&& (p2 ^^^ (-1))) = 0 → post 1 S) ∧ (¬ (((k_at 5 (cx_c_aheads S) p3) &&& (p2 ^^^ (-1))) = 0) → post 0 S))) ∧ (¬ (((k_shr p2 p3) &&& 1) = 0) → post 0 S))
set_option maxHeartbeats 4000000 in
set_option maxRecDepth 100000 in
theorem cC_X11_canLearn_city_aheads (l : Launch) (D : va_G) (h : Nat → Nat) (cy : Nat → ClassId) (p2 : Int32) (p3 : Int32) (S : CS) (post : Int32 → CS → Prop) (hw : wC_X11_canLearn_city_aheads p2 p3 S post) : e_Mi nxE l yX11_canLearn wsX11_canLearn { frames := 1, cells := 0, slots := 0, locals := 21 } D (tyC cy) (wC h cy) [.ref (h 21), .int p2, .int p3] S post := by
  intro sz
  refine Met.ofW (cc := cX11_canLearn) (maxL := 3) (ret := (some .boolean)) (by decide) rfl ?_
  intro p e s m args below meth c s₁ B hml hv
  obtain ⟨rfl, hsz, hP, hK, hD0, hs⟩ := hv
  have hx := B.exec
  have hb := B.bytes
  have hr := B.returns
  have hts := atoms_spec (ws := wsX11_canLearn) B.pre
  have hown : s.vm.findClass RX11 = some m.cls := findClass_of_methodNamed B.named
  have hlocks := B.notSynchronized
  subst hsz
  have hD := hD0.self (sz := s.heap.size)
  generalize hAe : va_A (wC h cy S) s.heap.size = A at hD ⊢
  have hA : ∀ q : Nat, s.heap.size ≤ q → A q := fun q h => by rw [← hAe]; exact Or.inr h
  have hS : va_S A s.heap s.heap [] := va_S.rf
  have hl := lv_entry ([.ref (h 21), .int p2, .int p3]) (n := 3) (Nat.le_of_ble_eq_true rfl)
  rw [lg_entry_eq]
  generalize (lg_sl ([.ref (h 21), .int p2, .int p3]) ++ List.replicate (3 - (lg_sl ([.ref (h 21), .int p2, .int p3])).length) Slot.unset).toArray = ls at hl ⊢
  have hl : lv_has ls 3 [(0, .ref (h 21)), (1, .int p2), (2, .int p3)] := hl
  unfold wC_X11_canLearn_city_aheads at hw
  clear hD0
  refine lv_iload_n hx hb dX11_canLearn_0 rfl (lv_at hl 1 rfl) ?_
  refine lv_iload_n hx hb dX11_canLearn_1 rfl (lv_at hl 2 rfl) ?_
  refine k_ishr hx hb dX11_canLearn_2 ?_
  refine lv_iconst (v := 1) hx hb dX11_canLearn_3 (by decide) ?_
  refine lv_iand hx hb dX11_canLearn_4 ?_
  obtain ⟨hc_1t, hc_1f⟩ := hw
  refine lv_if_ne (tgt := 24) hx hb dX11_canLearn_5 (by decide) (fun c_1 => ?_) (fun c_1 => ?_)
  · have hw := hc_1f c_1
    clear hc_1t hc_1f
    refine lv_iconst (v := 0) hx hb dX11_canLearn_24 (by decide) ?_
    exact W.zret (v := 0) hx hb hr (by decide +kernel) (fun t ht hW => ⟨⟨0, S, rfl, hw, by rw [ht]; exact hP, va_K.moved hW.alike hK, hD⟩, hS.F ht⟩) hS.2.2 dX11_canLearn_25
  · have hw := hc_1t c_1
    clear hc_1t hc_1f
    refine lv_aload_n hx hb dX11_canLearn_8 rfl (lv_at hl 0 rfl) ?_
    refine lv_iload_n hx hb dX11_canLearn_9 rfl (lv_at hl 2 rfl) ?_
    refine e_callSi (As := [.ref (h 21), .int p3]) (rest := []) nxE_stable hs ⟨hx, hb, hml, hown, hts⟩ (cA_at l D nxE (tyC cy) (wC h cy) S 21 9 _ _ 5 (cx_c_aheads S) rfl rfl (by decide) _ (fun r S0 => r = k_at 5 (cx_c_aheads S) p3 ∧ S = S0) ⟨rfl, rfl⟩) (va_cwS 2 hts gX11_canLearn_X11_at rfl rfl rfl (by decide +kernel) ⟨Nat.le_of_ble_eq_true rfl, Nat.le_of_ble_eq_true rfl⟩) hK hP hD hS hA rfl hl.1 rfl (Nat.le_of_ble_eq_true rfl) dX11_canLearn_10 ⟨Nat.zero_le _, Nat.zero_le _⟩ (fun r_ S_ H locs hq hP hD hS => ?_)
    obtain ⟨rfl, rfl⟩ := hq
    refine lv_iload_n hx hb dX11_canLearn_13 rfl (lv_at hl 1 rfl) ?_
    refine lv_iconst (v := (-1)) hx hb dX11_canLearn_14 (by decide) ?_
    refine lv_ixor hx hb dX11_canLearn_15 ?_
    refine lv_iand hx hb dX11_canLearn_16 ?_
    obtain ⟨hc_2t, hc_2f⟩ := hw
    refine lv_if_ne (tgt := 24) hx hb dX11_canLearn_17 (by decide) (fun c_2 => ?_) (fun c_2 => ?_)
    · have hw := hc_2f c_2
      clear hc_2t hc_2f
      refine lv_iconst (v := 0) hx hb dX11_canLearn_24 (by decide) ?_
      exact W.zret (v := 0) hx hb hr (by decide +kernel) (fun t ht hW => ⟨⟨0, S, rfl, hw, by rw [ht]; exact hP, va_K.moved hW.alike hK, hD⟩, hS.F ht⟩) hS.2.2 dX11_canLearn_25
    · have hw := hc_2t c_2
      clear hc_2t hc_2f
      refine lv_iconst (v := 1) hx hb dX11_canLearn_20 (by decide) ?_
      refine lv_goto (tgt := 25) hx hb dX11_canLearn_21 (by decide) ?_
      exact W.zret (v := 1) hx hb hr (by decide +kernel) (fun t ht hW => ⟨⟨1, S, rfl, hw, by rw [ht]; exact hP, va_K.moved hW.alike hK, hD⟩, hS.F ht⟩) hS.2.2 dX11_canLearn_25
def wC_X11_ordersFrom_city_aheads_12 (Rc : Int32 → CS → (Int32 → CS → Prop) → Prop) (post : Int32 → CS → Prop) : Nat → Int32 → Int32 → Int32 → CS → Prop
  | 0, _, _, _, _ => False
  | n + 1, x1, x2, x3, S => ((5 ≤ x3 → post x2 S) ∧ (¬ (5 ≤ x3) → wC_X11_canLearn_city_aheads x1 x3 S (fun r_2 S_3 => ((r_2 = 0 → wC_X11_ordersFrom_city_aheads_12 Rc post n x1 x2 (x3 + 1) S_3) ∧ (¬ (r_2 = 0) → Rc (x1 ||| (k_shl 1 x3)) S_3 (fun r_5 S_6 => wC_X11_ordersFrom_city_aheads_12 Rc post n x1 (x2 + r_5) (x3 + 1) S_6))))))
def wB_X11_ordersFrom_city_aheads (Rc : Int32 → CS → (Int32 → CS → Prop) → Prop) (p2 : Int32) (S : CS) (post : Int32 → CS → Prop) : Prop := ((p2 = 31 → post 1 S) ∧ (¬ (p2 = 31) → ∃ k_ : Nat, wC_X11_ordersFrom_city_aheads_12 Rc post k_ p2 0 0 S))
set_option maxHeartbeats 4000000 in
set_option maxRecDepth 100000 in
theorem cB_X11_ordersFrom_city_aheads (l : Launch) (D : va_G) (h : Nat → Nat) (cy : Nat → ClassId) (d : Nat) (Rc : Int32 → CS → (Int32 → CS → Prop) → Prop) (hR0 : ∀ (p2 : Int32) (S : CS) (post : Int32 → CS → Prop), Rc p2 S post → e_Mi nxE l yX11_ordersFrom wsX11_ordersFrom { frames := 2 + d, cells := 0, slots := 0, locals := 43 + d * 23 } D (tyC cy) (wC h cy) [.ref (h 21), .int p2] S post) (p2 : Int32) (S : CS) (post : Int32 → CS → Prop) (hw : wB_X11_ordersFrom_city_aheads Rc p2 S post) : e_Mi nxE l yX11_ordersFrom wsX11_ordersFrom { frames := 2 + (d + 1), cells := 0, slots := 0, locals := 43 + (d + 1) * 23 } D (tyC cy) (wC h cy) [.ref (h 21), .int p2] S post := by
  intro sz
  refine Met.ofW (cc := cX11_ordersFrom) (maxL := 4) (ret := (some .int)) (by decide) rfl ?_
  intro p e s m args below meth c s₁ B hml hv
  obtain ⟨rfl, hsz, hP, hK, hD0, hs⟩ := hv
  have hx := B.exec
  have hb := B.bytes
  have hr := B.returns
  have hts := atoms_spec (ws := wsX11_ordersFrom) B.pre
  have hown : s.vm.findClass RX11 = some m.cls := findClass_of_methodNamed B.named
  have hlocks := B.notSynchronized
  subst hsz
  have hD := hD0.self (sz := s.heap.size)
  generalize hAe : va_A (wC h cy S) s.heap.size = A at hD ⊢
  have hA : ∀ q : Nat, s.heap.size ≤ q → A q := fun q h => by rw [← hAe]; exact Or.inr h
  have hS : va_S A s.heap s.heap [] := va_S.rf
  have hl := lv_entry ([.ref (h 21), .int p2]) (n := 4) (Nat.le_of_ble_eq_true rfl)
  rw [lg_entry_eq]
  generalize (lg_sl ([.ref (h 21), .int p2]) ++ List.replicate (4 - (lg_sl ([.ref (h 21), .int p2])).length) Slot.unset).toArray = ls at hl ⊢
  have hl : lv_has ls 4 [(0, .ref (h 21)), (1, .int p2)] := hl
  unfold wB_X11_ordersFrom_city_aheads at hw
  clear hD0
  have L_12 : ∀ (n12 : Nat) (x1 : Int32) (x2 : Int32) (x3 : Int32) (S : CS) (H : Heap) (locs : List Loc) (ls : Array Slot), wC_X11_ordersFrom_city_aheads_12 Rc post n12 x1 x2 x3 S → va_P D vwCl (wC h cy S) H → va_D A (wC h cy S) → va_S A s.heap H locs → lv_has ls 4 [(0, .ref (h 21)), (1, .int x1), (2, .int x2), (3, .int x3)] → W p l e (headSpec wsX11_ordersFrom { frames := 2 + (d + 1), cells := 0, slots := 0, locals := 43 + (d + 1) * 23 }).room s m (([.ref (h 21), .int p2] : List Value).toArray) below meth c H locs 0 0 (MQ below (va_Qi post (k_Post D (tyC cy) (wC h cy) A) A) (([.ref (h 21), .int p2] : List Value).toArray) s 0 0 A) (F0 m 12 ls []) := by
    intro n12
    induction n12 with
    | zero => intro x1 x2 x3 S H locs ls hw; exact False.elim hw
    | succ n12 ih_12 =>
      intro x1 x2 x3 S H locs ls hw hP hD hS hl
      unfold wC_X11_ordersFrom_city_aheads_12 at hw
      refine lv_iload_n hx hb dX11_ordersFrom_12 rfl (lv_at hl 3 rfl) ?_
      refine lv_iconst (v := 5) hx hb dX11_ordersFrom_13 (by decide) ?_
      obtain ⟨hc_1t, hc_1f⟩ := hw
      refine lv_icmp_ge (tgt := 44) hx hb dX11_ordersFrom_14 (by decide) (fun c_1 => ?_) (fun c_1 => ?_)
      · have hw := hc_1t c_1
        clear hc_1t hc_1f
        refine lv_iload_n hx hb dX11_ordersFrom_44 rfl (lv_at hl 2 rfl) ?_
        exact W.iret (v := x2) hx hb hr (fun t ht hW => ⟨⟨x2, S, rfl, hw, by rw [ht]; exact hP, va_K.moved hW.alike hK, hD⟩, hS.F ht⟩) hS.2.2 dX11_ordersFrom_45
      · have hw := hc_1f c_1
        clear hc_1t hc_1f
        refine lv_aload_n hx hb dX11_ordersFrom_17 rfl (lv_at hl 0 rfl) ?_
        refine lv_iload_n hx hb dX11_ordersFrom_18 rfl (lv_at hl 1 rfl) ?_
        refine lv_iload_n hx hb dX11_ordersFrom_19 rfl (lv_at hl 3 rfl) ?_
        refine e_callSi (As := [.ref (h 21), .int x1, .int x3]) (rest := []) nxE_stable hs ⟨hx, hb, hml, hown, hts⟩ (cC_X11_canLearn_city_aheads l D h cy _ _ _ _ hw) (va_cwS 3 hts gX11_ordersFrom_X11_canLearn rfl rfl rfl (by decide +kernel) ⟨by show 1 + 1 ≤ 2 + (d + 1); omega, by show 8 + (3 + 11) + 21 ≤ 43 + (d + 1) * 23; omega⟩) hK hP hD hS hA rfl hl.1 rfl (Nat.le_of_ble_eq_true rfl) dX11_ordersFrom_20 ⟨Nat.zero_le _, Nat.zero_le _⟩ (fun r_2 S_3 H locs hw hP hD hS => ?_)
        obtain ⟨hc_4t, hc_4f⟩ := hw
        refine lv_if_eq (tgt := 38) hx hb dX11_ordersFrom_23 (by decide) (fun c_4 => ?_) (fun c_4 => ?_)
        · have hw := hc_4t c_4
          clear hc_4t hc_4f
          refine lv_iinc (v := x3 + 1) (lv' := [(3, .int (x3 + 1)), (0, .ref (h 21)), (1, .int x1), (2, .int x2)]) hx hb dX11_ordersFrom_38 hl (k := 3) rfl (k_inc (by decide)) (by decide) rfl (fun ls hl => ?_)
          refine lv_goto (tgt := 12) hx hb dX11_ordersFrom_41 (by decide) ?_
          exact ih_12 x1 x2 (x3 + 1) S_3 _ _ _ hw hP hD hS (lv_sub hl [1, 2, 3, 0] rfl)
        · have hw := hc_4f c_4
          clear hc_4t hc_4f
          refine lv_iload_n hx hb dX11_ordersFrom_26 rfl (lv_at hl 2 rfl) ?_
          refine lv_aload_n hx hb dX11_ordersFrom_27 rfl (lv_at hl 0 rfl) ?_
          refine lv_iload_n hx hb dX11_ordersFrom_28 rfl (lv_at hl 1 rfl) ?_
          refine lv_iconst (v := 1) hx hb dX11_ordersFrom_29 (by decide) ?_
          refine lv_iload_n hx hb dX11_ordersFrom_30 rfl (lv_at hl 3 rfl) ?_
          refine k_ishl hx hb dX11_ordersFrom_31 ?_
          refine lv_ior hx hb dX11_ordersFrom_32 ?_
          refine e_callSi (As := [.ref (h 21), .int (x1 ||| (k_shl 1 x3))]) (rest := [.int x2]) nxE_stable hs ⟨hx, hb, hml, hown, hts⟩ (hR0 _ _ _ hw) (va_cwS 2 hts gX11_ordersFrom_X11_ordersFrom rfl rfl rfl (by decide +kernel) ⟨by show 2 + d + 1 ≤ 2 + (d + 1); omega, by show 8 + (4 + 11) + (43 + d * 23) ≤ 43 + (d + 1) * 23; omega⟩) hK hP hD hS hA rfl hl.1 rfl (Nat.le_of_ble_eq_true rfl) dX11_ordersFrom_33 ⟨Nat.zero_le _, Nat.zero_le _⟩ (fun r_5 S_6 H locs hw hP hD hS => ?_)
          refine lv_iadd hx hb dX11_ordersFrom_36 ?_
          refine lv_istore_n (lv' := [(2, .int (x2 + r_5)), (0, .ref (h 21)), (1, .int x1), (3, .int x3)]) hx hb dX11_ordersFrom_37 rfl hl (by decide) rfl (fun ls hl => ?_)
          refine lv_iinc (v := x3 + 1) (lv' := [(3, .int (x3 + 1)), (2, .int (x2 + r_5)), (0, .ref (h 21)), (1, .int x1)]) hx hb dX11_ordersFrom_38 hl (k := 3) rfl (k_inc (by decide)) (by decide) rfl (fun ls hl => ?_)
          refine lv_goto (tgt := 12) hx hb dX11_ordersFrom_41 (by decide) ?_
          exact ih_12 x1 (x2 + r_5) (x3 + 1) S_6 _ _ _ hw hP hD hS (lv_sub hl [2, 3, 1, 0] rfl)
  refine lv_iload_n hx hb dX11_ordersFrom_0 rfl (lv_at hl 1 rfl) ?_
  refine lv_bipush (v := 31) hx hb dX11_ordersFrom_1 (by decide) ?_
  obtain ⟨hc_7t, hc_7f⟩ := hw
  refine lv_icmp_ne (tgt := 8) hx hb dX11_ordersFrom_3 (by decide) (fun c_7 => ?_) (fun c_7 => ?_)
  · have hw := hc_7f c_7
    clear hc_7t hc_7f
    refine lv_iconst (v := 0) hx hb dX11_ordersFrom_8 (by decide) ?_
    refine lv_istore_n (lv' := [(2, .int 0), (0, .ref (h 21)), (1, .int p2)]) hx hb dX11_ordersFrom_9 rfl hl (by decide) rfl (fun ls hl => ?_)
    refine lv_iconst (v := 0) hx hb dX11_ordersFrom_10 (by decide) ?_
    refine lv_istore_n (lv' := [(3, .int 0), (2, .int 0), (0, .ref (h 21)), (1, .int p2)]) hx hb dX11_ordersFrom_11 rfl hl (by decide) rfl (fun ls hl => ?_)
    obtain ⟨n_12, hw⟩ := hw
    exact L_12 n_12 p2 0 0 S _ _ _ hw hP hD hS (lv_sub hl [2, 3, 1, 0] rfl)
  · have hw := hc_7t c_7
    clear hc_7t hc_7f
    refine lv_iconst (v := 1) hx hb dX11_ordersFrom_6 (by decide) ?_
    exact W.iret (v := 1) hx hb hr (fun t ht hW => ⟨⟨1, S, rfl, hw, by rw [ht]; exact hP, va_K.moved hW.alike hK, hD⟩, hS.F ht⟩) hS.2.2 dX11_ordersFrom_7
def wD_X11_ordersFrom_city_aheads : Nat → Int32 → CS → (Int32 → CS → Prop) → Prop
  | 0, _, _, _ => False
  | d + 1, p2, S, post => wB_X11_ordersFrom_city_aheads (wD_X11_ordersFrom_city_aheads d) p2 S post
theorem cD_X11_ordersFrom_city_aheads (l : Launch) (D : va_G) (h : Nat → Nat) (cy : Nat → ClassId) (d : Nat) : ∀ (p2 : Int32) (S : CS) (post : Int32 → CS → Prop), wD_X11_ordersFrom_city_aheads d p2 S post → e_Mi nxE l yX11_ordersFrom wsX11_ordersFrom { frames := 2 + d, cells := 0, slots := 0, locals := 43 + d * 23 } D (tyC cy) (wC h cy) [.ref (h 21), .int p2] S post := by
  induction d with
  | zero => intro p2 S post hw; exact False.elim hw
  | succ d ih => intro p2 S post hw; exact cB_X11_ordersFrom_city_aheads l D h cy d (wD_X11_ordersFrom_city_aheads d) ih p2 S post hw
def wC_X11_ordersFrom_city_aheads (p2 : Int32) (S : CS) (post : Int32 → CS → Prop) : Prop := wD_X11_ordersFrom_city_aheads 8 p2 S post
theorem cC_X11_ordersFrom_city_aheads (l : Launch) (D : va_G) (h : Nat → Nat) (cy : Nat → ClassId) (p2 : Int32) (S : CS) (post : Int32 → CS → Prop) (hw : wC_X11_ordersFrom_city_aheads p2 S post) : e_Mi nxE l yX11_ordersFrom wsX11_ordersFrom { frames := 10, cells := 0, slots := 0, locals := 227 } D (tyC cy) (wC h cy) [.ref (h 21), .int p2] S post := cD_X11_ordersFrom_city_aheads l D h cy 8 p2 S post hw
def wC_X11_lowestLesson_18 (post : Int32 → CS → Prop) (K7 : Int32 → Int32 → Int32 → Int32 → CS → Prop) : Nat → Int32 → Int32 → Int32 → Int32 → Int32 → CS → Prop
  | 0, _, _, _, _, _, _ => False
  | n + 1, x1, x2, x3, x4, x5, S => ((x5 < 0 → ((x3 = (-1) → K7 x1 (x2 ||| 0) x3 (x4 + 1) S) ∧ (¬ (x3 = (-1)) → K7 x1 (x2 ||| (k_shl 1 x3)) x3 (x4 + 1) S))) ∧ (¬ (x5 < 0) → wC_X11_canLearn_city_aheads x2 x5 S (fun r_3 S_4 => ((r_3 = 0 → wC_X11_lowestLesson_18 post K7 n x1 x2 x3 x4 (x5 + (-1)) S_4) ∧ (¬ (r_3 = 0) → wC_X11_lowestLesson_18 post K7 n x1 x2 x5 x4 (x5 + (-1)) S_4)))))
def wC_X11_lowestLesson_7 (post : Int32 → CS → Prop) : Nat → Int32 → Int32 → Int32 → Int32 → CS → Prop
  | 0, _, _, _, _, _ => False
  | n + 1, x1, x2, x3, x4, S => ((x1 < x4 → post x3 S) ∧ (¬ (x1 < x4) → ∃ k_ : Nat, wC_X11_lowestLesson_18 post (wC_X11_lowestLesson_7 post n) k_ x1 x2 (-1) x4 4 S))
def wC_X11_lowestLesson (p1 : Int32) (S : CS) (post : Int32 → CS → Prop) : Prop := ∃ k_ : Nat, wC_X11_lowestLesson_7 post k_ p1 0 (-1) 0 S
set_option maxHeartbeats 4000000 in
set_option maxRecDepth 100000 in
theorem cC_X11_lowestLesson (l : Launch) (D : va_G) (h : Nat → Nat) (cy : Nat → ClassId) (p1 : Int32) (S : CS) (post : Int32 → CS → Prop) (hw : wC_X11_lowestLesson p1 S post) : e_Mi nxE l yX11_lowestLesson wsX11_lowestLesson { frames := 2, cells := 0, slots := 0, locals := 43 } D (tyC cy) (wC h cy) [.ref (h 0), .int p1] S post := by
  intro sz
  refine Met.ofW (cc := cX11_lowestLesson) (maxL := 6) (ret := (some .int)) (by decide) rfl ?_
  intro p e s m args below meth c s₁ B hml hv
  obtain ⟨rfl, hsz, hP, hK, hD0, hs⟩ := hv
  have hx := B.exec
  have hb := B.bytes
  have hr := B.returns
  have hts := atoms_spec (ws := wsX11_lowestLesson) B.pre
  have hown : s.vm.findClass RX11 = some m.cls := findClass_of_methodNamed B.named
  have hlocks := B.notSynchronized
  subst hsz
  have hD := hD0.self (sz := s.heap.size)
  generalize hAe : va_A (wC h cy S) s.heap.size = A at hD ⊢
  have hA : ∀ q : Nat, s.heap.size ≤ q → A q := fun q h => by rw [← hAe]; exact Or.inr h
  have hS : va_S A s.heap s.heap [] := va_S.rf
  have hin11 : ∀ w ∈ wsX110, w ∈ wsX11_lowestLesson := fun _ h => List.mem_cons_of_mem _ (List.mem_append_left _ (List.mem_append_right _ h))
  have hin0 : ∀ w ∈ wsX00, w ∈ wsX11_lowestLesson := fun _ h => List.mem_cons_of_mem _ (List.mem_append_right _ h)
  have w10 := hts (.fieldLink RX11 10 "ClownsMourn" "city" "LClownsMourn$City;") (List.mem_of_getElem? (i := 1) rfl)
  have w327 := hts (.fieldLink RX11 327 "ClownsMourn$City" "aheads" "[I") (List.mem_of_getElem? (i := 2) rfl)
  have hl := lv_entry ([.ref (h 0), .int p1]) (n := 6) (Nat.le_of_ble_eq_true rfl)
  rw [lg_entry_eq]
  generalize (lg_sl ([.ref (h 0), .int p1]) ++ List.replicate (6 - (lg_sl ([.ref (h 0), .int p1])).length) Slot.unset).toArray = ls at hl ⊢
  have hl : lv_has ls 6 [(0, .ref (h 0)), (1, .int p1)] := hl
  unfold wC_X11_lowestLesson at hw
  clear hD0
  have L_7 : ∀ (n7 : Nat) (x1 : Int32) (x2 : Int32) (x3 : Int32) (x4 : Int32) (S : CS) (H : Heap) (locs : List Loc) (ls : Array Slot), wC_X11_lowestLesson_7 post n7 x1 x2 x3 x4 S → va_P D vwCl (wC h cy S) H → va_D A (wC h cy S) → va_S A s.heap H locs → lv_has ls 6 [(0, .ref (h 0)), (1, .int x1), (2, .int x2), (3, .int x3), (4, .int x4)] → W p l e (headSpec wsX11_lowestLesson { frames := 2, cells := 0, slots := 0, locals := 43 }).room s m (([.ref (h 0), .int p1] : List Value).toArray) below meth c H locs 0 0 (MQ below (va_Qi post (k_Post D (tyC cy) (wC h cy) A) A) (([.ref (h 0), .int p1] : List Value).toArray) s 0 0 A) (F0 m 7 ls []) := by
    intro n7
    induction n7 with
    | zero => intro x1 x2 x3 x4 S H locs ls hw; exact False.elim hw
    | succ n7 ih_7 =>
      have L_18 : ∀ (n18 : Nat) (x1 : Int32) (x2 : Int32) (x3 : Int32) (x4 : Int32) (x5 : Int32) (S : CS) (H : Heap) (locs : List Loc) (ls : Array Slot), wC_X11_lowestLesson_18 post (wC_X11_lowestLesson_7 post n7) n18 x1 x2 x3 x4 x5 S → va_P D vwCl (wC h cy S) H → va_D A (wC h cy S) → va_S A s.heap H locs → lv_has ls 6 [(0, .ref (h 0)), (1, .int x1), (2, .int x2), (3, .int x3), (4, .int x4), (5, .int x5)] → W p l e (headSpec wsX11_lowestLesson { frames := 2, cells := 0, slots := 0, locals := 43 }).room s m (([.ref (h 0), .int p1] : List Value).toArray) below meth c H locs 0 0 (MQ below (va_Qi post (k_Post D (tyC cy) (wC h cy) A) A) (([.ref (h 0), .int p1] : List Value).toArray) s 0 0 A) (F0 m 18 ls []) := by
        intro n18
        induction n18 with
        | zero => intro x1 x2 x3 x4 x5 S H locs ls hw; exact False.elim hw
        | succ n18 ih_18 =>
          intro x1 x2 x3 x4 x5 S H locs ls hw hP hD hS hl
          unfold wC_X11_lowestLesson_18 at hw
          refine lv_iload hx hb dX11_lowestLesson_18 (lv_at hl 5 rfl) ?_
          obtain ⟨hc_1t, hc_1f⟩ := hw
          refine lv_if_lt (tgt := 48) hx hb dX11_lowestLesson_20 (by decide) (fun c_1 => ?_) (fun c_1 => ?_)
          · have hw := hc_1t c_1
            clear hc_1t hc_1f
            refine lv_iload_n hx hb dX11_lowestLesson_48 rfl (lv_at hl 2 rfl) ?_
            refine lv_iload_n hx hb dX11_lowestLesson_49 rfl (lv_at hl 3 rfl) ?_
            refine lv_iconst (v := (-1)) hx hb dX11_lowestLesson_50 (by decide) ?_
            obtain ⟨hc_2t, hc_2f⟩ := hw
            refine lv_icmp_ne (tgt := 58) hx hb dX11_lowestLesson_51 (by decide) (fun c_2 => ?_) (fun c_2 => ?_)
            · have hw := hc_2f c_2
              clear hc_2t hc_2f
              refine lv_iconst (v := 1) hx hb dX11_lowestLesson_58 (by decide) ?_
              refine lv_iload_n hx hb dX11_lowestLesson_59 rfl (lv_at hl 3 rfl) ?_
              refine k_ishl hx hb dX11_lowestLesson_60 ?_
              refine lv_ior hx hb dX11_lowestLesson_61 ?_
              refine lv_istore_n (lv' := [(2, .int (x2 ||| (k_shl 1 x3))), (0, .ref (h 0)), (1, .int x1), (3, .int x3), (4, .int x4), (5, .int x5)]) hx hb dX11_lowestLesson_62 rfl hl (by decide) rfl (fun ls hl => ?_)
              refine lv_iinc (v := x4 + 1) (lv' := [(4, .int (x4 + 1)), (2, .int (x2 ||| (k_shl 1 x3))), (0, .ref (h 0)), (1, .int x1), (3, .int x3), (5, .int x5)]) hx hb dX11_lowestLesson_63 hl (k := 4) rfl (k_inc (by decide)) (by decide) rfl (fun ls hl => ?_)
              refine lv_goto (tgt := 7) hx hb dX11_lowestLesson_66 (by decide) ?_
              exact ih_7 x1 (x2 ||| (k_shl 1 x3)) x3 (x4 + 1) S _ _ _ hw hP hD hS (lv_sub hl [2, 3, 1, 4, 0] rfl)
            · have hw := hc_2t c_2
              clear hc_2t hc_2f
              refine lv_iconst (v := 0) hx hb dX11_lowestLesson_54 (by decide) ?_
              refine lv_goto (tgt := 61) hx hb dX11_lowestLesson_55 (by decide) ?_
              refine lv_ior hx hb dX11_lowestLesson_61 ?_
              refine lv_istore_n (lv' := [(2, .int (x2 ||| 0)), (0, .ref (h 0)), (1, .int x1), (3, .int x3), (4, .int x4), (5, .int x5)]) hx hb dX11_lowestLesson_62 rfl hl (by decide) rfl (fun ls hl => ?_)
              refine lv_iinc (v := x4 + 1) (lv' := [(4, .int (x4 + 1)), (2, .int (x2 ||| 0)), (0, .ref (h 0)), (1, .int x1), (3, .int x3), (5, .int x5)]) hx hb dX11_lowestLesson_63 hl (k := 4) rfl (k_inc (by decide)) (by decide) rfl (fun ls hl => ?_)
              refine lv_goto (tgt := 7) hx hb dX11_lowestLesson_66 (by decide) ?_
              exact ih_7 x1 (x2 ||| 0) x3 (x4 + 1) S _ _ _ hw hP hD hS (lv_sub hl [2, 3, 1, 4, 0] rfl)
          · have hw := hc_1f c_1
            clear hc_1t hc_1f
            refine lv_aload_n hx hb dX11_lowestLesson_23 rfl (lv_at hl 0 rfl) ?_
            refine va_get (D := D) (ci := 10) (v := .ref (h 1)) (C := RX11) (T := TX11) (N := 9) hx hb hts hin11 hown hK hP 0 rfl rfl 0 (by decide) w10 (fun _ h9 => h9) rfl dX11_lowestLesson_24 ?_
            refine va_get (D := D) (ci := 0) (v := .ref (h 21)) (C := RX0) (T := TX0) (N := 16) hx hb hts hin0 hown hK hP 1 rfl rfl 13 (by decide) w327 (fun _ h9 => h9) rfl dX11_lowestLesson_27 ?_
            refine lv_iload_n hx hb dX11_lowestLesson_30 rfl (lv_at hl 2 rfl) ?_
            refine lv_iload hx hb dX11_lowestLesson_31 (lv_at hl 5 rfl) ?_
            refine e_callSi (As := [.ref (h 21), .int x2, .int x5]) (rest := []) nxE_stable hs ⟨hx, hb, hml, hown, hts⟩ (cC_X11_canLearn_city_aheads l D h cy _ _ _ _ hw) (va_cwS 3 hts gX11_lowestLesson_X11_canLearn rfl rfl rfl (by decide +kernel) ⟨Nat.le_of_ble_eq_true rfl, Nat.le_of_ble_eq_true rfl⟩) hK hP hD hS hA rfl hl.1 rfl (Nat.le_of_ble_eq_true rfl) dX11_lowestLesson_33 ⟨Nat.zero_le _, Nat.zero_le _⟩ (fun r_3 S_4 H locs hw hP hD hS => ?_)
            obtain ⟨hc_5t, hc_5f⟩ := hw
            refine lv_if_eq (tgt := 42) hx hb dX11_lowestLesson_36 (by decide) (fun c_5 => ?_) (fun c_5 => ?_)
            · have hw := hc_5t c_5
              clear hc_5t hc_5f
              refine lv_iinc (v := x5 + (-1)) (lv' := [(5, .int (x5 + (-1))), (0, .ref (h 0)), (1, .int x1), (2, .int x2), (3, .int x3), (4, .int x4)]) hx hb dX11_lowestLesson_42 hl (k := 5) rfl (k_inc (by decide)) (by decide) rfl (fun ls hl => ?_)
              refine lv_goto (tgt := 18) hx hb dX11_lowestLesson_45 (by decide) ?_
              exact ih_18 x1 x2 x3 x4 (x5 + (-1)) S_4 _ _ _ hw hP hD hS (lv_sub hl [1, 2, 3, 4, 5, 0] rfl)
            · have hw := hc_5f c_5
              clear hc_5t hc_5f
              refine lv_iload hx hb dX11_lowestLesson_39 (lv_at hl 5 rfl) ?_
              refine lv_istore_n (lv' := [(3, .int x5), (0, .ref (h 0)), (1, .int x1), (2, .int x2), (4, .int x4), (5, .int x5)]) hx hb dX11_lowestLesson_41 rfl hl (by decide) rfl (fun ls hl => ?_)
              refine lv_iinc (v := x5 + (-1)) (lv' := [(5, .int (x5 + (-1))), (3, .int x5), (0, .ref (h 0)), (1, .int x1), (2, .int x2), (4, .int x4)]) hx hb dX11_lowestLesson_42 hl (k := 5) rfl (k_inc (by decide)) (by decide) rfl (fun ls hl => ?_)
              refine lv_goto (tgt := 18) hx hb dX11_lowestLesson_45 (by decide) ?_
              exact ih_18 x1 x2 x5 x4 (x5 + (-1)) S_4 _ _ _ hw hP hD hS (lv_sub hl [2, 3, 4, 1, 5, 0] rfl)
      intro x1 x2 x3 x4 S H locs ls hw hP hD hS hl
      unfold wC_X11_lowestLesson_7 at hw
      refine lv_iload hx hb dX11_lowestLesson_7 (lv_at hl 4 rfl) ?_
      refine lv_iload_n hx hb dX11_lowestLesson_9 rfl (lv_at hl 1 rfl) ?_
      obtain ⟨hc_6t, hc_6f⟩ := hw
      refine lv_icmp_gt (tgt := 69) hx hb dX11_lowestLesson_10 (by decide) (fun c_6 => ?_) (fun c_6 => ?_)
      · have hw := hc_6t c_6
        clear hc_6t hc_6f
        refine lv_iload_n hx hb dX11_lowestLesson_69 rfl (lv_at hl 3 rfl) ?_
        exact W.iret (v := x3) hx hb hr (fun t ht hW => ⟨⟨x3, S, rfl, hw, by rw [ht]; exact hP, va_K.moved hW.alike hK, hD⟩, hS.F ht⟩) hS.2.2 dX11_lowestLesson_70
      · have hw := hc_6f c_6
        clear hc_6t hc_6f
        refine lv_iconst (v := (-1)) hx hb dX11_lowestLesson_13 (by decide) ?_
        refine lv_istore_n (lv' := [(3, .int (-1)), (0, .ref (h 0)), (1, .int x1), (2, .int x2), (4, .int x4)]) hx hb dX11_lowestLesson_14 rfl hl (by decide) rfl (fun ls hl => ?_)
        refine lv_iconst (v := 4) hx hb dX11_lowestLesson_15 (by decide) ?_
        refine lv_istore (lv' := [(5, .int 4), (3, .int (-1)), (0, .ref (h 0)), (1, .int x1), (2, .int x2), (4, .int x4)]) hx hb dX11_lowestLesson_16 hl (by decide) rfl (fun ls hl => ?_)
        obtain ⟨n_18, hw⟩ := hw
        exact L_18 n_18 x1 x2 (-1) x4 4 S _ _ _ hw hP hD hS (lv_sub hl [2, 3, 4, 1, 5, 0] rfl)
  refine lv_iconst (v := 0) hx hb dX11_lowestLesson_0 (by decide) ?_
  refine lv_istore_n (lv' := [(2, .int 0), (0, .ref (h 0)), (1, .int p1)]) hx hb dX11_lowestLesson_1 rfl hl (by decide) rfl (fun ls hl => ?_)
  refine lv_iconst (v := (-1)) hx hb dX11_lowestLesson_2 (by decide) ?_
  refine lv_istore_n (lv' := [(3, .int (-1)), (2, .int 0), (0, .ref (h 0)), (1, .int p1)]) hx hb dX11_lowestLesson_3 rfl hl (by decide) rfl (fun ls hl => ?_)
  refine lv_iconst (v := 0) hx hb dX11_lowestLesson_4 (by decide) ?_
  refine lv_istore (lv' := [(4, .int 0), (3, .int (-1)), (2, .int 0), (0, .ref (h 0)), (1, .int p1)]) hx hb dX11_lowestLesson_5 hl (by decide) rfl (fun ls hl => ?_)
  obtain ⟨n_7, hw⟩ := hw
  exact L_7 n_7 p1 0 (-1) 0 S _ _ _ hw hP hD hS (lv_sub hl [3, 4, 2, 1, 0] rfl)
def wC_X11_lessons (p1 : Int32) (S : CS) (post : Int32 → CS → Prop) : Prop := wC_X11_ordersFrom_city_aheads 0 S (fun r_1 S_2 => ((p1 = (-1) → post r_1 S_2) ∧ (¬ (p1 = (-1)) → ((r_1 ≤ 0 → post (-2) S_2) ∧ (¬ (r_1 ≤ 0) → wC_X11_within p1 0 4 S_2 (fun r_5 S_6 => ((r_5 = 0 → post (-2) S_6) ∧ (¬ (r_5 = 0) → wC_X11_lowestLesson p1 S_6 (fun r_8 S_9 => post r_8 S_9)))))))))
set_option maxHeartbeats 4000000 in
set_option maxRecDepth 100000 in
theorem cC_X11_lessons (l : Launch) (D : va_G) (h : Nat → Nat) (cy : Nat → ClassId) (p1 : Int32) (S : CS) (post : Int32 → CS → Prop) (hw : wC_X11_lessons p1 S post) : e_Mi nxE l yX11_lessons wsX11_lessons { frames := 11, cells := 0, slots := 0, locals := 250 } D (tyC cy) (wC h cy) [.ref (h 0), .int p1] S post := by
  intro sz
  refine Met.ofW (cc := cX11_lessons) (maxL := 3) (ret := (some .int)) (by decide) rfl ?_
  intro p e s m args below meth c s₁ B hml hv
  obtain ⟨rfl, hsz, hP, hK, hD0, hs⟩ := hv
  have hx := B.exec
  have hb := B.bytes
  have hr := B.returns
  have hts := atoms_spec (ws := wsX11_lessons) B.pre
  have hown : s.vm.findClass RX11 = some m.cls := findClass_of_methodNamed B.named
  have hlocks := B.notSynchronized
  subst hsz
  have hD := hD0.self (sz := s.heap.size)
  generalize hAe : va_A (wC h cy S) s.heap.size = A at hD ⊢
  have hA : ∀ q : Nat, s.heap.size ≤ q → A q := fun q h => by rw [← hAe]; exact Or.inr h
  have hS : va_S A s.heap s.heap [] := va_S.rf
  have hin11 : ∀ w ∈ wsX110, w ∈ wsX11_lessons := fun _ h => List.mem_cons_of_mem _ (List.mem_append_left _ (List.mem_append_right _ h))
  have hin0 : ∀ w ∈ wsX00, w ∈ wsX11_lessons := fun _ h => List.mem_cons_of_mem _ (List.mem_append_right _ h)
  have w10 := hts (.fieldLink RX11 10 "ClownsMourn" "city" "LClownsMourn$City;") (List.mem_of_getElem? (i := 1) rfl)
  have w327 := hts (.fieldLink RX11 327 "ClownsMourn$City" "aheads" "[I") (List.mem_of_getElem? (i := 2) rfl)
  have hl := lv_entry ([.ref (h 0), .int p1]) (n := 3) (Nat.le_of_ble_eq_true rfl)
  rw [lg_entry_eq]
  generalize (lg_sl ([.ref (h 0), .int p1]) ++ List.replicate (3 - (lg_sl ([.ref (h 0), .int p1])).length) Slot.unset).toArray = ls at hl ⊢
  have hl : lv_has ls 3 [(0, .ref (h 0)), (1, .int p1)] := hl
  unfold wC_X11_lessons at hw
  clear hD0
  refine lv_aload_n hx hb dX11_lessons_0 rfl (lv_at hl 0 rfl) ?_
  refine va_get (D := D) (ci := 10) (v := .ref (h 1)) (C := RX11) (T := TX11) (N := 9) hx hb hts hin11 hown hK hP 0 rfl rfl 0 (by decide) w10 (fun _ h9 => h9) rfl dX11_lessons_1 ?_
  refine va_get (D := D) (ci := 0) (v := .ref (h 21)) (C := RX0) (T := TX0) (N := 16) hx hb hts hin0 hown hK hP 1 rfl rfl 13 (by decide) w327 (fun _ h9 => h9) rfl dX11_lessons_4 ?_
  refine lv_iconst (v := 0) hx hb dX11_lessons_7 (by decide) ?_
  refine e_callSi (As := [.ref (h 21), .int 0]) (rest := []) nxE_stable hs ⟨hx, hb, hml, hown, hts⟩ (cC_X11_ordersFrom_city_aheads l D h cy _ _ _ hw) (va_cwS 2 hts gX11_lessons_X11_ordersFrom rfl rfl rfl (by decide +kernel) ⟨Nat.le_of_ble_eq_true rfl, Nat.le_of_ble_eq_true rfl⟩) hK hP hD hS hA rfl hl.1 rfl (Nat.le_of_ble_eq_true rfl) dX11_lessons_8 ⟨Nat.zero_le _, Nat.zero_le _⟩ (fun r_1 S_2 H locs hw hP hD hS => ?_)
  refine lv_istore_n (lv' := [(2, .int r_1), (0, .ref (h 0)), (1, .int p1)]) hx hb dX11_lessons_11 rfl hl (by decide) rfl (fun ls hl => ?_)
  refine lv_iload_n hx hb dX11_lessons_12 rfl (lv_at hl 2 rfl) ?_
  refine lv_iconst (v := (-1)) hx hb dX11_lessons_13 (by decide) ?_
  obtain ⟨hc_3t, hc_3f⟩ := hw
  refine lv_icmp_ne (tgt := 19) hx hb dX11_lessons_14 (by decide) (fun c_3 => ?_) (fun c_3 => ?_)
  · have hw := hc_3f c_3
    clear hc_3t hc_3f
    refine lv_iload_n hx hb dX11_lessons_19 rfl (lv_at hl 0 rfl) ?_
    obtain ⟨hc_4t, hc_4f⟩ := hw
    refine lv_if_le (tgt := 40) hx hb dX11_lessons_20 (by decide) (fun c_4 => ?_) (fun c_4 => ?_)
    · have hw := hc_4t c_4
      clear hc_4t hc_4f
      refine lv_bipush (v := (-2)) hx hb dX11_lessons_40 (by decide) ?_
      exact W.iret (v := (-2)) hx hb hr (fun t ht hW => ⟨⟨(-2), S_2, rfl, hw, by rw [ht]; exact hP, va_K.moved hW.alike hK, hD⟩, hS.F ht⟩) hS.2.2 dX11_lessons_42
    · have hw := hc_4f c_4
      clear hc_4t hc_4f
      refine lv_iload_n hx hb dX11_lessons_23 rfl (lv_at hl 2 rfl) ?_
      refine lv_iconst (v := 0) hx hb dX11_lessons_24 (by decide) ?_
      refine lv_iconst (v := 4) hx hb dX11_lessons_25 (by decide) ?_
      refine e_callSi (As := [.int p1, .int 0, .int 4]) (rest := []) nxE_stable hs ⟨hx, hb, hml, hown, hts⟩ (cC_X11_within l D h cy _ _ _ _ _ hw) (va_cwS 3 hts gX11_lessons_X11_within rfl rfl rfl (by decide +kernel) ⟨Nat.le_of_ble_eq_true rfl, Nat.le_of_ble_eq_true rfl⟩) hK hP hD hS hA rfl hl.1 rfl (Nat.le_of_ble_eq_true rfl) dX11_lessons_26 ⟨Nat.zero_le _, Nat.zero_le _⟩ (fun r_5 S_6 H locs hw hP hD hS => ?_)
      obtain ⟨hc_7t, hc_7f⟩ := hw
      refine lv_if_eq (tgt := 40) hx hb dX11_lessons_29 (by decide) (fun c_7 => ?_) (fun c_7 => ?_)
      · have hw := hc_7t c_7
        clear hc_7t hc_7f
        refine lv_bipush (v := (-2)) hx hb dX11_lessons_40 (by decide) ?_
        exact W.iret (v := (-2)) hx hb hr (fun t ht hW => ⟨⟨(-2), S_6, rfl, hw, by rw [ht]; exact hP, va_K.moved hW.alike hK, hD⟩, hS.F ht⟩) hS.2.2 dX11_lessons_42
      · have hw := hc_7f c_7
        clear hc_7t hc_7f
        refine lv_aload_n hx hb dX11_lessons_32 rfl (lv_at hl 1 rfl) ?_
        refine lv_iload_n hx hb dX11_lessons_33 rfl (lv_at hl 2 rfl) ?_
        refine e_callVi (As := [.int p1]) (rest := []) nxE_stable hs ⟨hx, hb, hml, hown, hts⟩ (cC_X11_lowestLesson l D h cy _ _ _ hw) (cwV 1 hts gX11_lessons_X11_lowestLesson rfl rfl rfl (by decide +kernel) ⟨Nat.le_of_ble_eq_true rfl, Nat.le_of_ble_eq_true rfl⟩) (va_recv hK hP (ci := 10) (q0 := 0) rfl rfl) hK hP hD hS hA rfl hl.1 rfl (Nat.le_of_ble_eq_true rfl) dX11_lessons_34 ⟨Nat.zero_le _, Nat.zero_le _⟩ (fun r_8 S_9 H locs hw hP hD hS => ?_)
        refine lv_goto (tgt := 42) hx hb dX11_lessons_37 (by decide) ?_
        exact W.iret (v := r_8) hx hb hr (fun t ht hW => ⟨⟨r_8, S_9, rfl, hw, by rw [ht]; exact hP, va_K.moved hW.alike hK, hD⟩, hS.F ht⟩) hS.2.2 dX11_lessons_42
  · have hw := hc_3t c_3
    clear hc_3t hc_3f
    refine lv_iload_n hx hb dX11_lessons_17 rfl (lv_at hl 0 rfl) ?_
    exact W.iret (v := r_1) hx hb hr (fun t ht hW => ⟨⟨r_1, S_2, rfl, hw, by rw [ht]; exact hP, va_K.moved hW.alike hK, hD⟩, hS.F ht⟩) hS.2.2 dX11_lessons_18
def wC_X11_grown (p1 : Int32) (p2 : Int32) (S : CS) (post : Int32 → CS → Prop) : Prop := ((p1 = (-1) → (∀ S_11 : CS, S_11 = (cx_set_c_grownCount S 0) → post 0 S_11)) ∧ (¬ (p1 = (-1)) → wC_X0_hasHouse p1 S (fun r_2 S_3 => ((r_2 = 0 → post (-2) S_3) ∧ (¬ (r_2 = 0) → wC_X11_within p2 0 9 S_3 (fun r_5 S_6 => ((r_5 = 0 → post (-2) S_6) ∧ (¬ (r_5 = 0) → (((cx_c_grownCount S_6) < 8 → (∀ S_9 : CS, S_9 = (cx_set_c_growns S_6 (k_put 8 (cx_c_growns S_6) (cx_c_grownCount S_6) ((p1 * 10) + p2))) → (∀ S_10 : CS, S_10 = (cx_set_c_grownCount S_9 ((cx_c_grownCount S_9) + 1)) → post (cx_c_grownCount S_10) S_10))) ∧ (¬ ((cx_c_grownCount S_6) < 8) → post (-2) S_6))))))))))
set_option maxHeartbeats 4000000 in
set_option maxRecDepth 100000 in
theorem cC_X11_grown (l : Launch) (D : va_G) (h : Nat → Nat) (cy : Nat → ClassId) (p1 : Int32) (p2 : Int32) (S : CS) (post : Int32 → CS → Prop) (hw : wC_X11_grown p1 p2 S post) : e_Mi nxE l yX11_grown wsX11_grown { frames := 2, cells := 0, slots := 0, locals := 42 } D (tyC cy) (wC h cy) [.ref (h 0), .int p1, .int p2] S post := by
  intro sz
  refine Met.ofW (cc := cX11_grown) (maxL := 3) (ret := (some .int)) (by decide) rfl ?_
  intro p e s m args below meth c s₁ B hml hv
  obtain ⟨rfl, hsz, hP, hK, hD0, hs⟩ := hv
  have hx := B.exec
  have hb := B.bytes
  have hr := B.returns
  have hts := atoms_spec (ws := wsX11_grown) B.pre
  have hown : s.vm.findClass RX11 = some m.cls := findClass_of_methodNamed B.named
  have hlocks := B.notSynchronized
  subst hsz
  have hD := hD0.self (sz := s.heap.size)
  generalize hAe : va_A (wC h cy S) s.heap.size = A at hD ⊢
  have hA : ∀ q : Nat, s.heap.size ≤ q → A q := fun q h => by rw [← hAe]; exact Or.inr h
  have hS : va_S A s.heap s.heap [] := va_S.rf
  have hin11 : ∀ w ∈ wsX110, w ∈ wsX11_grown := fun _ h => List.mem_cons_of_mem _ (List.mem_append_left _ (List.mem_append_right _ h))
  have hin0 : ∀ w ∈ wsX00, w ∈ wsX11_grown := fun _ h => List.mem_cons_of_mem _ (List.mem_append_right _ h)
  have w10 := hts (.fieldLink RX11 10 "ClownsMourn" "city" "LClownsMourn$City;") (List.mem_of_getElem? (i := 1) rfl)
  have w336 := hts (.fieldLink RX11 336 "ClownsMourn$City" "grownCount" "I") (List.mem_of_getElem? (i := 2) rfl)
  have w339 := hts (.fieldLink RX11 339 "ClownsMourn$City" "growns" "[I") (List.mem_of_getElem? (i := 3) rfl)
  have hl := lv_entry ([.ref (h 0), .int p1, .int p2]) (n := 3) (Nat.le_of_ble_eq_true rfl)
  rw [lg_entry_eq]
  generalize (lg_sl ([.ref (h 0), .int p1, .int p2]) ++ List.replicate (3 - (lg_sl ([.ref (h 0), .int p1, .int p2])).length) Slot.unset).toArray = ls at hl ⊢
  have hl : lv_has ls 3 [(0, .ref (h 0)), (1, .int p1), (2, .int p2)] := hl
  unfold wC_X11_grown at hw
  clear hD0
  refine lv_iload_n hx hb dX11_grown_0 rfl (lv_at hl 1 rfl) ?_
  refine lv_iconst (v := (-1)) hx hb dX11_grown_1 (by decide) ?_
  obtain ⟨hc_1t, hc_1f⟩ := hw
  refine lv_icmp_ne (tgt := 15) hx hb dX11_grown_2 (by decide) (fun c_1 => ?_) (fun c_1 => ?_)
  · have hw := hc_1f c_1
    clear hc_1t hc_1f
    refine lv_aload_n hx hb dX11_grown_15 rfl (lv_at hl 0 rfl) ?_
    refine va_get (D := D) (ci := 10) (v := .ref (h 1)) (C := RX11) (T := TX11) (N := 9) hx hb hts hin11 hown hK hP 0 rfl rfl 0 (by decide) w10 (fun _ h9 => h9) rfl dX11_grown_16 ?_
    refine lv_iload_n hx hb dX11_grown_19 rfl (lv_at hl 1 rfl) ?_
    refine e_callVi (As := [.int p1]) (rest := []) nxE_stable hs ⟨hx, hb, hml, hown, hts⟩ (cC_X0_hasHouse l D h cy _ _ _ hw) (cwV 1 hts gX11_grown_X0_hasHouse rfl rfl rfl (by decide +kernel) ⟨Nat.le_of_ble_eq_true rfl, Nat.le_of_ble_eq_true rfl⟩) (va_recv hK hP (ci := 0) (q0 := 1) rfl rfl) hK hP hD hS hA rfl hl.1 rfl (Nat.le_of_ble_eq_true rfl) dX11_grown_20 ⟨Nat.zero_le _, Nat.zero_le _⟩ (fun r_2 S_3 H locs hw hP hD hS => ?_)
    obtain ⟨hc_4t, hc_4f⟩ := hw
    refine lv_if_eq (tgt := 48) hx hb dX11_grown_23 (by decide) (fun c_4 => ?_) (fun c_4 => ?_)
    · have hw := hc_4t c_4
      clear hc_4t hc_4f
      refine lv_bipush (v := (-2)) hx hb dX11_grown_48 (by decide) ?_
      exact W.iret (v := (-2)) hx hb hr (fun t ht hW => ⟨⟨(-2), S_3, rfl, hw, by rw [ht]; exact hP, va_K.moved hW.alike hK, hD⟩, hS.F ht⟩) hS.2.2 dX11_grown_50
    · have hw := hc_4f c_4
      clear hc_4t hc_4f
      refine lv_iload_n hx hb dX11_grown_26 rfl (lv_at hl 2 rfl) ?_
      refine lv_iconst (v := 0) hx hb dX11_grown_27 (by decide) ?_
      refine lv_bipush (v := 9) hx hb dX11_grown_28 (by decide) ?_
      refine e_callSi (As := [.int p2, .int 0, .int 9]) (rest := []) nxE_stable hs ⟨hx, hb, hml, hown, hts⟩ (cC_X11_within l D h cy _ _ _ _ _ hw) (va_cwS 3 hts gX11_grown_X11_within rfl rfl rfl (by decide +kernel) ⟨Nat.le_of_ble_eq_true rfl, Nat.le_of_ble_eq_true rfl⟩) hK hP hD hS hA rfl hl.1 rfl (Nat.le_of_ble_eq_true rfl) dX11_grown_30 ⟨Nat.zero_le _, Nat.zero_le _⟩ (fun r_5 S_6 H locs hw hP hD hS => ?_)
      obtain ⟨hc_7t, hc_7f⟩ := hw
      refine lv_if_eq (tgt := 48) hx hb dX11_grown_33 (by decide) (fun c_7 => ?_) (fun c_7 => ?_)
      · have hw := hc_7t c_7
        clear hc_7t hc_7f
        refine lv_bipush (v := (-2)) hx hb dX11_grown_48 (by decide) ?_
        exact W.iret (v := (-2)) hx hb hr (fun t ht hW => ⟨⟨(-2), S_6, rfl, hw, by rw [ht]; exact hP, va_K.moved hW.alike hK, hD⟩, hS.F ht⟩) hS.2.2 dX11_grown_50
      · have hw := hc_7f c_7
        clear hc_7t hc_7f
        refine lv_aload_n hx hb dX11_grown_36 rfl (lv_at hl 0 rfl) ?_
        refine va_get (D := D) (ci := 10) (v := .ref (h 1)) (C := RX11) (T := TX11) (N := 9) hx hb hts hin11 hown hK hP 0 rfl rfl 0 (by decide) w10 (fun _ h9 => h9) rfl dX11_grown_37 ?_
        refine va_get (D := D) (ci := 0) (v := .int (cx_c_grownCount S_6)) (C := RX0) (T := TX0) (N := 16) hx hb hts hin0 hown hK hP 1 rfl rfl 15 (by decide) w336 (fun _ h9 => h9) rfl dX11_grown_40 ?_
        refine lv_bipush (v := 8) hx hb dX11_grown_43 (by decide) ?_
        obtain ⟨hc_8t, hc_8f⟩ := hw
        refine lv_icmp_lt (tgt := 51) hx hb dX11_grown_45 (by decide) (fun c_8 => ?_) (fun c_8 => ?_)
        · have hw := hc_8t c_8
          clear hc_8t hc_8f
          refine lv_aload_n hx hb dX11_grown_51 rfl (lv_at hl 0 rfl) ?_
          refine va_get (D := D) (ci := 10) (v := .ref (h 1)) (C := RX11) (T := TX11) (N := 9) hx hb hts hin11 hown hK hP 0 rfl rfl 0 (by decide) w10 (fun _ h9 => h9) rfl dX11_grown_52 ?_
          refine va_get (D := D) (ci := 0) (v := .ref (h 22)) (C := RX0) (T := TX0) (N := 16) hx hb hts hin0 hown hK hP 1 rfl rfl 14 (by decide) w339 (fun _ h9 => h9) rfl dX11_grown_55 ?_
          refine lv_aload_n hx hb dX11_grown_58 rfl (lv_at hl 0 rfl) ?_
          refine va_get (D := D) (ci := 10) (v := .ref (h 1)) (C := RX11) (T := TX11) (N := 9) hx hb hts hin11 hown hK hP 0 rfl rfl 0 (by decide) w10 (fun _ h9 => h9) rfl dX11_grown_59 ?_
          refine va_get (D := D) (ci := 0) (v := .int (cx_c_grownCount S_6)) (C := RX0) (T := TX0) (N := 16) hx hb hts hin0 hown hK hP 1 rfl rfl 15 (by decide) w336 (fun _ h9 => h9) rfl dX11_grown_62 ?_
          refine lv_iload_n hx hb dX11_grown_65 rfl (lv_at hl 1 rfl) ?_
          refine lv_bipush (v := 10) hx hb dX11_grown_66 (by decide) ?_
          refine lv_imul hx hb dX11_grown_68 ?_
          refine lv_iload_n hx hb dX11_grown_69 rfl (lv_at hl 2 rfl) ?_
          refine lv_iadd hx hb dX11_grown_70 ?_
          refine e_callSv (As := [.ref (h 22), .int (cx_c_grownCount S_6), .int ((p1 * 10) + p2)]) (rest := []) nxE_stable hs ⟨hx, hb, hml, hown, hts⟩ (cA_put l D nxE (tyC cy) (wC h cy) cx_c_growns cx_set_c_growns S_6 22 10 _ _ 8 rfl (wCs_c_growns h cy S_6) rfl (by decide) _ _ (fun S0 => S0 = (cx_set_c_growns S_6 (k_put 8 (cx_c_growns S_6) (cx_c_grownCount S_6) ((p1 * 10) + p2)))) rfl) (va_cwS 3 hts gX11_grown_X11_put rfl rfl rfl (by decide +kernel) ⟨Nat.le_of_ble_eq_true rfl, Nat.le_of_ble_eq_true rfl⟩) hK hP hD hS hA rfl hl.1 rfl (Nat.le_of_ble_eq_true rfl) dX11_grown_71 ⟨Nat.zero_le _, Nat.zero_le _⟩ (fun S_9 H locs eS_9 hP hD hS => ?_)
          replace hw := hw S_9 eS_9
          refine lv_aload_n hx hb dX11_grown_74 rfl (lv_at hl 0 rfl) ?_
          refine va_get (D := D) (ci := 10) (v := .ref (h 1)) (C := RX11) (T := TX11) (N := 9) hx hb hts hin11 hown hK hP 0 rfl rfl 0 (by decide) w10 (fun _ h9 => h9) rfl dX11_grown_75 ?_
          refine lv_dup hx hb dX11_grown_78 rfl ?_
          refine va_get (D := D) (ci := 0) (v := .int (cx_c_grownCount S_9)) (C := RX0) (T := TX0) (N := 16) hx hb hts hin0 hown hK hP 1 rfl rfl 15 (by decide) w336 (fun _ h9 => h9) rfl dX11_grown_79 ?_
          refine lv_iconst (v := 1) hx hb dX11_grown_82 (by decide) ?_
          refine lv_iadd hx hb dX11_grown_83 ?_
          refine va_put (D := D) (ci := 0) (v := .int ((cx_c_grownCount S_9) + 1)) (ty := .int) (C := RX0) (T := TX0) (N := 16) hx hb hts hin0 tyX0 tyX0_ok nmX0 hown hK hP hD hS 1 rfl rfl 15 (by decide) w336 (fun _ h9 => h9) rfl (tyX0_ok 15 (by decide)) rfl rfl (Nat.le_of_ble_eq_true rfl) dX11_grown_84 (fun H locs hP hD hS => ?_)
          obtain ⟨S_10, eS_10⟩ : ∃ z : CS, z = (cx_set_c_grownCount S_9 ((cx_c_grownCount S_9) + 1)) := ⟨_, rfl⟩
          replace hw := hw S_10 eS_10
          have hP : va_P D vwCl (wC h cy S_10) H := by rw [eS_10, ← wCp_c_grownCount]; exact hP
          have hD : va_D A (wC h cy S_10) := by rw [eS_10, ← wCp_c_grownCount]; exact hD
          refine lv_aload_n hx hb dX11_grown_87 rfl (lv_at hl 0 rfl) ?_
          refine va_get (D := D) (ci := 10) (v := .ref (h 1)) (C := RX11) (T := TX11) (N := 9) hx hb hts hin11 hown hK hP 0 rfl rfl 0 (by decide) w10 (fun _ h9 => h9) rfl dX11_grown_88 ?_
          refine va_get (D := D) (ci := 0) (v := .int (cx_c_grownCount S_10)) (C := RX0) (T := TX0) (N := 16) hx hb hts hin0 hown hK hP 1 rfl rfl 15 (by decide) w336 (fun _ h9 => h9) rfl dX11_grown_91 ?_
          exact W.iret (v := (cx_c_grownCount S_10)) hx hb hr (fun t ht hW => ⟨⟨(cx_c_grownCount S_10), S_10, rfl, hw, by rw [ht]; exact hP, va_K.moved hW.alike hK, hD⟩, hS.F ht⟩) hS.2.2 dX11_grown_94
        · have hw := hc_8f c_8
          clear hc_8t hc_8f
          refine lv_bipush (v := (-2)) hx hb dX11_grown_48 (by decide) ?_
          exact W.iret (v := (-2)) hx hb hr (fun t ht hW => ⟨⟨(-2), S_6, rfl, hw, by rw [ht]; exact hP, va_K.moved hW.alike hK, hD⟩, hS.F ht⟩) hS.2.2 dX11_grown_50
  · have hw := hc_1t c_1
    clear hc_1t hc_1f
    refine lv_aload_n hx hb dX11_grown_5 rfl (lv_at hl 0 rfl) ?_
    refine va_get (D := D) (ci := 10) (v := .ref (h 1)) (C := RX11) (T := TX11) (N := 9) hx hb hts hin11 hown hK hP 0 rfl rfl 0 (by decide) w10 (fun _ h9 => h9) rfl dX11_grown_6 ?_
    refine lv_iconst (v := 0) hx hb dX11_grown_9 (by decide) ?_
    refine va_put (D := D) (ci := 0) (v := .int 0) (ty := .int) (C := RX0) (T := TX0) (N := 16) hx hb hts hin0 tyX0 tyX0_ok nmX0 hown hK hP hD hS 1 rfl rfl 15 (by decide) w336 (fun _ h9 => h9) rfl (tyX0_ok 15 (by decide)) rfl rfl (Nat.le_of_ble_eq_true rfl) dX11_grown_10 (fun H locs hP hD hS => ?_)
    obtain ⟨S_11, eS_11⟩ : ∃ z : CS, z = (cx_set_c_grownCount S 0) := ⟨_, rfl⟩
    replace hw := hw S_11 eS_11
    have hP : va_P D vwCl (wC h cy S_11) H := by rw [eS_11, ← wCp_c_grownCount]; exact hP
    have hD : va_D A (wC h cy S_11) := by rw [eS_11, ← wCp_c_grownCount]; exact hD
    refine lv_iconst (v := 0) hx hb dX11_grown_13 (by decide) ?_
    exact W.iret (v := 0) hx hb hr (fun t ht hW => ⟨⟨0, S_11, rfl, hw, by rw [ht]; exact hP, va_K.moved hW.alike hK, hD⟩, hS.F ht⟩) hS.2.2 dX11_grown_14
def wC_X11_growsAsTold_2 (post : Int32 → CS → Prop) : Nat → Option Nat → Int32 → CS → Prop
  | 0, _, _, _ => False
  | n + 1, x1, x2, S => (((cx_c_grownCount S) ≤ x2 → post 1 S) ∧ (¬ ((cx_c_grownCount S) ≤ x2) → wC_X3_growing x1 ((k_at 8 (cx_c_growns S) x2) / 10) S (fun r_2 S_3 => ((r_2 = (k_rem (k_at 8 (cx_c_growns S) x2) 10) → wC_X11_growsAsTold_2 post n x1 (x2 + 1) S_3) ∧ (¬ (r_2 = (k_rem (k_at 8 (cx_c_growns S) x2) 10)) → post 0 S_3)))))
def wC_X11_growsAsTold (p1 : Option Nat) (S : CS) (post : Int32 → CS → Prop) : Prop := ∃ k_ : Nat, wC_X11_growsAsTold_2 post k_ p1 0 S
set_option maxHeartbeats 4000000 in
set_option maxRecDepth 100000 in
theorem cC_X11_growsAsTold (l : Launch) (D : va_G) (h : Nat → Nat) (cy : Nat → ClassId) (p1 : Option Nat) (S : CS) (post : Int32 → CS → Prop) (hw : wC_X11_growsAsTold p1 S post) : e_Mi nxE l yX11_growsAsTold wsX11_growsAsTold { frames := 4, cells := 0, slots := 0, locals := 99 } D (tyC cy) (wC h cy) [.ref (h 0), va_rf p1] S post := by
  intro sz
  refine Met.ofW (cc := cX11_growsAsTold) (maxL := 4) (ret := (some .boolean)) (by decide) rfl ?_
  intro p e s m args below meth c s₁ B hml hv
  obtain ⟨rfl, hsz, hP, hK, hD0, hs⟩ := hv
  have hx := B.exec
  have hb := B.bytes
  have hr := B.returns
  have hts := atoms_spec (ws := wsX11_growsAsTold) B.pre
  have hown : s.vm.findClass RX11 = some m.cls := findClass_of_methodNamed B.named
  have hlocks := B.notSynchronized
  subst hsz
  have hD := hD0.self (sz := s.heap.size)
  generalize hAe : va_A (wC h cy S) s.heap.size = A at hD ⊢
  have hA : ∀ q : Nat, s.heap.size ≤ q → A q := fun q h => by rw [← hAe]; exact Or.inr h
  have hS : va_S A s.heap s.heap [] := va_S.rf
  have hin11 : ∀ w ∈ wsX110, w ∈ wsX11_growsAsTold := fun _ h => List.mem_cons_of_mem _ (List.mem_append_left _ (List.mem_append_left _ (List.mem_append_left _ (List.mem_append_right _ h))))
  have hin0 : ∀ w ∈ wsX00, w ∈ wsX11_growsAsTold := fun _ h => List.mem_cons_of_mem _ (List.mem_append_left _ (List.mem_append_left _ (List.mem_append_right _ h)))
  have hin3 : ∀ w ∈ wsX30, w ∈ wsX11_growsAsTold := fun _ h => List.mem_cons_of_mem _ (List.mem_append_left _ (List.mem_append_right _ h))
  have hin9 : ∀ w ∈ wsX90, w ∈ wsX11_growsAsTold := fun _ h => List.mem_cons_of_mem _ (List.mem_append_right _ h)
  have w10 := hts (.fieldLink RX11 10 "ClownsMourn" "city" "LClownsMourn$City;") (List.mem_of_getElem? (i := 1) rfl)
  have w31 := hts (.fieldLink RX11 31 "ClownsMourn" "laws" "LClownsMourn$Laws;") (List.mem_of_getElem? (i := 4) rfl)
  have w336 := hts (.fieldLink RX11 336 "ClownsMourn$City" "grownCount" "I") (List.mem_of_getElem? (i := 2) rfl)
  have w339 := hts (.fieldLink RX11 339 "ClownsMourn$City" "growns" "[I") (List.mem_of_getElem? (i := 3) rfl)
  have hl := lv_entry ([.ref (h 0), va_rf p1]) (n := 4) (by cases p1 <;> exact Nat.le_of_ble_eq_true rfl)
  rw [lg_entry_eq]
  generalize (lg_sl ([.ref (h 0), va_rf p1]) ++ List.replicate (4 - (lg_sl ([.ref (h 0), va_rf p1])).length) Slot.unset).toArray = ls at hl ⊢
  have hl : lv_has ls 4 [(0, .ref (h 0)), (1, va_rf p1)] := by cases p1 <;> exact hl
  unfold wC_X11_growsAsTold at hw
  clear hD0
  have L_2 : ∀ (n2 : Nat) (x1 : Option Nat) (x2 : Int32) (S : CS) (H : Heap) (locs : List Loc) (ls : Array Slot), wC_X11_growsAsTold_2 post n2 x1 x2 S → va_P D vwCl (wC h cy S) H → va_D A (wC h cy S) → va_S A s.heap H locs → lv_has ls 4 [(0, .ref (h 0)), (1, va_rf x1), (2, .int x2)] → W p l e (headSpec wsX11_growsAsTold { frames := 4, cells := 0, slots := 0, locals := 99 }).room s m (([.ref (h 0), va_rf p1] : List Value).toArray) below meth c H locs 0 0 (MQ below (va_Qi post (k_Post D (tyC cy) (wC h cy) A) A) (([.ref (h 0), va_rf p1] : List Value).toArray) s 0 0 A) (F0 m 2 ls []) := by
    intro n2
    induction n2 with
    | zero => intro x1 x2 S H locs ls hw; exact False.elim hw
    | succ n2 ih_2 =>
      intro x1 x2 S H locs ls hw hP hD hS hl
      unfold wC_X11_growsAsTold_2 at hw
      refine lv_iload_n hx hb dX11_growsAsTold_2 rfl (lv_at hl 2 rfl) ?_
      refine lv_aload_n hx hb dX11_growsAsTold_3 rfl (lv_at hl 0 rfl) ?_
      refine va_get (D := D) (ci := 10) (v := .ref (h 1)) (C := RX11) (T := TX11) (N := 9) hx hb hts hin11 hown hK hP 0 rfl rfl 0 (by decide) w10 (fun _ h9 => h9) rfl dX11_growsAsTold_4 ?_
      refine va_get (D := D) (ci := 0) (v := .int (cx_c_grownCount S)) (C := RX0) (T := TX0) (N := 16) hx hb hts hin0 hown hK hP 1 rfl rfl 15 (by decide) w336 (fun _ h9 => h9) rfl dX11_growsAsTold_7 ?_
      obtain ⟨hc_1t, hc_1f⟩ := hw
      refine lv_icmp_ge (tgt := 52) hx hb dX11_growsAsTold_10 (by decide) (fun c_1 => ?_) (fun c_1 => ?_)
      · have hw := hc_1t c_1
        clear hc_1t hc_1f
        refine lv_iconst (v := 1) hx hb dX11_growsAsTold_52 (by decide) ?_
        exact W.zret (v := 1) hx hb hr (by decide +kernel) (fun t ht hW => ⟨⟨1, S, rfl, hw, by rw [ht]; exact hP, va_K.moved hW.alike hK, hD⟩, hS.F ht⟩) hS.2.2 dX11_growsAsTold_53
      · have hw := hc_1f c_1
        clear hc_1t hc_1f
        refine lv_aload_n hx hb dX11_growsAsTold_13 rfl (lv_at hl 0 rfl) ?_
        refine va_get (D := D) (ci := 10) (v := .ref (h 1)) (C := RX11) (T := TX11) (N := 9) hx hb hts hin11 hown hK hP 0 rfl rfl 0 (by decide) w10 (fun _ h9 => h9) rfl dX11_growsAsTold_14 ?_
        refine va_get (D := D) (ci := 0) (v := .ref (h 22)) (C := RX0) (T := TX0) (N := 16) hx hb hts hin0 hown hK hP 1 rfl rfl 14 (by decide) w339 (fun _ h9 => h9) rfl dX11_growsAsTold_17 ?_
        refine lv_iload_n hx hb dX11_growsAsTold_20 rfl (lv_at hl 2 rfl) ?_
        refine e_callSi (As := [.ref (h 22), .int x2]) (rest := []) nxE_stable hs ⟨hx, hb, hml, hown, hts⟩ (cA_at l D nxE (tyC cy) (wC h cy) S 22 10 _ _ 8 (cx_c_growns S) rfl rfl (by decide) _ (fun r S0 => r = k_at 8 (cx_c_growns S) x2 ∧ S = S0) ⟨rfl, rfl⟩) (va_cwS 2 hts gX11_growsAsTold_X11_at rfl rfl rfl (by decide +kernel) ⟨Nat.le_of_ble_eq_true rfl, Nat.le_of_ble_eq_true rfl⟩) hK hP hD hS hA rfl hl.1 rfl (Nat.le_of_ble_eq_true rfl) dX11_growsAsTold_21 ⟨Nat.zero_le _, Nat.zero_le _⟩ (fun r_ S_ H locs hq hP hD hS => ?_)
        obtain ⟨rfl, rfl⟩ := hq
        refine lv_istore_n (lv' := [(3, .int (k_at 8 (cx_c_growns S) x2)), (0, .ref (h 0)), (1, va_rf x1), (2, .int x2)]) hx hb dX11_growsAsTold_24 rfl hl (by decide) rfl (fun ls hl => ?_)
        refine lv_aload_n hx hb dX11_growsAsTold_25 rfl (lv_at hl 1 rfl) ?_
        refine va_get (D := D) (ci := 10) (v := .ref (h 6)) (C := RX11) (T := TX11) (N := 9) hx hb hts hin11 hown hK hP 0 rfl rfl 3 (by decide) w31 (fun _ h9 => h9) rfl dX11_growsAsTold_26 ?_
        refine k_aload_nq hx hb dX11_growsAsTold_29 rfl (lv_at hl 2 rfl) ?_
        refine lv_iload_n hx hb dX11_growsAsTold_30 rfl (lv_at hl 0 rfl) ?_
        refine lv_bipush (v := 10) hx hb dX11_growsAsTold_31 (by decide) ?_
        refine lv_idiv hx hb dX11_growsAsTold_33 (by decide) ?_
        refine e_callVi (As := [va_rf x1, .int ((k_at 8 (cx_c_growns S) x2) / 10)]) (rest := []) nxE_stable hs ⟨hx, hb, hml, hown, hts⟩ (cC_X3_growing l D h cy _ _ _ _ hw) (cwV 2 hts gX11_growsAsTold_X3_growing rfl rfl rfl (by decide +kernel) ⟨Nat.le_of_ble_eq_true rfl, Nat.le_of_ble_eq_true rfl⟩) (va_recv hK hP (ci := 3) (q0 := 6) rfl rfl) hK hP hD hS hA rfl hl.1 rfl (Nat.le_of_ble_eq_true rfl) dX11_growsAsTold_34 ⟨Nat.zero_le _, Nat.zero_le _⟩ (fun r_2 S_3 H locs hw hP hD hS => ?_)
        refine lv_iload_n hx hb dX11_growsAsTold_37 rfl (lv_at hl 0 rfl) ?_
        refine lv_bipush (v := 10) hx hb dX11_growsAsTold_38 (by decide) ?_
        refine k_irem hx hb dX11_growsAsTold_40 (by decide) ?_
        obtain ⟨hc_4t, hc_4f⟩ := hw
        refine lv_icmp_eq (tgt := 46) hx hb dX11_growsAsTold_41 (by decide) (fun c_4 => ?_) (fun c_4 => ?_)
        · have hw := hc_4t c_4
          clear hc_4t hc_4f
          refine lv_iinc (v := x2 + 1) (lv' := [(2, .int (x2 + 1)), (3, .int (k_at 8 (cx_c_growns S) x2)), (0, .ref (h 0)), (1, va_rf x1)]) hx hb dX11_growsAsTold_46 hl (k := 3) rfl (k_inc (by decide)) (by decide) (by simp [List.filter, k_cat]) (fun ls hl => ?_)
          refine lv_goto (tgt := 2) hx hb dX11_growsAsTold_49 (by decide) ?_
          exact ih_2 x1 (x2 + 1) S_3 _ _ _ hw hP hD hS (lv_sub hl [2, 3, 0] rfl)
        · have hw := hc_4f c_4
          clear hc_4t hc_4f
          refine lv_iconst (v := 0) hx hb dX11_growsAsTold_44 (by decide) ?_
          exact W.zret (v := 0) hx hb hr (by decide +kernel) (fun t ht hW => ⟨⟨0, S_3, rfl, hw, by rw [ht]; exact hP, va_K.moved hW.alike hK, hD⟩, hS.F ht⟩) hS.2.2 dX11_growsAsTold_45
  refine lv_iconst (v := 0) hx hb dX11_growsAsTold_0 (by decide) ?_
  refine lv_istore_n (lv' := [(2, .int 0), (0, .ref (h 0)), (1, va_rf p1)]) hx hb dX11_growsAsTold_1 rfl hl (by decide) (by simp [List.filter, k_cat]) (fun ls hl => ?_)
  obtain ⟨n_2, hw⟩ := hw
  exact L_2 n_2 p1 0 S _ _ _ hw hP hD hS (lv_sub hl [1, 2, 0] rfl)
def wC_X11_whose_4 (post : Int32 → CS → Prop) : Nat → Int32 → Int32 → CS → Prop
  | 0, _, _, _ => False
  | n + 1, x1, x2, S => (((cx_c_textCount S) ≤ x2 → post x1 S) ∧ (¬ ((cx_c_textCount S) ≤ x2) → wC_X0_textAt x2 S (fun r_2 S_3 => wC_X11_growsAsTold r_2 S_3 (fun r_4 S_5 => ((r_4 = 0 → wC_X11_whose_4 post n x1 (x2 + 1) S_5) ∧ (¬ (r_4 = 0) → wC_X11_whose_4 post n (x1 ||| (k_shl 1 x2)) (x2 + 1) S_5))))))
def wC_X11_whose (S : CS) (post : Int32 → CS → Prop) : Prop := ∃ k_ : Nat, wC_X11_whose_4 post k_ 0 0 S
set_option maxHeartbeats 4000000 in
set_option maxRecDepth 100000 in
theorem cC_X11_whose (l : Launch) (D : va_G) (h : Nat → Nat) (cy : Nat → ClassId) (S : CS) (post : Int32 → CS → Prop) (hw : wC_X11_whose S post) : e_Mi nxE l yX11_whose wsX11_whose { frames := 5, cells := 0, slots := 0, locals := 122 } D (tyC cy) (wC h cy) [.ref (h 0)] S post := by
  intro sz
  refine Met.ofW (cc := cX11_whose) (maxL := 3) (ret := (some .int)) (by decide) rfl ?_
  intro p e s m args below meth c s₁ B hml hv
  obtain ⟨rfl, hsz, hP, hK, hD0, hs⟩ := hv
  have hx := B.exec
  have hb := B.bytes
  have hr := B.returns
  have hts := atoms_spec (ws := wsX11_whose) B.pre
  have hown : s.vm.findClass RX11 = some m.cls := findClass_of_methodNamed B.named
  have hlocks := B.notSynchronized
  subst hsz
  have hD := hD0.self (sz := s.heap.size)
  generalize hAe : va_A (wC h cy S) s.heap.size = A at hD ⊢
  have hA : ∀ q : Nat, s.heap.size ≤ q → A q := fun q h => by rw [← hAe]; exact Or.inr h
  have hS : va_S A s.heap s.heap [] := va_S.rf
  have hin11 : ∀ w ∈ wsX110, w ∈ wsX11_whose := fun _ h => List.mem_cons_of_mem _ (List.mem_append_left _ (List.mem_append_left _ (List.mem_append_left _ (List.mem_append_right _ h))))
  have hin0 : ∀ w ∈ wsX00, w ∈ wsX11_whose := fun _ h => List.mem_cons_of_mem _ (List.mem_append_left _ (List.mem_append_left _ (List.mem_append_right _ h)))
  have hin3 : ∀ w ∈ wsX30, w ∈ wsX11_whose := fun _ h => List.mem_cons_of_mem _ (List.mem_append_left _ (List.mem_append_right _ h))
  have hin9 : ∀ w ∈ wsX90, w ∈ wsX11_whose := fun _ h => List.mem_cons_of_mem _ (List.mem_append_right _ h)
  have w10 := hts (.fieldLink RX11 10 "ClownsMourn" "city" "LClownsMourn$City;") (List.mem_of_getElem? (i := 1) rfl)
  have w110 := hts (.fieldLink RX11 110 "ClownsMourn$City" "textCount" "I") (List.mem_of_getElem? (i := 2) rfl)
  have hl := lv_entry ([.ref (h 0)]) (n := 3) (Nat.le_of_ble_eq_true rfl)
  rw [lg_entry_eq]
  generalize (lg_sl ([.ref (h 0)]) ++ List.replicate (3 - (lg_sl ([.ref (h 0)])).length) Slot.unset).toArray = ls at hl ⊢
  have hl : lv_has ls 3 [(0, .ref (h 0))] := hl
  unfold wC_X11_whose at hw
  clear hD0
  have L_4 : ∀ (n4 : Nat) (x1 : Int32) (x2 : Int32) (S : CS) (H : Heap) (locs : List Loc) (ls : Array Slot), wC_X11_whose_4 post n4 x1 x2 S → va_P D vwCl (wC h cy S) H → va_D A (wC h cy S) → va_S A s.heap H locs → lv_has ls 3 [(0, .ref (h 0)), (1, .int x1), (2, .int x2)] → W p l e (headSpec wsX11_whose { frames := 5, cells := 0, slots := 0, locals := 122 }).room s m (([.ref (h 0)] : List Value).toArray) below meth c H locs 0 0 (MQ below (va_Qi post (k_Post D (tyC cy) (wC h cy) A) A) (([.ref (h 0)] : List Value).toArray) s 0 0 A) (F0 m 4 ls []) := by
    intro n4
    induction n4 with
    | zero => intro x1 x2 S H locs ls hw; exact False.elim hw
    | succ n4 ih_4 =>
      intro x1 x2 S H locs ls hw hP hD hS hl
      unfold wC_X11_whose_4 at hw
      refine lv_iload_n hx hb dX11_whose_4 rfl (lv_at hl 2 rfl) ?_
      refine lv_aload_n hx hb dX11_whose_5 rfl (lv_at hl 0 rfl) ?_
      refine va_get (D := D) (ci := 10) (v := .ref (h 1)) (C := RX11) (T := TX11) (N := 9) hx hb hts hin11 hown hK hP 0 rfl rfl 0 (by decide) w10 (fun _ h9 => h9) rfl dX11_whose_6 ?_
      refine va_get (D := D) (ci := 0) (v := .int (cx_c_textCount S)) (C := RX0) (T := TX0) (N := 16) hx hb hts hin0 hown hK hP 1 rfl rfl 7 (by decide) w110 (fun _ h9 => h9) rfl dX11_whose_9 ?_
      obtain ⟨hc_1t, hc_1f⟩ := hw
      refine lv_icmp_ge (tgt := 42) hx hb dX11_whose_12 (by decide) (fun c_1 => ?_) (fun c_1 => ?_)
      · have hw := hc_1t c_1
        clear hc_1t hc_1f
        refine lv_iload_n hx hb dX11_whose_42 rfl (lv_at hl 1 rfl) ?_
        exact W.iret (v := x1) hx hb hr (fun t ht hW => ⟨⟨x1, S, rfl, hw, by rw [ht]; exact hP, va_K.moved hW.alike hK, hD⟩, hS.F ht⟩) hS.2.2 dX11_whose_43
      · have hw := hc_1f c_1
        clear hc_1t hc_1f
        refine lv_aload_n hx hb dX11_whose_15 rfl (lv_at hl 0 rfl) ?_
        refine lv_aload_n hx hb dX11_whose_16 rfl (lv_at hl 0 rfl) ?_
        refine va_get (D := D) (ci := 10) (v := .ref (h 1)) (C := RX11) (T := TX11) (N := 9) hx hb hts hin11 hown hK hP 0 rfl rfl 0 (by decide) w10 (fun _ h9 => h9) rfl dX11_whose_17 ?_
        refine lv_iload_n hx hb dX11_whose_20 rfl (lv_at hl 2 rfl) ?_
        refine e_callVq (As := [.int x2]) (rest := [.ref (h 0)]) nxE_stable hs ⟨hx, hb, hml, hown, hts⟩ (cC_X0_textAt l D h cy _ _ _ hw) (cwV 1 hts gX11_whose_X0_textAt rfl rfl rfl (by decide +kernel) ⟨Nat.le_of_ble_eq_true rfl, Nat.le_of_ble_eq_true rfl⟩) (va_recv hK hP (ci := 0) (q0 := 1) rfl rfl) hK hP hD hS hA rfl hl.1 rfl (Nat.le_of_ble_eq_true rfl) dX11_whose_21 ⟨Nat.zero_le _, Nat.zero_le _⟩ (fun r_2 S_3 H locs hw hP hD hS => ?_)
        refine e_callVi (As := [va_rf r_2]) (rest := []) nxE_stable hs ⟨hx, hb, hml, hown, hts⟩ (cC_X11_growsAsTold l D h cy _ _ _ hw) (cwV 1 hts gX11_whose_X11_growsAsTold rfl rfl rfl (by decide +kernel) ⟨Nat.le_of_ble_eq_true rfl, Nat.le_of_ble_eq_true rfl⟩) (va_recv hK hP (ci := 10) (q0 := 0) rfl rfl) hK hP hD hS hA rfl hl.1 rfl (Nat.le_of_ble_eq_true rfl) dX11_whose_24 ⟨Nat.zero_le _, Nat.zero_le _⟩ (fun r_4 S_5 H locs hw hP hD hS => ?_)
        obtain ⟨hc_6t, hc_6f⟩ := hw
        refine lv_if_eq (tgt := 36) hx hb dX11_whose_27 (by decide) (fun c_6 => ?_) (fun c_6 => ?_)
        · have hw := hc_6t c_6
          clear hc_6t hc_6f
          refine lv_iinc (v := x2 + 1) (lv' := [(2, .int (x2 + 1)), (0, .ref (h 0)), (1, .int x1)]) hx hb dX11_whose_36 hl (k := 2) rfl (k_inc (by decide)) (by decide) rfl (fun ls hl => ?_)
          refine lv_goto (tgt := 4) hx hb dX11_whose_39 (by decide) ?_
          exact ih_4 x1 (x2 + 1) S_5 _ _ _ hw hP hD hS (lv_sub hl [1, 2, 0] rfl)
        · have hw := hc_6f c_6
          clear hc_6t hc_6f
          refine lv_iload_n hx hb dX11_whose_30 rfl (lv_at hl 1 rfl) ?_
          refine lv_iconst (v := 1) hx hb dX11_whose_31 (by decide) ?_
          refine lv_iload_n hx hb dX11_whose_32 rfl (lv_at hl 2 rfl) ?_
          refine k_ishl hx hb dX11_whose_33 ?_
          refine lv_ior hx hb dX11_whose_34 ?_
          refine lv_istore_n (lv' := [(1, .int (x1 ||| (k_shl 1 x2))), (0, .ref (h 0)), (2, .int x2)]) hx hb dX11_whose_35 rfl hl (by decide) rfl (fun ls hl => ?_)
          refine lv_iinc (v := x2 + 1) (lv' := [(2, .int (x2 + 1)), (1, .int (x1 ||| (k_shl 1 x2))), (0, .ref (h 0))]) hx hb dX11_whose_36 hl (k := 2) rfl (k_inc (by decide)) (by decide) rfl (fun ls hl => ?_)
          refine lv_goto (tgt := 4) hx hb dX11_whose_39 (by decide) ?_
          exact ih_4 (x1 ||| (k_shl 1 x2)) (x2 + 1) S_5 _ _ _ hw hP hD hS (lv_sub hl [2, 1, 0] rfl)
  refine lv_iconst (v := 0) hx hb dX11_whose_0 (by decide) ?_
  refine lv_istore_n (lv' := [(1, .int 0), (0, .ref (h 0))]) hx hb dX11_whose_1 rfl hl (by decide) rfl (fun ls hl => ?_)
  refine lv_iconst (v := 0) hx hb dX11_whose_2 (by decide) ?_
  refine lv_istore_n (lv' := [(2, .int 0), (1, .int 0), (0, .ref (h 0))]) hx hb dX11_whose_3 rfl hl (by decide) rfl (fun ls hl => ?_)
  obtain ⟨n_4, hw⟩ := hw
  exact L_4 n_4 0 0 S _ _ _ hw hP hD hS (lv_sub hl [2, 1, 0] rfl)
def wC_X11_clocks_17 (post : Int32 → CS → Prop) : Nat → Int32 → Int32 → Int32 → CS → Prop
  | 0, _, _, _, _ => False
  | n + 1, x1, x2, x3, S => wC_X0_houseCount S (fun r_1 S_2 => ((r_1 ≤ x3 → post x2 S_2) ∧ (¬ (r_1 ≤ x3) → wC_X0_see 12 x3 S_2 (fun r_4 S_5 => ((r_4 = x1 → wC_X11_clocks_17 post n x1 (x2 ||| (k_shl 1 x3)) (x3 + 1) S_5) ∧ (¬ (r_4 = x1) → wC_X11_clocks_17 post n x1 x2 (x3 + 1) S_5))))))
def wC_X11_clocks (p1 : Int32) (S : CS) (post : Int32 → CS → Prop) : Prop := wC_X0_hasClown p1 S (fun r_1 S_2 => ((r_1 = 0 → post (-1) S_2) ∧ (¬ (r_1 = 0) → ∃ k_ : Nat, wC_X11_clocks_17 post k_ p1 0 0 S_2)))
set_option maxHeartbeats 4000000 in
set_option maxRecDepth 100000 in
theorem cC_X11_clocks (l : Launch) (D : va_G) (h : Nat → Nat) (cy : Nat → ClassId) (p1 : Int32) (S : CS) (post : Int32 → CS → Prop) (hw : wC_X11_clocks p1 S post) : e_Mi nxE l yX11_clocks wsX11_clocks { frames := 2, cells := 0, slots := 0, locals := 43 } D (tyC cy) (wC h cy) [.ref (h 0), .int p1] S post := by
  intro sz
  refine Met.ofW (cc := cX11_clocks) (maxL := 4) (ret := (some .int)) (by decide) rfl ?_
  intro p e s m args below meth c s₁ B hml hv
  obtain ⟨rfl, hsz, hP, hK, hD0, hs⟩ := hv
  have hx := B.exec
  have hb := B.bytes
  have hr := B.returns
  have hts := atoms_spec (ws := wsX11_clocks) B.pre
  have hown : s.vm.findClass RX11 = some m.cls := findClass_of_methodNamed B.named
  have hlocks := B.notSynchronized
  subst hsz
  have hD := hD0.self (sz := s.heap.size)
  generalize hAe : va_A (wC h cy S) s.heap.size = A at hD ⊢
  have hA : ∀ q : Nat, s.heap.size ≤ q → A q := fun q h => by rw [← hAe]; exact Or.inr h
  have hS : va_S A s.heap s.heap [] := va_S.rf
  have hin11 : ∀ w ∈ wsX110, w ∈ wsX11_clocks := fun _ h => List.mem_cons_of_mem _ (List.mem_append_left _ (List.mem_append_right _ h))
  have hin0 : ∀ w ∈ wsX00, w ∈ wsX11_clocks := fun _ h => List.mem_cons_of_mem _ (List.mem_append_right _ h)
  have w10 := hts (.fieldLink RX11 10 "ClownsMourn" "city" "LClownsMourn$City;") (List.mem_of_getElem? (i := 1) rfl)
  have hl := lv_entry ([.ref (h 0), .int p1]) (n := 4) (Nat.le_of_ble_eq_true rfl)
  rw [lg_entry_eq]
  generalize (lg_sl ([.ref (h 0), .int p1]) ++ List.replicate (4 - (lg_sl ([.ref (h 0), .int p1])).length) Slot.unset).toArray = ls at hl ⊢
  have hl : lv_has ls 4 [(0, .ref (h 0)), (1, .int p1)] := hl
  unfold wC_X11_clocks at hw
  clear hD0
  have L_17 : ∀ (n17 : Nat) (x1 : Int32) (x2 : Int32) (x3 : Int32) (S : CS) (H : Heap) (locs : List Loc) (ls : Array Slot), wC_X11_clocks_17 post n17 x1 x2 x3 S → va_P D vwCl (wC h cy S) H → va_D A (wC h cy S) → va_S A s.heap H locs → lv_has ls 4 [(0, .ref (h 0)), (1, .int x1), (2, .int x2), (3, .int x3)] → W p l e (headSpec wsX11_clocks { frames := 2, cells := 0, slots := 0, locals := 43 }).room s m (([.ref (h 0), .int p1] : List Value).toArray) below meth c H locs 0 0 (MQ below (va_Qi post (k_Post D (tyC cy) (wC h cy) A) A) (([.ref (h 0), .int p1] : List Value).toArray) s 0 0 A) (F0 m 17 ls []) := by
    intro n17
    induction n17 with
    | zero => intro x1 x2 x3 S H locs ls hw; exact False.elim hw
    | succ n17 ih_17 =>
      intro x1 x2 x3 S H locs ls hw hP hD hS hl
      unfold wC_X11_clocks_17 at hw
      refine lv_iload_n hx hb dX11_clocks_17 rfl (lv_at hl 3 rfl) ?_
      refine lv_aload_n hx hb dX11_clocks_18 rfl (lv_at hl 0 rfl) ?_
      refine va_get (D := D) (ci := 10) (v := .ref (h 1)) (C := RX11) (T := TX11) (N := 9) hx hb hts hin11 hown hK hP 0 rfl rfl 0 (by decide) w10 (fun _ h9 => h9) rfl dX11_clocks_19 ?_
      refine e_callVi (As := []) (rest := [.int x3]) nxE_stable hs ⟨hx, hb, hml, hown, hts⟩ (cC_X0_houseCount l D h cy _ _ hw) (cwV 0 hts gX11_clocks_X0_houseCount rfl rfl rfl (by decide +kernel) ⟨Nat.le_of_ble_eq_true rfl, Nat.le_of_ble_eq_true rfl⟩) (va_recv hK hP (ci := 0) (q0 := 1) rfl rfl) hK hP hD hS hA rfl hl.1 rfl (Nat.le_of_ble_eq_true rfl) dX11_clocks_22 ⟨Nat.zero_le _, Nat.zero_le _⟩ (fun r_1 S_2 H locs hw hP hD hS => ?_)
      obtain ⟨hc_3t, hc_3f⟩ := hw
      refine lv_icmp_ge (tgt := 54) hx hb dX11_clocks_25 (by decide) (fun c_3 => ?_) (fun c_3 => ?_)
      · have hw := hc_3t c_3
        clear hc_3t hc_3f
        refine lv_iload_n hx hb dX11_clocks_54 rfl (lv_at hl 2 rfl) ?_
        exact W.iret (v := x2) hx hb hr (fun t ht hW => ⟨⟨x2, S_2, rfl, hw, by rw [ht]; exact hP, va_K.moved hW.alike hK, hD⟩, hS.F ht⟩) hS.2.2 dX11_clocks_55
      · have hw := hc_3f c_3
        clear hc_3t hc_3f
        refine lv_aload_n hx hb dX11_clocks_28 rfl (lv_at hl 0 rfl) ?_
        refine va_get (D := D) (ci := 10) (v := .ref (h 1)) (C := RX11) (T := TX11) (N := 9) hx hb hts hin11 hown hK hP 0 rfl rfl 0 (by decide) w10 (fun _ h9 => h9) rfl dX11_clocks_29 ?_
        refine lv_bipush (v := 12) hx hb dX11_clocks_32 (by decide) ?_
        refine lv_iload_n hx hb dX11_clocks_34 rfl (lv_at hl 3 rfl) ?_
        refine e_callVi (As := [.int 12, .int x3]) (rest := []) nxE_stable hs ⟨hx, hb, hml, hown, hts⟩ (cC_X0_see l D h cy _ _ _ _ hw) (cwV 2 hts gX11_clocks_X0_see rfl rfl rfl (by decide +kernel) ⟨Nat.le_of_ble_eq_true rfl, Nat.le_of_ble_eq_true rfl⟩) (va_recv hK hP (ci := 0) (q0 := 1) rfl rfl) hK hP hD hS hA rfl hl.1 rfl (Nat.le_of_ble_eq_true rfl) dX11_clocks_35 ⟨Nat.zero_le _, Nat.zero_le _⟩ (fun r_4 S_5 H locs hw hP hD hS => ?_)
        refine lv_iload_n hx hb dX11_clocks_38 rfl (lv_at hl 1 rfl) ?_
        obtain ⟨hc_6t, hc_6f⟩ := hw
        refine lv_icmp_ne (tgt := 48) hx hb dX11_clocks_39 (by decide) (fun c_6 => ?_) (fun c_6 => ?_)
        · have hw := hc_6f c_6
          clear hc_6t hc_6f
          refine lv_iinc (v := x3 + 1) (lv' := [(3, .int (x3 + 1)), (0, .ref (h 0)), (1, .int x1), (2, .int x2)]) hx hb dX11_clocks_48 hl (k := 3) rfl (k_inc (by decide)) (by decide) rfl (fun ls hl => ?_)
          refine lv_goto (tgt := 17) hx hb dX11_clocks_51 (by decide) ?_
          exact ih_17 x1 x2 (x3 + 1) S_5 _ _ _ hw hP hD hS (lv_sub hl [1, 2, 3, 0] rfl)
        · have hw := hc_6t c_6
          clear hc_6t hc_6f
          refine lv_iload_n hx hb dX11_clocks_42 rfl (lv_at hl 2 rfl) ?_
          refine lv_iconst (v := 1) hx hb dX11_clocks_43 (by decide) ?_
          refine lv_iload_n hx hb dX11_clocks_44 rfl (lv_at hl 3 rfl) ?_
          refine k_ishl hx hb dX11_clocks_45 ?_
          refine lv_ior hx hb dX11_clocks_46 ?_
          refine lv_istore_n (lv' := [(2, .int (x2 ||| (k_shl 1 x3))), (0, .ref (h 0)), (1, .int x1), (3, .int x3)]) hx hb dX11_clocks_47 rfl hl (by decide) rfl (fun ls hl => ?_)
          refine lv_iinc (v := x3 + 1) (lv' := [(3, .int (x3 + 1)), (2, .int (x2 ||| (k_shl 1 x3))), (0, .ref (h 0)), (1, .int x1)]) hx hb dX11_clocks_48 hl (k := 3) rfl (k_inc (by decide)) (by decide) rfl (fun ls hl => ?_)
          refine lv_goto (tgt := 17) hx hb dX11_clocks_51 (by decide) ?_
          exact ih_17 x1 (x2 ||| (k_shl 1 x3)) (x3 + 1) S_5 _ _ _ hw hP hD hS (lv_sub hl [2, 3, 1, 0] rfl)
  refine lv_aload_n hx hb dX11_clocks_0 rfl (lv_at hl 0 rfl) ?_
  refine va_get (D := D) (ci := 10) (v := .ref (h 1)) (C := RX11) (T := TX11) (N := 9) hx hb hts hin11 hown hK hP 0 rfl rfl 0 (by decide) w10 (fun _ h9 => h9) rfl dX11_clocks_1 ?_
  refine lv_iload_n hx hb dX11_clocks_4 rfl (lv_at hl 1 rfl) ?_
  refine e_callVi (As := [.int p1]) (rest := []) nxE_stable hs ⟨hx, hb, hml, hown, hts⟩ (cC_X0_hasClown l D h cy _ _ _ hw) (cwV 1 hts gX11_clocks_X0_hasClown rfl rfl rfl (by decide +kernel) ⟨Nat.le_of_ble_eq_true rfl, Nat.le_of_ble_eq_true rfl⟩) (va_recv hK hP (ci := 0) (q0 := 1) rfl rfl) hK hP hD hS hA rfl hl.1 rfl (Nat.le_of_ble_eq_true rfl) dX11_clocks_5 ⟨Nat.zero_le _, Nat.zero_le _⟩ (fun r_7 S_8 H locs hw hP hD hS => ?_)
  obtain ⟨hc_9t, hc_9f⟩ := hw
  refine lv_if_ne (tgt := 13) hx hb dX11_clocks_8 (by decide) (fun c_9 => ?_) (fun c_9 => ?_)
  · have hw := hc_9f c_9
    clear hc_9t hc_9f
    refine lv_iconst (v := 0) hx hb dX11_clocks_13 (by decide) ?_
    refine lv_istore_n (lv' := [(2, .int 0), (0, .ref (h 0)), (1, .int p1)]) hx hb dX11_clocks_14 rfl hl (by decide) rfl (fun ls hl => ?_)
    refine lv_iconst (v := 0) hx hb dX11_clocks_15 (by decide) ?_
    refine lv_istore_n (lv' := [(3, .int 0), (2, .int 0), (0, .ref (h 0)), (1, .int p1)]) hx hb dX11_clocks_16 rfl hl (by decide) rfl (fun ls hl => ?_)
    obtain ⟨n_17, hw⟩ := hw
    exact L_17 n_17 p1 0 0 S_8 _ _ _ hw hP hD hS (lv_sub hl [2, 3, 1, 0] rfl)
  · have hw := hc_9t c_9
    clear hc_9t hc_9f
    refine lv_iconst (v := (-1)) hx hb dX11_clocks_11 (by decide) ?_
    exact W.iret (v := (-1)) hx hb hr (fun t ht hW => ⟨⟨(-1), S_8, rfl, hw, by rw [ht]; exact hP, va_K.moved hW.alike hK, hD⟩, hS.F ht⟩) hS.2.2 dX11_clocks_12
def wC_X0_highest_5 (post : Int32 → CS → Prop) : Nat → Int32 → Int32 → Int32 → Int32 → CS → Prop
  | 0, _, _, _, _, _ => False
  | n + 1, x1, x2, x3, x4, S => ((x2 ≤ x4 → post x3 S) ∧ (¬ (x2 ≤ x4) → ((x3 = (-1) → wC_X0_highest_5 post n x1 x2 x4 (x4 + 1) S) ∧ (¬ (x3 = (-1)) → wC_X0_see x1 x4 S (fun r_3 S_4 => wC_X0_see x1 x3 S_4 (fun r_5 S_6 => ((r_3 ≤ r_5 → wC_X0_highest_5 post n x1 x2 x3 (x4 + 1) S_6) ∧ (¬ (r_3 ≤ r_5) → wC_X0_highest_5 post n x1 x2 x4 (x4 + 1) S_6))))))))
def wC_X0_highest (p1 : Int32) (p2 : Int32) (S : CS) (post : Int32 → CS → Prop) : Prop := ∃ k_ : Nat, wC_X0_highest_5 post k_ p1 p2 (-1) 0 S
set_option maxHeartbeats 4000000 in
set_option maxRecDepth 100000 in
theorem cC_X0_highest (l : Launch) (D : va_G) (h : Nat → Nat) (cy : Nat → ClassId) (p1 : Int32) (p2 : Int32) (S : CS) (post : Int32 → CS → Prop) (hw : wC_X0_highest p1 p2 S post) : e_Mi nxE l yX0_highest wsX0_highest { frames := 2, cells := 0, slots := 0, locals := 43 } D (tyC cy) (wC h cy) [.ref (h 1), .int p1, .int p2] S post := by
  intro sz
  refine Met.ofW (cc := cX0_highest) (maxL := 5) (ret := (some .int)) (by decide) rfl ?_
  intro p e s m args below meth c s₁ B hml hv
  obtain ⟨rfl, hsz, hP, hK, hD0, hs⟩ := hv
  have hx := B.exec
  have hb := B.bytes
  have hr := B.returns
  have hts := atoms_spec (ws := wsX0_highest) B.pre
  have hown : s.vm.findClass RX0 = some m.cls := findClass_of_methodNamed B.named
  have hlocks := B.notSynchronized
  subst hsz
  have hD := hD0.self (sz := s.heap.size)
  generalize hAe : va_A (wC h cy S) s.heap.size = A at hD ⊢
  have hA : ∀ q : Nat, s.heap.size ≤ q → A q := fun q h => by rw [← hAe]; exact Or.inr h
  have hS : va_S A s.heap s.heap [] := va_S.rf
  have hl := lv_entry ([.ref (h 1), .int p1, .int p2]) (n := 5) (Nat.le_of_ble_eq_true rfl)
  rw [lg_entry_eq]
  generalize (lg_sl ([.ref (h 1), .int p1, .int p2]) ++ List.replicate (5 - (lg_sl ([.ref (h 1), .int p1, .int p2])).length) Slot.unset).toArray = ls at hl ⊢
  have hl : lv_has ls 5 [(0, .ref (h 1)), (1, .int p1), (2, .int p2)] := hl
  unfold wC_X0_highest at hw
  clear hD0
  have L_5 : ∀ (n5 : Nat) (x1 : Int32) (x2 : Int32) (x3 : Int32) (x4 : Int32) (S : CS) (H : Heap) (locs : List Loc) (ls : Array Slot), wC_X0_highest_5 post n5 x1 x2 x3 x4 S → va_P D vwCl (wC h cy S) H → va_D A (wC h cy S) → va_S A s.heap H locs → lv_has ls 5 [(0, .ref (h 1)), (1, .int x1), (2, .int x2), (3, .int x3), (4, .int x4)] → W p l e (headSpec wsX0_highest { frames := 2, cells := 0, slots := 0, locals := 43 }).room s m (([.ref (h 1), .int p1, .int p2] : List Value).toArray) below meth c H locs 0 0 (MQ below (va_Qi post (k_Post D (tyC cy) (wC h cy) A) A) (([.ref (h 1), .int p1, .int p2] : List Value).toArray) s 0 0 A) (F0 m 5 ls []) := by
    intro n5
    induction n5 with
    | zero => intro x1 x2 x3 x4 S H locs ls hw; exact False.elim hw
    | succ n5 ih_5 =>
      intro x1 x2 x3 x4 S H locs ls hw hP hD hS hl
      unfold wC_X0_highest_5 at hw
      refine lv_iload hx hb dX0_highest_5 (lv_at hl 4 rfl) ?_
      refine lv_iload_n hx hb dX0_highest_7 rfl (lv_at hl 2 rfl) ?_
      obtain ⟨hc_1t, hc_1f⟩ := hw
      refine lv_icmp_ge (tgt := 41) hx hb dX0_highest_8 (by decide) (fun c_1 => ?_) (fun c_1 => ?_)
      · have hw := hc_1t c_1
        clear hc_1t hc_1f
        refine lv_iload_n hx hb dX0_highest_41 rfl (lv_at hl 3 rfl) ?_
        exact W.iret (v := x3) hx hb hr (fun t ht hW => ⟨⟨x3, S, rfl, hw, by rw [ht]; exact hP, va_K.moved hW.alike hK, hD⟩, hS.F ht⟩) hS.2.2 dX0_highest_42
      · have hw := hc_1f c_1
        clear hc_1t hc_1f
        refine lv_iload_n hx hb dX0_highest_11 rfl (lv_at hl 3 rfl) ?_
        refine lv_iconst (v := (-1)) hx hb dX0_highest_12 (by decide) ?_
        obtain ⟨hc_2t, hc_2f⟩ := hw
        refine lv_icmp_eq (tgt := 32) hx hb dX0_highest_13 (by decide) (fun c_2 => ?_) (fun c_2 => ?_)
        · have hw := hc_2t c_2
          clear hc_2t hc_2f
          refine lv_iload hx hb dX0_highest_32 (lv_at hl 4 rfl) ?_
          refine lv_istore_n (lv' := [(3, .int x4), (0, .ref (h 1)), (1, .int x1), (2, .int x2), (4, .int x4)]) hx hb dX0_highest_34 rfl hl (by decide) rfl (fun ls hl => ?_)
          refine lv_iinc (v := x4 + 1) (lv' := [(4, .int (x4 + 1)), (3, .int x4), (0, .ref (h 1)), (1, .int x1), (2, .int x2)]) hx hb dX0_highest_35 hl (k := 4) rfl (k_inc (by decide)) (by decide) rfl (fun ls hl => ?_)
          refine lv_goto (tgt := 5) hx hb dX0_highest_38 (by decide) ?_
          exact ih_5 x1 x2 x4 (x4 + 1) S _ _ _ hw hP hD hS (lv_sub hl [2, 3, 4, 1, 0] rfl)
        · have hw := hc_2f c_2
          clear hc_2t hc_2f
          refine lv_aload_n hx hb dX0_highest_16 rfl (lv_at hl 0 rfl) ?_
          refine lv_iload_n hx hb dX0_highest_17 rfl (lv_at hl 1 rfl) ?_
          refine lv_iload hx hb dX0_highest_18 (lv_at hl 4 rfl) ?_
          refine e_callVi (As := [.int x1, .int x4]) (rest := []) nxE_stable hs ⟨hx, hb, hml, hown, hts⟩ (cC_X0_see l D h cy _ _ _ _ hw) (cwV 2 hts gX0_highest_X0_see rfl rfl rfl (by decide +kernel) ⟨Nat.le_of_ble_eq_true rfl, Nat.le_of_ble_eq_true rfl⟩) (va_recv hK hP (ci := 0) (q0 := 1) rfl rfl) hK hP hD hS hA rfl hl.1 rfl (Nat.le_of_ble_eq_true rfl) dX0_highest_20 ⟨Nat.zero_le _, Nat.zero_le _⟩ (fun r_3 S_4 H locs hw hP hD hS => ?_)
          refine lv_aload_n hx hb dX0_highest_23 rfl (lv_at hl 0 rfl) ?_
          refine lv_iload_n hx hb dX0_highest_24 rfl (lv_at hl 1 rfl) ?_
          refine lv_iload_n hx hb dX0_highest_25 rfl (lv_at hl 3 rfl) ?_
          refine e_callVi (As := [.int x1, .int x3]) (rest := [.int r_3]) nxE_stable hs ⟨hx, hb, hml, hown, hts⟩ (cC_X0_see l D h cy _ _ _ _ hw) (cwV 2 hts gX0_highest_X0_see rfl rfl rfl (by decide +kernel) ⟨Nat.le_of_ble_eq_true rfl, Nat.le_of_ble_eq_true rfl⟩) (va_recv hK hP (ci := 0) (q0 := 1) rfl rfl) hK hP hD hS hA rfl hl.1 rfl (Nat.le_of_ble_eq_true rfl) dX0_highest_26 ⟨Nat.zero_le _, Nat.zero_le _⟩ (fun r_5 S_6 H locs hw hP hD hS => ?_)
          obtain ⟨hc_7t, hc_7f⟩ := hw
          refine lv_icmp_le (tgt := 35) hx hb dX0_highest_29 (by decide) (fun c_7 => ?_) (fun c_7 => ?_)
          · have hw := hc_7t c_7
            clear hc_7t hc_7f
            refine lv_iinc (v := x4 + 1) (lv' := [(4, .int (x4 + 1)), (0, .ref (h 1)), (1, .int x1), (2, .int x2), (3, .int x3)]) hx hb dX0_highest_35 hl (k := 4) rfl (k_inc (by decide)) (by decide) rfl (fun ls hl => ?_)
            refine lv_goto (tgt := 5) hx hb dX0_highest_38 (by decide) ?_
            exact ih_5 x1 x2 x3 (x4 + 1) S_6 _ _ _ hw hP hD hS (lv_sub hl [1, 2, 3, 4, 0] rfl)
          · have hw := hc_7f c_7
            clear hc_7t hc_7f
            refine lv_iload hx hb dX0_highest_32 (lv_at hl 4 rfl) ?_
            refine lv_istore_n (lv' := [(3, .int x4), (0, .ref (h 1)), (1, .int x1), (2, .int x2), (4, .int x4)]) hx hb dX0_highest_34 rfl hl (by decide) rfl (fun ls hl => ?_)
            refine lv_iinc (v := x4 + 1) (lv' := [(4, .int (x4 + 1)), (3, .int x4), (0, .ref (h 1)), (1, .int x1), (2, .int x2)]) hx hb dX0_highest_35 hl (k := 4) rfl (k_inc (by decide)) (by decide) rfl (fun ls hl => ?_)
            refine lv_goto (tgt := 5) hx hb dX0_highest_38 (by decide) ?_
            exact ih_5 x1 x2 x4 (x4 + 1) S_6 _ _ _ hw hP hD hS (lv_sub hl [2, 3, 4, 1, 0] rfl)
  refine lv_iconst (v := (-1)) hx hb dX0_highest_0 (by decide) ?_
  refine lv_istore_n (lv' := [(3, .int (-1)), (0, .ref (h 1)), (1, .int p1), (2, .int p2)]) hx hb dX0_highest_1 rfl hl (by decide) rfl (fun ls hl => ?_)
  refine lv_iconst (v := 0) hx hb dX0_highest_2 (by decide) ?_
  refine lv_istore (lv' := [(4, .int 0), (3, .int (-1)), (0, .ref (h 1)), (1, .int p1), (2, .int p2)]) hx hb dX0_highest_3 hl (by decide) rfl (fun ls hl => ?_)
  obtain ⟨n_5, hw⟩ := hw
  exact L_5 n_5 p1 p2 (-1) 0 S _ _ _ hw hP hD hS (lv_sub hl [2, 3, 4, 1, 0] rfl)
def wC_X11_saddest (S : CS) (post : Int32 → CS → Prop) : Prop := wC_X0_houseCount S (fun r_1 S_2 => wC_X0_highest 0 r_1 S_2 (fun r_3 S_4 => post r_3 S_4))
set_option maxHeartbeats 4000000 in
set_option maxRecDepth 100000 in
theorem cC_X11_saddest (l : Launch) (D : va_G) (h : Nat → Nat) (cy : Nat → ClassId) (S : CS) (post : Int32 → CS → Prop) (hw : wC_X11_saddest S post) : e_Mi nxE l yX11_saddest wsX11_saddest { frames := 3, cells := 0, slots := 0, locals := 67 } D (tyC cy) (wC h cy) [.ref (h 0)] S post := by
  intro sz
  refine Met.ofW (cc := cX11_saddest) (maxL := 1) (ret := (some .int)) (by decide) rfl ?_
  intro p e s m args below meth c s₁ B hml hv
  obtain ⟨rfl, hsz, hP, hK, hD0, hs⟩ := hv
  have hx := B.exec
  have hb := B.bytes
  have hr := B.returns
  have hts := atoms_spec (ws := wsX11_saddest) B.pre
  have hown : s.vm.findClass RX11 = some m.cls := findClass_of_methodNamed B.named
  have hlocks := B.notSynchronized
  subst hsz
  have hD := hD0.self (sz := s.heap.size)
  generalize hAe : va_A (wC h cy S) s.heap.size = A at hD ⊢
  have hA : ∀ q : Nat, s.heap.size ≤ q → A q := fun q h => by rw [← hAe]; exact Or.inr h
  have hS : va_S A s.heap s.heap [] := va_S.rf
  have hin11 : ∀ w ∈ wsX110, w ∈ wsX11_saddest := fun _ h => List.mem_cons_of_mem _ (List.mem_append_left _ (List.mem_append_right _ h))
  have hin0 : ∀ w ∈ wsX00, w ∈ wsX11_saddest := fun _ h => List.mem_cons_of_mem _ (List.mem_append_right _ h)
  have w10 := hts (.fieldLink RX11 10 "ClownsMourn" "city" "LClownsMourn$City;") (List.mem_of_getElem? (i := 1) rfl)
  have hl := lv_entry ([.ref (h 0)]) (n := 1) (Nat.le_of_ble_eq_true rfl)
  rw [lg_entry_eq]
  generalize (lg_sl ([.ref (h 0)]) ++ List.replicate (1 - (lg_sl ([.ref (h 0)])).length) Slot.unset).toArray = ls at hl ⊢
  have hl : lv_has ls 1 [(0, .ref (h 0))] := hl
  unfold wC_X11_saddest at hw
  clear hD0
  refine lv_aload_n hx hb dX11_saddest_0 rfl (lv_at hl 0 rfl) ?_
  refine va_get (D := D) (ci := 10) (v := .ref (h 1)) (C := RX11) (T := TX11) (N := 9) hx hb hts hin11 hown hK hP 0 rfl rfl 0 (by decide) w10 (fun _ h9 => h9) rfl dX11_saddest_1 ?_
  refine lv_iconst (v := 0) hx hb dX11_saddest_4 (by decide) ?_
  refine lv_aload_n hx hb dX11_saddest_5 rfl (lv_at hl 0 rfl) ?_
  refine va_get (D := D) (ci := 10) (v := .ref (h 1)) (C := RX11) (T := TX11) (N := 9) hx hb hts hin11 hown hK hP 0 rfl rfl 0 (by decide) w10 (fun _ h9 => h9) rfl dX11_saddest_6 ?_
  refine e_callVi (As := []) (rest := [.int 0, .ref (h 1)]) nxE_stable hs ⟨hx, hb, hml, hown, hts⟩ (cC_X0_houseCount l D h cy _ _ hw) (cwV 0 hts gX11_saddest_X0_houseCount rfl rfl rfl (by decide +kernel) ⟨Nat.le_of_ble_eq_true rfl, Nat.le_of_ble_eq_true rfl⟩) (va_recv hK hP (ci := 0) (q0 := 1) rfl rfl) hK hP hD hS hA rfl hl.1 rfl (Nat.le_of_ble_eq_true rfl) dX11_saddest_9 ⟨Nat.zero_le _, Nat.zero_le _⟩ (fun r_1 S_2 H locs hw hP hD hS => ?_)
  refine e_callVi (As := [.int 0, .int r_1]) (rest := []) nxE_stable hs ⟨hx, hb, hml, hown, hts⟩ (cC_X0_highest l D h cy _ _ _ _ hw) (cwV 2 hts gX11_saddest_X0_highest rfl rfl rfl (by decide +kernel) ⟨Nat.le_of_ble_eq_true rfl, Nat.le_of_ble_eq_true rfl⟩) (va_recv hK hP (ci := 0) (q0 := 1) rfl rfl) hK hP hD hS hA rfl hl.1 rfl (Nat.le_of_ble_eq_true rfl) dX11_saddest_12 ⟨Nat.zero_le _, Nat.zero_le _⟩ (fun r_3 S_4 H locs hw hP hD hS => ?_)
  exact W.iret (v := r_3) hx hb hr (fun t ht hW => ⟨⟨r_3, S_4, rfl, hw, by rw [ht]; exact hP, va_K.moved hW.alike hK, hD⟩, hS.F ht⟩) hS.2.2 dX11_saddest_15
def wC_X11_tiredest (S : CS) (post : Int32 → CS → Prop) : Prop := wC_X0_clownCount S (fun r_1 S_2 => wC_X0_highest 24 r_1 S_2 (fun r_3 S_4 => post r_3 S_4))
set_option maxHeartbeats 4000000 in
set_option maxRecDepth 100000 in
theorem cC_X11_tiredest (l : Launch) (D : va_G) (h : Nat → Nat) (cy : Nat → ClassId) (S : CS) (post : Int32 → CS → Prop) (hw : wC_X11_tiredest S post) : e_Mi nxE l yX11_tiredest wsX11_tiredest { frames := 3, cells := 0, slots := 0, locals := 67 } D (tyC cy) (wC h cy) [.ref (h 0)] S post := by
  intro sz
  refine Met.ofW (cc := cX11_tiredest) (maxL := 1) (ret := (some .int)) (by decide) rfl ?_
  intro p e s m args below meth c s₁ B hml hv
  obtain ⟨rfl, hsz, hP, hK, hD0, hs⟩ := hv
  have hx := B.exec
  have hb := B.bytes
  have hr := B.returns
  have hts := atoms_spec (ws := wsX11_tiredest) B.pre
  have hown : s.vm.findClass RX11 = some m.cls := findClass_of_methodNamed B.named
  have hlocks := B.notSynchronized
  subst hsz
  have hD := hD0.self (sz := s.heap.size)
  generalize hAe : va_A (wC h cy S) s.heap.size = A at hD ⊢
  have hA : ∀ q : Nat, s.heap.size ≤ q → A q := fun q h => by rw [← hAe]; exact Or.inr h
  have hS : va_S A s.heap s.heap [] := va_S.rf
  have hin11 : ∀ w ∈ wsX110, w ∈ wsX11_tiredest := fun _ h => List.mem_cons_of_mem _ (List.mem_append_left _ (List.mem_append_right _ h))
  have hin0 : ∀ w ∈ wsX00, w ∈ wsX11_tiredest := fun _ h => List.mem_cons_of_mem _ (List.mem_append_right _ h)
  have w10 := hts (.fieldLink RX11 10 "ClownsMourn" "city" "LClownsMourn$City;") (List.mem_of_getElem? (i := 1) rfl)
  have hl := lv_entry ([.ref (h 0)]) (n := 1) (Nat.le_of_ble_eq_true rfl)
  rw [lg_entry_eq]
  generalize (lg_sl ([.ref (h 0)]) ++ List.replicate (1 - (lg_sl ([.ref (h 0)])).length) Slot.unset).toArray = ls at hl ⊢
  have hl : lv_has ls 1 [(0, .ref (h 0))] := hl
  unfold wC_X11_tiredest at hw
  clear hD0
  refine lv_aload_n hx hb dX11_tiredest_0 rfl (lv_at hl 0 rfl) ?_
  refine va_get (D := D) (ci := 10) (v := .ref (h 1)) (C := RX11) (T := TX11) (N := 9) hx hb hts hin11 hown hK hP 0 rfl rfl 0 (by decide) w10 (fun _ h9 => h9) rfl dX11_tiredest_1 ?_
  refine lv_bipush (v := 24) hx hb dX11_tiredest_4 (by decide) ?_
  refine lv_aload_n hx hb dX11_tiredest_6 rfl (lv_at hl 0 rfl) ?_
  refine va_get (D := D) (ci := 10) (v := .ref (h 1)) (C := RX11) (T := TX11) (N := 9) hx hb hts hin11 hown hK hP 0 rfl rfl 0 (by decide) w10 (fun _ h9 => h9) rfl dX11_tiredest_7 ?_
  refine e_callVi (As := []) (rest := [.int 24, .ref (h 1)]) nxE_stable hs ⟨hx, hb, hml, hown, hts⟩ (cC_X0_clownCount l D h cy _ _ hw) (cwV 0 hts gX11_tiredest_X0_clownCount rfl rfl rfl (by decide +kernel) ⟨Nat.le_of_ble_eq_true rfl, Nat.le_of_ble_eq_true rfl⟩) (va_recv hK hP (ci := 0) (q0 := 1) rfl rfl) hK hP hD hS hA rfl hl.1 rfl (Nat.le_of_ble_eq_true rfl) dX11_tiredest_10 ⟨Nat.zero_le _, Nat.zero_le _⟩ (fun r_1 S_2 H locs hw hP hD hS => ?_)
  refine e_callVi (As := [.int 24, .int r_1]) (rest := []) nxE_stable hs ⟨hx, hb, hml, hown, hts⟩ (cC_X0_highest l D h cy _ _ _ _ hw) (cwV 2 hts gX11_tiredest_X0_highest rfl rfl rfl (by decide +kernel) ⟨Nat.le_of_ble_eq_true rfl, Nat.le_of_ble_eq_true rfl⟩) (va_recv hK hP (ci := 0) (q0 := 1) rfl rfl) hK hP hD hS hA rfl hl.1 rfl (Nat.le_of_ble_eq_true rfl) dX11_tiredest_13 ⟨Nat.zero_le _, Nat.zero_le _⟩ (fun r_3 S_4 H locs hw hP hD hS => ?_)
  exact W.iret (v := r_3) hx hb hr (fun t ht hW => ⟨⟨r_3, S_4, rfl, hw, by rw [ht]; exact hP, va_K.moved hW.alike hK, hD⟩, hS.F ht⟩) hS.2.2 dX11_tiredest_16
def wC_X11_sitting_4 (post : Int32 → CS → Prop) : Nat → Int32 → Int32 → CS → Prop
  | 0, _, _, _ => False
  | n + 1, x1, x2, S => wC_X0_clownCount S (fun r_1 S_2 => ((r_1 ≤ x2 → post x1 S_2) ∧ (¬ (r_1 ≤ x2) → wC_X0_isOut x2 S_2 (fun r_4 S_5 => ((r_4 = 0 → wC_X11_sitting_4 post n x1 (x2 + 1) S_5) ∧ (¬ (r_4 = 0) → wC_X0_see 24 x2 S_5 (fun r_7 S_8 => ((r_7 = 9 → wC_X11_sitting_4 post n (x1 ||| (k_shl 1 x2)) (x2 + 1) S_8) ∧ (¬ (r_7 = 9) → wC_X11_sitting_4 post n x1 (x2 + 1) S_8)))))))))
def wC_X11_sitting (S : CS) (post : Int32 → CS → Prop) : Prop := ∃ k_ : Nat, wC_X11_sitting_4 post k_ 0 0 S
set_option maxHeartbeats 4000000 in
set_option maxRecDepth 100000 in
theorem cC_X11_sitting (l : Launch) (D : va_G) (h : Nat → Nat) (cy : Nat → ClassId) (S : CS) (post : Int32 → CS → Prop) (hw : wC_X11_sitting S post) : e_Mi nxE l yX11_sitting wsX11_sitting { frames := 3, cells := 0, slots := 0, locals := 64 } D (tyC cy) (wC h cy) [.ref (h 0)] S post := by
  intro sz
  refine Met.ofW (cc := cX11_sitting) (maxL := 3) (ret := (some .int)) (by decide) rfl ?_
  intro p e s m args below meth c s₁ B hml hv
  obtain ⟨rfl, hsz, hP, hK, hD0, hs⟩ := hv
  have hx := B.exec
  have hb := B.bytes
  have hr := B.returns
  have hts := atoms_spec (ws := wsX11_sitting) B.pre
  have hown : s.vm.findClass RX11 = some m.cls := findClass_of_methodNamed B.named
  have hlocks := B.notSynchronized
  subst hsz
  have hD := hD0.self (sz := s.heap.size)
  generalize hAe : va_A (wC h cy S) s.heap.size = A at hD ⊢
  have hA : ∀ q : Nat, s.heap.size ≤ q → A q := fun q h => by rw [← hAe]; exact Or.inr h
  have hS : va_S A s.heap s.heap [] := va_S.rf
  have hin11 : ∀ w ∈ wsX110, w ∈ wsX11_sitting := fun _ h => List.mem_cons_of_mem _ (List.mem_append_left _ (List.mem_append_right _ h))
  have hin0 : ∀ w ∈ wsX00, w ∈ wsX11_sitting := fun _ h => List.mem_cons_of_mem _ (List.mem_append_right _ h)
  have w10 := hts (.fieldLink RX11 10 "ClownsMourn" "city" "LClownsMourn$City;") (List.mem_of_getElem? (i := 1) rfl)
  have hl := lv_entry ([.ref (h 0)]) (n := 3) (Nat.le_of_ble_eq_true rfl)
  rw [lg_entry_eq]
  generalize (lg_sl ([.ref (h 0)]) ++ List.replicate (3 - (lg_sl ([.ref (h 0)])).length) Slot.unset).toArray = ls at hl ⊢
  have hl : lv_has ls 3 [(0, .ref (h 0))] := hl
  unfold wC_X11_sitting at hw
  clear hD0
  have L_4 : ∀ (n4 : Nat) (x1 : Int32) (x2 : Int32) (S : CS) (H : Heap) (locs : List Loc) (ls : Array Slot), wC_X11_sitting_4 post n4 x1 x2 S → va_P D vwCl (wC h cy S) H → va_D A (wC h cy S) → va_S A s.heap H locs → lv_has ls 3 [(0, .ref (h 0)), (1, .int x1), (2, .int x2)] → W p l e (headSpec wsX11_sitting { frames := 3, cells := 0, slots := 0, locals := 64 }).room s m (([.ref (h 0)] : List Value).toArray) below meth c H locs 0 0 (MQ below (va_Qi post (k_Post D (tyC cy) (wC h cy) A) A) (([.ref (h 0)] : List Value).toArray) s 0 0 A) (F0 m 4 ls []) := by
    intro n4
    induction n4 with
    | zero => intro x1 x2 S H locs ls hw; exact False.elim hw
    | succ n4 ih_4 =>
      intro x1 x2 S H locs ls hw hP hD hS hl
      unfold wC_X11_sitting_4 at hw
      refine lv_iload_n hx hb dX11_sitting_4 rfl (lv_at hl 2 rfl) ?_
      refine lv_aload_n hx hb dX11_sitting_5 rfl (lv_at hl 0 rfl) ?_
      refine va_get (D := D) (ci := 10) (v := .ref (h 1)) (C := RX11) (T := TX11) (N := 9) hx hb hts hin11 hown hK hP 0 rfl rfl 0 (by decide) w10 (fun _ h9 => h9) rfl dX11_sitting_6 ?_
      refine e_callVi (As := []) (rest := [.int x2]) nxE_stable hs ⟨hx, hb, hml, hown, hts⟩ (cC_X0_clownCount l D h cy _ _ hw) (cwV 0 hts gX11_sitting_X0_clownCount rfl rfl rfl (by decide +kernel) ⟨Nat.le_of_ble_eq_true rfl, Nat.le_of_ble_eq_true rfl⟩) (va_recv hK hP (ci := 0) (q0 := 1) rfl rfl) hK hP hD hS hA rfl hl.1 rfl (Nat.le_of_ble_eq_true rfl) dX11_sitting_9 ⟨Nat.zero_le _, Nat.zero_le _⟩ (fun r_1 S_2 H locs hw hP hD hS => ?_)
      obtain ⟨hc_3t, hc_3f⟩ := hw
      refine lv_icmp_ge (tgt := 53) hx hb dX11_sitting_12 (by decide) (fun c_3 => ?_) (fun c_3 => ?_)
      · have hw := hc_3t c_3
        clear hc_3t hc_3f
        refine lv_iload_n hx hb dX11_sitting_53 rfl (lv_at hl 1 rfl) ?_
        exact W.iret (v := x1) hx hb hr (fun t ht hW => ⟨⟨x1, S_2, rfl, hw, by rw [ht]; exact hP, va_K.moved hW.alike hK, hD⟩, hS.F ht⟩) hS.2.2 dX11_sitting_54
      · have hw := hc_3f c_3
        clear hc_3t hc_3f
        refine lv_aload_n hx hb dX11_sitting_15 rfl (lv_at hl 0 rfl) ?_
        refine va_get (D := D) (ci := 10) (v := .ref (h 1)) (C := RX11) (T := TX11) (N := 9) hx hb hts hin11 hown hK hP 0 rfl rfl 0 (by decide) w10 (fun _ h9 => h9) rfl dX11_sitting_16 ?_
        refine lv_iload_n hx hb dX11_sitting_19 rfl (lv_at hl 2 rfl) ?_
        refine e_callVi (As := [.int x2]) (rest := []) nxE_stable hs ⟨hx, hb, hml, hown, hts⟩ (cC_X0_isOut l D h cy _ _ _ hw) (cwV 1 hts gX11_sitting_X0_isOut rfl rfl rfl (by decide +kernel) ⟨Nat.le_of_ble_eq_true rfl, Nat.le_of_ble_eq_true rfl⟩) (va_recv hK hP (ci := 0) (q0 := 1) rfl rfl) hK hP hD hS hA rfl hl.1 rfl (Nat.le_of_ble_eq_true rfl) dX11_sitting_20 ⟨Nat.zero_le _, Nat.zero_le _⟩ (fun r_4 S_5 H locs hw hP hD hS => ?_)
        obtain ⟨hc_6t, hc_6f⟩ := hw
        refine lv_if_eq (tgt := 47) hx hb dX11_sitting_23 (by decide) (fun c_6 => ?_) (fun c_6 => ?_)
        · have hw := hc_6t c_6
          clear hc_6t hc_6f
          refine lv_iinc (v := x2 + 1) (lv' := [(2, .int (x2 + 1)), (0, .ref (h 0)), (1, .int x1)]) hx hb dX11_sitting_47 hl (k := 2) rfl (k_inc (by decide)) (by decide) rfl (fun ls hl => ?_)
          refine lv_goto (tgt := 4) hx hb dX11_sitting_50 (by decide) ?_
          exact ih_4 x1 (x2 + 1) S_5 _ _ _ hw hP hD hS (lv_sub hl [1, 2, 0] rfl)
        · have hw := hc_6f c_6
          clear hc_6t hc_6f
          refine lv_aload_n hx hb dX11_sitting_26 rfl (lv_at hl 0 rfl) ?_
          refine va_get (D := D) (ci := 10) (v := .ref (h 1)) (C := RX11) (T := TX11) (N := 9) hx hb hts hin11 hown hK hP 0 rfl rfl 0 (by decide) w10 (fun _ h9 => h9) rfl dX11_sitting_27 ?_
          refine lv_bipush (v := 24) hx hb dX11_sitting_30 (by decide) ?_
          refine lv_iload_n hx hb dX11_sitting_32 rfl (lv_at hl 2 rfl) ?_
          refine e_callVi (As := [.int 24, .int x2]) (rest := []) nxE_stable hs ⟨hx, hb, hml, hown, hts⟩ (cC_X0_see l D h cy _ _ _ _ hw) (cwV 2 hts gX11_sitting_X0_see rfl rfl rfl (by decide +kernel) ⟨Nat.le_of_ble_eq_true rfl, Nat.le_of_ble_eq_true rfl⟩) (va_recv hK hP (ci := 0) (q0 := 1) rfl rfl) hK hP hD hS hA rfl hl.1 rfl (Nat.le_of_ble_eq_true rfl) dX11_sitting_33 ⟨Nat.zero_le _, Nat.zero_le _⟩ (fun r_7 S_8 H locs hw hP hD hS => ?_)
          refine lv_bipush (v := 9) hx hb dX11_sitting_36 (by decide) ?_
          obtain ⟨hc_9t, hc_9f⟩ := hw
          refine lv_icmp_ne (tgt := 47) hx hb dX11_sitting_38 (by decide) (fun c_9 => ?_) (fun c_9 => ?_)
          · have hw := hc_9f c_9
            clear hc_9t hc_9f
            refine lv_iinc (v := x2 + 1) (lv' := [(2, .int (x2 + 1)), (0, .ref (h 0)), (1, .int x1)]) hx hb dX11_sitting_47 hl (k := 2) rfl (k_inc (by decide)) (by decide) rfl (fun ls hl => ?_)
            refine lv_goto (tgt := 4) hx hb dX11_sitting_50 (by decide) ?_
            exact ih_4 x1 (x2 + 1) S_8 _ _ _ hw hP hD hS (lv_sub hl [1, 2, 0] rfl)
          · have hw := hc_9t c_9
            clear hc_9t hc_9f
            refine lv_iload_n hx hb dX11_sitting_41 rfl (lv_at hl 1 rfl) ?_
            refine lv_iconst (v := 1) hx hb dX11_sitting_42 (by decide) ?_
            refine lv_iload_n hx hb dX11_sitting_43 rfl (lv_at hl 2 rfl) ?_
            refine k_ishl hx hb dX11_sitting_44 ?_
            refine lv_ior hx hb dX11_sitting_45 ?_
            refine lv_istore_n (lv' := [(1, .int (x1 ||| (k_shl 1 x2))), (0, .ref (h 0)), (2, .int x2)]) hx hb dX11_sitting_46 rfl hl (by decide) rfl (fun ls hl => ?_)
            refine lv_iinc (v := x2 + 1) (lv' := [(2, .int (x2 + 1)), (1, .int (x1 ||| (k_shl 1 x2))), (0, .ref (h 0))]) hx hb dX11_sitting_47 hl (k := 2) rfl (k_inc (by decide)) (by decide) rfl (fun ls hl => ?_)
            refine lv_goto (tgt := 4) hx hb dX11_sitting_50 (by decide) ?_
            exact ih_4 (x1 ||| (k_shl 1 x2)) (x2 + 1) S_8 _ _ _ hw hP hD hS (lv_sub hl [2, 1, 0] rfl)
  refine lv_iconst (v := 0) hx hb dX11_sitting_0 (by decide) ?_
  refine lv_istore_n (lv' := [(1, .int 0), (0, .ref (h 0))]) hx hb dX11_sitting_1 rfl hl (by decide) rfl (fun ls hl => ?_)
  refine lv_iconst (v := 0) hx hb dX11_sitting_2 (by decide) ?_
  refine lv_istore_n (lv' := [(2, .int 0), (1, .int 0), (0, .ref (h 0))]) hx hb dX11_sitting_3 rfl hl (by decide) rfl (fun ls hl => ?_)
  obtain ⟨n_4, hw⟩ := hw
  exact L_4 n_4 0 0 S _ _ _ hw hP hD hS (lv_sub hl [2, 1, 0] rfl)
def wC_X11_ledger_23 (post : Int32 → CS → Prop) : Nat → Int32 → Int32 → Int32 → CS → Prop
  | 0, _, _, _, _ => False
  | n + 1, x1, x2, x3, S => wC_X0_see 41 0 S (fun r_1 S_2 => ((r_1 ≤ x3 → post x2 S_2) ∧ (¬ (r_1 ≤ x3) → ((30 ≤ x3 → post x2 S_2) ∧ (¬ (30 ≤ x3) → ((x1 = (-1) → wC_X11_ledger_23 post n x1 (x2 + 1) (x3 + 1) S_2) ∧ (¬ (x1 = (-1)) → wC_X0_see 42 x3 S_2 (fun r_6 S_7 => (((r_6 &&& 7) = x1 → wC_X11_ledger_23 post n x1 (x2 + 1) (x3 + 1) S_7) ∧ (¬ ((r_6 &&& 7) = x1) → wC_X11_ledger_23 post n x1 x2 (x3 + 1) S_7))))))))))
def wC_X11_ledger (p1 : Int32) (S : CS) (post : Int32 → CS → Prop) : Prop := ((p1 = (-1) → ∃ k_ : Nat, wC_X11_ledger_23 post k_ p1 0 0 S) ∧ (¬ (p1 = (-1)) → wC_X0_hasClown p1 S (fun r_2 S_3 => ((r_2 = 0 → post (-2) S_3) ∧ (¬ (r_2 = 0) → ∃ k_ : Nat, wC_X11_ledger_23 post k_ p1 0 0 S_3)))))
set_option maxHeartbeats 4000000 in
set_option maxRecDepth 100000 in
theorem cC_X11_ledger (l : Launch) (D : va_G) (h : Nat → Nat) (cy : Nat → ClassId) (p1 : Int32) (S : CS) (post : Int32 → CS → Prop) (hw : wC_X11_ledger p1 S post) : e_Mi nxE l yX11_ledger wsX11_ledger { frames := 2, cells := 0, slots := 0, locals := 43 } D (tyC cy) (wC h cy) [.ref (h 0), .int p1] S post := by
  intro sz
  refine Met.ofW (cc := cX11_ledger) (maxL := 4) (ret := (some .int)) (by decide) rfl ?_
  intro p e s m args below meth c s₁ B hml hv
  obtain ⟨rfl, hsz, hP, hK, hD0, hs⟩ := hv
  have hx := B.exec
  have hb := B.bytes
  have hr := B.returns
  have hts := atoms_spec (ws := wsX11_ledger) B.pre
  have hown : s.vm.findClass RX11 = some m.cls := findClass_of_methodNamed B.named
  have hlocks := B.notSynchronized
  subst hsz
  have hD := hD0.self (sz := s.heap.size)
  generalize hAe : va_A (wC h cy S) s.heap.size = A at hD ⊢
  have hA : ∀ q : Nat, s.heap.size ≤ q → A q := fun q h => by rw [← hAe]; exact Or.inr h
  have hS : va_S A s.heap s.heap [] := va_S.rf
  have hin11 : ∀ w ∈ wsX110, w ∈ wsX11_ledger := fun _ h => List.mem_cons_of_mem _ (List.mem_append_left _ (List.mem_append_right _ h))
  have hin0 : ∀ w ∈ wsX00, w ∈ wsX11_ledger := fun _ h => List.mem_cons_of_mem _ (List.mem_append_right _ h)
  have w10 := hts (.fieldLink RX11 10 "ClownsMourn" "city" "LClownsMourn$City;") (List.mem_of_getElem? (i := 1) rfl)
  have hl := lv_entry ([.ref (h 0), .int p1]) (n := 4) (Nat.le_of_ble_eq_true rfl)
  rw [lg_entry_eq]
  generalize (lg_sl ([.ref (h 0), .int p1]) ++ List.replicate (4 - (lg_sl ([.ref (h 0), .int p1])).length) Slot.unset).toArray = ls at hl ⊢
  have hl : lv_has ls 4 [(0, .ref (h 0)), (1, .int p1)] := hl
  unfold wC_X11_ledger at hw
  clear hD0
  have L_23 : ∀ (n23 : Nat) (x1 : Int32) (x2 : Int32) (x3 : Int32) (S : CS) (H : Heap) (locs : List Loc) (ls : Array Slot), wC_X11_ledger_23 post n23 x1 x2 x3 S → va_P D vwCl (wC h cy S) H → va_D A (wC h cy S) → va_S A s.heap H locs → lv_has ls 4 [(0, .ref (h 0)), (1, .int x1), (2, .int x2), (3, .int x3)] → W p l e (headSpec wsX11_ledger { frames := 2, cells := 0, slots := 0, locals := 43 }).room s m (([.ref (h 0), .int p1] : List Value).toArray) below meth c H locs 0 0 (MQ below (va_Qi post (k_Post D (tyC cy) (wC h cy) A) A) (([.ref (h 0), .int p1] : List Value).toArray) s 0 0 A) (F0 m 23 ls []) := by
    intro n23
    induction n23 with
    | zero => intro x1 x2 x3 S H locs ls hw; exact False.elim hw
    | succ n23 ih_23 =>
      intro x1 x2 x3 S H locs ls hw hP hD hS hl
      unfold wC_X11_ledger_23 at hw
      refine lv_iload_n hx hb dX11_ledger_23 rfl (lv_at hl 3 rfl) ?_
      refine lv_aload_n hx hb dX11_ledger_24 rfl (lv_at hl 0 rfl) ?_
      refine va_get (D := D) (ci := 10) (v := .ref (h 1)) (C := RX11) (T := TX11) (N := 9) hx hb hts hin11 hown hK hP 0 rfl rfl 0 (by decide) w10 (fun _ h9 => h9) rfl dX11_ledger_25 ?_
      refine lv_bipush (v := 41) hx hb dX11_ledger_28 (by decide) ?_
      refine lv_iconst (v := 0) hx hb dX11_ledger_30 (by decide) ?_
      refine e_callVi (As := [.int 41, .int 0]) (rest := [.int x3]) nxE_stable hs ⟨hx, hb, hml, hown, hts⟩ (cC_X0_see l D h cy _ _ _ _ hw) (cwV 2 hts gX11_ledger_X0_see rfl rfl rfl (by decide +kernel) ⟨Nat.le_of_ble_eq_true rfl, Nat.le_of_ble_eq_true rfl⟩) (va_recv hK hP (ci := 0) (q0 := 1) rfl rfl) hK hP hD hS hA rfl hl.1 rfl (Nat.le_of_ble_eq_true rfl) dX11_ledger_31 ⟨Nat.zero_le _, Nat.zero_le _⟩ (fun r_1 S_2 H locs hw hP hD hS => ?_)
      obtain ⟨hc_3t, hc_3f⟩ := hw
      refine lv_icmp_ge (tgt := 74) hx hb dX11_ledger_34 (by decide) (fun c_3 => ?_) (fun c_3 => ?_)
      · have hw := hc_3t c_3
        clear hc_3t hc_3f
        refine lv_iload_n hx hb dX11_ledger_74 rfl (lv_at hl 2 rfl) ?_
        exact W.iret (v := x2) hx hb hr (fun t ht hW => ⟨⟨x2, S_2, rfl, hw, by rw [ht]; exact hP, va_K.moved hW.alike hK, hD⟩, hS.F ht⟩) hS.2.2 dX11_ledger_75
      · have hw := hc_3f c_3
        clear hc_3t hc_3f
        refine lv_iload_n hx hb dX11_ledger_37 rfl (lv_at hl 3 rfl) ?_
        refine lv_bipush (v := 30) hx hb dX11_ledger_38 (by decide) ?_
        obtain ⟨hc_4t, hc_4f⟩ := hw
        refine lv_icmp_ge (tgt := 74) hx hb dX11_ledger_40 (by decide) (fun c_4 => ?_) (fun c_4 => ?_)
        · have hw := hc_4t c_4
          clear hc_4t hc_4f
          refine lv_iload_n hx hb dX11_ledger_74 rfl (lv_at hl 2 rfl) ?_
          exact W.iret (v := x2) hx hb hr (fun t ht hW => ⟨⟨x2, S_2, rfl, hw, by rw [ht]; exact hP, va_K.moved hW.alike hK, hD⟩, hS.F ht⟩) hS.2.2 dX11_ledger_75
        · have hw := hc_4f c_4
          clear hc_4t hc_4f
          refine lv_iload_n hx hb dX11_ledger_43 rfl (lv_at hl 1 rfl) ?_
          refine lv_iconst (v := (-1)) hx hb dX11_ledger_44 (by decide) ?_
          obtain ⟨hc_5t, hc_5f⟩ := hw
          refine lv_icmp_eq (tgt := 65) hx hb dX11_ledger_45 (by decide) (fun c_5 => ?_) (fun c_5 => ?_)
          · have hw := hc_5t c_5
            clear hc_5t hc_5f
            refine lv_iinc (v := x2 + 1) (lv' := [(2, .int (x2 + 1)), (0, .ref (h 0)), (1, .int x1), (3, .int x3)]) hx hb dX11_ledger_65 hl (k := 2) rfl (k_inc (by decide)) (by decide) rfl (fun ls hl => ?_)
            refine lv_iinc (v := x3 + 1) (lv' := [(3, .int (x3 + 1)), (2, .int (x2 + 1)), (0, .ref (h 0)), (1, .int x1)]) hx hb dX11_ledger_68 hl (k := 3) rfl (k_inc (by decide)) (by decide) rfl (fun ls hl => ?_)
            refine lv_goto (tgt := 23) hx hb dX11_ledger_71 (by decide) ?_
            exact ih_23 x1 (x2 + 1) (x3 + 1) S_2 _ _ _ hw hP hD hS (lv_sub hl [2, 3, 1, 0] rfl)
          · have hw := hc_5f c_5
            clear hc_5t hc_5f
            refine lv_aload_n hx hb dX11_ledger_48 rfl (lv_at hl 0 rfl) ?_
            refine va_get (D := D) (ci := 10) (v := .ref (h 1)) (C := RX11) (T := TX11) (N := 9) hx hb hts hin11 hown hK hP 0 rfl rfl 0 (by decide) w10 (fun _ h9 => h9) rfl dX11_ledger_49 ?_
            refine lv_bipush (v := 42) hx hb dX11_ledger_52 (by decide) ?_
            refine lv_iload_n hx hb dX11_ledger_54 rfl (lv_at hl 3 rfl) ?_
            refine e_callVi (As := [.int 42, .int x3]) (rest := []) nxE_stable hs ⟨hx, hb, hml, hown, hts⟩ (cC_X0_see l D h cy _ _ _ _ hw) (cwV 2 hts gX11_ledger_X0_see rfl rfl rfl (by decide +kernel) ⟨Nat.le_of_ble_eq_true rfl, Nat.le_of_ble_eq_true rfl⟩) (va_recv hK hP (ci := 0) (q0 := 1) rfl rfl) hK hP hD hS hA rfl hl.1 rfl (Nat.le_of_ble_eq_true rfl) dX11_ledger_55 ⟨Nat.zero_le _, Nat.zero_le _⟩ (fun r_6 S_7 H locs hw hP hD hS => ?_)
            refine lv_bipush (v := 7) hx hb dX11_ledger_58 (by decide) ?_
            refine lv_iand hx hb dX11_ledger_60 ?_
            refine lv_iload_n hx hb dX11_ledger_61 rfl (lv_at hl 1 rfl) ?_
            obtain ⟨hc_8t, hc_8f⟩ := hw
            refine lv_icmp_ne (tgt := 68) hx hb dX11_ledger_62 (by decide) (fun c_8 => ?_) (fun c_8 => ?_)
            · have hw := hc_8f c_8
              clear hc_8t hc_8f
              refine lv_iinc (v := x3 + 1) (lv' := [(3, .int (x3 + 1)), (0, .ref (h 0)), (1, .int x1), (2, .int x2)]) hx hb dX11_ledger_68 hl (k := 3) rfl (k_inc (by decide)) (by decide) rfl (fun ls hl => ?_)
              refine lv_goto (tgt := 23) hx hb dX11_ledger_71 (by decide) ?_
              exact ih_23 x1 x2 (x3 + 1) S_7 _ _ _ hw hP hD hS (lv_sub hl [1, 2, 3, 0] rfl)
            · have hw := hc_8t c_8
              clear hc_8t hc_8f
              refine lv_iinc (v := x2 + 1) (lv' := [(2, .int (x2 + 1)), (0, .ref (h 0)), (1, .int x1), (3, .int x3)]) hx hb dX11_ledger_65 hl (k := 2) rfl (k_inc (by decide)) (by decide) rfl (fun ls hl => ?_)
              refine lv_iinc (v := x3 + 1) (lv' := [(3, .int (x3 + 1)), (2, .int (x2 + 1)), (0, .ref (h 0)), (1, .int x1)]) hx hb dX11_ledger_68 hl (k := 3) rfl (k_inc (by decide)) (by decide) rfl (fun ls hl => ?_)
              refine lv_goto (tgt := 23) hx hb dX11_ledger_71 (by decide) ?_
              exact ih_23 x1 (x2 + 1) (x3 + 1) S_7 _ _ _ hw hP hD hS (lv_sub hl [2, 3, 1, 0] rfl)
  refine lv_iload_n hx hb dX11_ledger_0 rfl (lv_at hl 1 rfl) ?_
  refine lv_iconst (v := (-1)) hx hb dX11_ledger_1 (by decide) ?_
  obtain ⟨hc_9t, hc_9f⟩ := hw
  refine lv_icmp_eq (tgt := 19) hx hb dX11_ledger_2 (by decide) (fun c_9 => ?_) (fun c_9 => ?_)
  · have hw := hc_9t c_9
    clear hc_9t hc_9f
    refine lv_iconst (v := 0) hx hb dX11_ledger_19 (by decide) ?_
    refine lv_istore_n (lv' := [(2, .int 0), (0, .ref (h 0)), (1, .int p1)]) hx hb dX11_ledger_20 rfl hl (by decide) rfl (fun ls hl => ?_)
    refine lv_iconst (v := 0) hx hb dX11_ledger_21 (by decide) ?_
    refine lv_istore_n (lv' := [(3, .int 0), (2, .int 0), (0, .ref (h 0)), (1, .int p1)]) hx hb dX11_ledger_22 rfl hl (by decide) rfl (fun ls hl => ?_)
    obtain ⟨n_23, hw⟩ := hw
    exact L_23 n_23 p1 0 0 S _ _ _ hw hP hD hS (lv_sub hl [2, 3, 1, 0] rfl)
  · have hw := hc_9f c_9
    clear hc_9t hc_9f
    refine lv_aload_n hx hb dX11_ledger_5 rfl (lv_at hl 0 rfl) ?_
    refine va_get (D := D) (ci := 10) (v := .ref (h 1)) (C := RX11) (T := TX11) (N := 9) hx hb hts hin11 hown hK hP 0 rfl rfl 0 (by decide) w10 (fun _ h9 => h9) rfl dX11_ledger_6 ?_
    refine lv_iload_n hx hb dX11_ledger_9 rfl (lv_at hl 1 rfl) ?_
    refine e_callVi (As := [.int p1]) (rest := []) nxE_stable hs ⟨hx, hb, hml, hown, hts⟩ (cC_X0_hasClown l D h cy _ _ _ hw) (cwV 1 hts gX11_ledger_X0_hasClown rfl rfl rfl (by decide +kernel) ⟨Nat.le_of_ble_eq_true rfl, Nat.le_of_ble_eq_true rfl⟩) (va_recv hK hP (ci := 0) (q0 := 1) rfl rfl) hK hP hD hS hA rfl hl.1 rfl (Nat.le_of_ble_eq_true rfl) dX11_ledger_10 ⟨Nat.zero_le _, Nat.zero_le _⟩ (fun r_10 S_11 H locs hw hP hD hS => ?_)
    obtain ⟨hc_12t, hc_12f⟩ := hw
    refine lv_if_ne (tgt := 19) hx hb dX11_ledger_13 (by decide) (fun c_12 => ?_) (fun c_12 => ?_)
    · have hw := hc_12f c_12
      clear hc_12t hc_12f
      refine lv_iconst (v := 0) hx hb dX11_ledger_19 (by decide) ?_
      refine lv_istore_n (lv' := [(2, .int 0), (0, .ref (h 0)), (1, .int p1)]) hx hb dX11_ledger_20 rfl hl (by decide) rfl (fun ls hl => ?_)
      refine lv_iconst (v := 0) hx hb dX11_ledger_21 (by decide) ?_
      refine lv_istore_n (lv' := [(3, .int 0), (2, .int 0), (0, .ref (h 0)), (1, .int p1)]) hx hb dX11_ledger_22 rfl hl (by decide) rfl (fun ls hl => ?_)
      obtain ⟨n_23, hw⟩ := hw
      exact L_23 n_23 p1 0 0 S_11 _ _ _ hw hP hD hS (lv_sub hl [2, 3, 1, 0] rfl)
    · have hw := hc_12t c_12
      clear hc_12t hc_12f
      refine lv_bipush (v := (-2)) hx hb dX11_ledger_16 (by decide) ?_
      exact W.iret (v := (-2)) hx hb hr (fun t ht hW => ⟨⟨(-2), S_11, rfl, hw, by rw [ht]; exact hP, va_K.moved hW.alike hK, hD⟩, hS.F ht⟩) hS.2.2 dX11_ledger_18
def wC_X8_becomes_k_csteps (S : CS) (post : CS → Prop) : Prop := (∀ S_1 : CS, S_1 = (cx_set_ks_rows S (k_copyW 2220 2220 (cx_cs_rows S) (cx_ks_rows S))) → (∀ S_2 : CS, S_2 = (cx_set_ks_first S_1 (cx_cs_first S_1)) → (∀ S_3 : CS, S_3 = (cx_set_ks_count S_2 (cx_cs_count S_2)) → post S_3)))
set_option maxHeartbeats 4000000 in
set_option maxRecDepth 100000 in
theorem cC_X8_becomes_k_csteps (l : Launch) (D : va_G) (h : Nat → Nat) (cy : Nat → ClassId) (S : CS) (post : CS → Prop) (hw : wC_X8_becomes_k_csteps S post) : e_Mv nxE l yX8_becomes wsX8_becomes { frames := 3, cells := 0, slots := 0, locals := 105 } D (tyC cy) (wC h cy) [.ref (h 4), .ref (h 2)] S post := by
  intro sz
  refine Met.ofW (cc := cX8_becomes) (maxL := 2) (ret := none) (by decide) rfl ?_
  intro p e s m args below meth c s₁ B hml hv
  obtain ⟨rfl, hsz, hP, hK, hD0, hs⟩ := hv
  have hx := B.exec
  have hb := B.bytes
  have hr := B.returns
  have hts := atoms_spec (ws := wsX8_becomes) B.pre
  have hown : s.vm.findClass RX8 = some m.cls := findClass_of_methodNamed B.named
  have hlocks := B.notSynchronized
  subst hsz
  have hD := hD0.self (sz := s.heap.size)
  generalize hAe : va_A (wC h cy S) s.heap.size = A at hD ⊢
  have hA : ∀ q : Nat, s.heap.size ≤ q → A q := fun q h => by rw [← hAe]; exact Or.inr h
  have hS : va_S A s.heap s.heap [] := va_S.rf
  have hin8 : ∀ w ∈ wsX80, w ∈ wsX8_becomes := fun _ h => List.mem_cons_of_mem _ (List.mem_append_right _ h)
  have w11 := hts (.fieldLink RX8 11 "ClownsMourn$Steps" "rows" "[I") (List.mem_of_getElem? (i := 1) rfl)
  have w15 := hts (.fieldLink RX8 15 "ClownsMourn$Steps" "first" "I") (List.mem_of_getElem? (i := 2) rfl)
  have w19 := hts (.fieldLink RX8 19 "ClownsMourn$Steps" "count" "I") (List.mem_of_getElem? (i := 3) rfl)
  have wiX11 := hts (.initialized RX11) (List.mem_of_getElem? (i := 5) rfl)
  have wstcopyWhole := hts (.static yX11_copyWhole) (List.mem_of_getElem? (i := 4) rfl)
  have hl := lv_entry ([.ref (h 4), .ref (h 2)]) (n := 2) (Nat.le_of_ble_eq_true rfl)
  rw [lg_entry_eq]
  generalize (lg_sl ([.ref (h 4), .ref (h 2)]) ++ List.replicate (2 - (lg_sl ([.ref (h 4), .ref (h 2)])).length) Slot.unset).toArray = ls at hl ⊢
  have hl : lv_has ls 2 [(0, .ref (h 4)), (1, .ref (h 2))] := hl
  unfold wC_X8_becomes_k_csteps at hw
  clear hD0
  refine lv_aload_n hx hb dX8_becomes_0 rfl (lv_at hl 1 rfl) ?_
  refine va_get (D := D) (ci := 8) (v := .ref (h 23)) (C := RX8) (T := TX8) (N := 3) hx hb hts hin8 hown hK hP 2 rfl rfl 0 (by decide) w11 (fun _ h9 => h9) rfl dX8_becomes_1 ?_
  refine lv_aload_n hx hb dX8_becomes_4 rfl (lv_at hl 0 rfl) ?_
  refine va_get (D := D) (ci := 8) (v := .ref (h 35)) (C := RX8) (T := TX8) (N := 3) hx hb hts hin8 hown hK hP 4 rfl rfl 0 (by decide) w11 (fun _ h9 => h9) rfl dX8_becomes_5 ?_
  refine e_callNv (As := [.ref (h 23), .ref (h 35)]) (rest := []) nxE_stable hs ⟨hx, hb, hml, hown, hts⟩ (cA_copyWhole l D nxE nxE_stable (tyC cy) (wC h cy) S 23 11 35 23 _ _ _ _ 2220 2220 cx_cs_rows cx_ks_rows cx_set_ks_rows rfl rfl (wCs_ks_rows h cy S) rfl rfl (by decide) (by decide) (fun S0 => S0 = (cx_set_ks_rows S (k_copyW 2220 2220 (cx_cs_rows S) (cx_ks_rows S)))) rfl) ⟨va_cnB 2 hts gX8_becomes_X11_copyWhole_n22 rfl rfl rfl hs.2.2.2.2.2.2.2.2.2.2.2.2.2.2.2.2.2.2.2.2.2.2.2.2.2.2.2.1 wiX11 (by decide +kernel) ⟨Nat.le_of_ble_eq_true rfl, Nat.le_of_ble_eq_true rfl⟩, wstcopyWhole, trivial⟩ hK hP hD hS hA rfl hl.1 rfl (Nat.le_of_ble_eq_true rfl) dX8_becomes_8 ⟨Nat.zero_le _, Nat.zero_le _⟩ (fun S_1 H locs eS_1 hP hD hS => ?_)
  replace hw := hw S_1 eS_1
  refine lv_aload_n hx hb dX8_becomes_11 rfl (lv_at hl 0 rfl) ?_
  refine lv_aload_n hx hb dX8_becomes_12 rfl (lv_at hl 1 rfl) ?_
  refine va_get (D := D) (ci := 8) (v := .int (cx_cs_first S_1)) (C := RX8) (T := TX8) (N := 3) hx hb hts hin8 hown hK hP 2 rfl rfl 1 (by decide) w15 (fun _ h9 => h9) rfl dX8_becomes_13 ?_
  refine va_put (D := D) (ci := 8) (v := .int (cx_cs_first S_1)) (ty := .int) (C := RX8) (T := TX8) (N := 3) hx hb hts hin8 tyX8 tyX8_ok nmX8 hown hK hP hD hS 4 rfl rfl 1 (by decide) w15 (fun _ h9 => h9) rfl (tyX8_ok 1 (by decide)) rfl rfl (Nat.le_of_ble_eq_true rfl) dX8_becomes_16 (fun H locs hP hD hS => ?_)
  obtain ⟨S_2, eS_2⟩ : ∃ z : CS, z = (cx_set_ks_first S_1 (cx_cs_first S_1)) := ⟨_, rfl⟩
  replace hw := hw S_2 eS_2
  have hP : va_P D vwCl (wC h cy S_2) H := by rw [eS_2, ← wCp_ks_first]; exact hP
  have hD : va_D A (wC h cy S_2) := by rw [eS_2, ← wCp_ks_first]; exact hD
  refine lv_aload_n hx hb dX8_becomes_19 rfl (lv_at hl 0 rfl) ?_
  refine lv_aload_n hx hb dX8_becomes_20 rfl (lv_at hl 1 rfl) ?_
  refine va_get (D := D) (ci := 8) (v := .int (cx_cs_count S_2)) (C := RX8) (T := TX8) (N := 3) hx hb hts hin8 hown hK hP 2 rfl rfl 2 (by decide) w19 (fun _ h9 => h9) rfl dX8_becomes_21 ?_
  refine va_put (D := D) (ci := 8) (v := .int (cx_cs_count S_2)) (ty := .int) (C := RX8) (T := TX8) (N := 3) hx hb hts hin8 tyX8 tyX8_ok nmX8 hown hK hP hD hS 4 rfl rfl 2 (by decide) w19 (fun _ h9 => h9) rfl (tyX8_ok 2 (by decide)) rfl rfl (Nat.le_of_ble_eq_true rfl) dX8_becomes_24 (fun H locs hP hD hS => ?_)
  obtain ⟨S_3, eS_3⟩ : ∃ z : CS, z = (cx_set_ks_count S_2 (cx_cs_count S_2)) := ⟨_, rfl⟩
  replace hw := hw S_3 eS_3
  have hP : va_P D vwCl (wC h cy S_3) H := by rw [eS_3, ← wCp_ks_count]; exact hP
  have hD : va_D A (wC h cy S_3) := by rw [eS_3, ← wCp_ks_count]; exact hD
  exact W.vret hx hb hr (fun t ht hW => ⟨⟨S_3, rfl, hw, by rw [ht]; exact hP, va_K.moved hW.alike hK, hD⟩, hS.F ht⟩) hS.2.2 dX8_becomes_27
def wC_X0_becomes_k_city_104 (post : CS → Prop) (S : CS) : Prop := (∀ S_1 : CS, S_1 = (cx_set_k_textCount S (cx_c_textCount S)) → (∀ S_2 : CS, S_2 = (cx_set_k_ruling S_1 (cx_c_ruling S_1)) → (∀ S_3 : CS, S_3 = (cx_set_k_costs S_2 (k_copyW 30 30 (cx_c_costs S_2) (cx_k_costs S_2))) → (∀ S_4 : CS, S_4 = (cx_set_k_trials S_3 (k_copyW 8 8 (cx_c_trials S_3) (cx_k_trials S_3))) → (∀ S_5 : CS, S_5 = (cx_set_k_trialCount S_4 (cx_c_trialCount S_4)) → (∀ S_6 : CS, S_6 = (cx_set_k_worths S_5 (k_copyW 16 16 (cx_c_worths S_5) (cx_k_worths S_5))) → (∀ S_7 : CS, S_7 = (cx_set_k_aheads S_6 (k_copyW 5 5 (cx_c_aheads S_6) (cx_k_aheads S_6))) → (∀ S_8 : CS, S_8 = (cx_set_k_growns S_7 (k_copyW 8 8 (cx_c_growns S_7) (cx_k_growns S_7))) → (∀ S_9 : CS, S_9 = (cx_set_k_grownCount S_8 (cx_c_grownCount S_8)) → post S_9)))))))))
def wC_X0_becomes_k_city_68 (post : CS → Prop) : Nat → Int32 → CS → Prop
  | 0, _, _ => False
  | n + 1, x2, S => ((4 ≤ x2 → wC_X0_becomes_k_city_104 post S) ∧ (¬ (4 ≤ x2) → ((4 ≤ x2 → wC_X0_becomes_k_city_104 post S) ∧ (¬ (4 ≤ x2) → (vp_in x2 4 ∧ (vp_in x2 4 ∧ (∀ a : Nat, (cx_c_texts S) x2.toNatClampNeg = some a → ∃ B : TB, (a, B) ∈ cx_px S) ∧ ∀ S_3 : CS, S_3 = (cx_set_k_texts S (va_up (cx_k_texts S) (x2.toNatClampNeg) ((cx_c_texts S) x2.toNatClampNeg))) → wC_X0_becomes_k_city_68 post n (x2 + 1) S_3))))))
def wC_X0_becomes_k_city (S : CS) (post : CS → Prop) : Prop := (∀ S_1 : CS, S_1 = (cx_set_k_now S (k_copyW 74 74 (cx_c_now S) (cx_k_now S))) → wC_X8_becomes_k_csteps S_1 (fun S_3 => (∀ S_4 : CS, S_4 = (cx_set_k_kinds S_3 (k_copyW 6 6 (cx_c_kinds S_3) (cx_k_kinds S_3))) → (∀ S_5 : CS, S_5 = (cx_set_k_skills S_4 (k_copyW 5 5 (cx_c_skills S_4) (cx_k_skills S_4))) → (∀ S_6 : CS, S_6 = (cx_set_k_ages S_5 (k_copyW 5 5 (cx_c_ages S_5) (cx_k_ages S_5))) → (∀ S_7 : CS, S_7 = (cx_set_k_turns S_6 (k_copyW 50 50 (cx_c_turns S_6) (cx_k_turns S_6))) → ∃ k_ : Nat, wC_X0_becomes_k_city_68 post k_ 0 S_7))))))
set_option maxHeartbeats 4000000 in
set_option maxRecDepth 100000 in
theorem cC_X0_becomes_k_city (l : Launch) (D : va_G) (h : Nat → Nat) (cy : Nat → ClassId) (S : CS) (post : CS → Prop) (hw : wC_X0_becomes_k_city S post) : e_Mv nxE l yX0_becomes wsX0_becomes { frames := 4, cells := 0, slots := 0, locals := 126 } D (tyC cy) (wC h cy) [.ref (h 3), .ref (h 1)] S post := by
  intro sz
  refine Met.ofW (cc := cX0_becomes) (maxL := 3) (ret := none) (by decide) rfl ?_
  intro p e s m args below meth c s₁ B hml hv
  obtain ⟨rfl, hsz, hP, hK, hD0, hs⟩ := hv
  have hx := B.exec
  have hb := B.bytes
  have hr := B.returns
  have hts := atoms_spec (ws := wsX0_becomes) B.pre
  have hown : s.vm.findClass RX0 = some m.cls := findClass_of_methodNamed B.named
  have hlocks := B.notSynchronized
  subst hsz
  have hD := hD0.self (sz := s.heap.size)
  generalize hAe : va_A (wC h cy S) s.heap.size = A at hD ⊢
  have hA : ∀ q : Nat, s.heap.size ≤ q → A q := fun q h => by rw [← hAe]; exact Or.inr h
  have hS : va_S A s.heap s.heap [] := va_S.rf
  have hin0 : ∀ w ∈ wsX00, w ∈ wsX0_becomes := fun _ h => List.mem_cons_of_mem _ (List.mem_append_left _ (List.mem_append_right _ h))
  have hin8 : ∀ w ∈ wsX80, w ∈ wsX0_becomes := fun _ h => List.mem_cons_of_mem _ (List.mem_append_right _ h)
  have w11 := hts (.fieldLink RX0 11 "ClownsMourn$City" "now" "[I") (List.mem_of_getElem? (i := 1) rfl)
  have w18 := hts (.fieldLink RX0 18 "ClownsMourn$City" "steps" "LClownsMourn$Steps;") (List.mem_of_getElem? (i := 2) rfl)
  have w22 := hts (.fieldLink RX0 22 "ClownsMourn$City" "kinds" "[I") (List.mem_of_getElem? (i := 3) rfl)
  have w25 := hts (.fieldLink RX0 25 "ClownsMourn$City" "skills" "[I") (List.mem_of_getElem? (i := 4) rfl)
  have w28 := hts (.fieldLink RX0 28 "ClownsMourn$City" "ages" "[I") (List.mem_of_getElem? (i := 5) rfl)
  have w31 := hts (.fieldLink RX0 31 "ClownsMourn$City" "turns" "[I") (List.mem_of_getElem? (i := 6) rfl)
  have w36 := hts (.fieldLink RX0 36 "ClownsMourn$City" "texts" "[LClownsMourn$Text;") (List.mem_of_getElem? (i := 7) rfl)
  have w40 := hts (.fieldLink RX0 40 "ClownsMourn$City" "textCount" "I") (List.mem_of_getElem? (i := 8) rfl)
  have w44 := hts (.fieldLink RX0 44 "ClownsMourn$City" "ruling" "I") (List.mem_of_getElem? (i := 9) rfl)
  have w47 := hts (.fieldLink RX0 47 "ClownsMourn$City" "costs" "[I") (List.mem_of_getElem? (i := 10) rfl)
  have w50 := hts (.fieldLink RX0 50 "ClownsMourn$City" "trials" "[I") (List.mem_of_getElem? (i := 11) rfl)
  have w53 := hts (.fieldLink RX0 53 "ClownsMourn$City" "trialCount" "I") (List.mem_of_getElem? (i := 12) rfl)
  have w56 := hts (.fieldLink RX0 56 "ClownsMourn$City" "worths" "[I") (List.mem_of_getElem? (i := 13) rfl)
  have w59 := hts (.fieldLink RX0 59 "ClownsMourn$City" "aheads" "[I") (List.mem_of_getElem? (i := 14) rfl)
  have w62 := hts (.fieldLink RX0 62 "ClownsMourn$City" "growns" "[I") (List.mem_of_getElem? (i := 15) rfl)
  have w65 := hts (.fieldLink RX0 65 "ClownsMourn$City" "grownCount" "I") (List.mem_of_getElem? (i := 16) rfl)
  have wiX11 := hts (.initialized RX11) (List.mem_of_getElem? (i := 18) rfl)
  have wstcopyWhole := hts (.static yX11_copyWhole) (List.mem_of_getElem? (i := 17) rfl)
  have hl := lv_entry ([.ref (h 3), .ref (h 1)]) (n := 3) (Nat.le_of_ble_eq_true rfl)
  rw [lg_entry_eq]
  generalize (lg_sl ([.ref (h 3), .ref (h 1)]) ++ List.replicate (3 - (lg_sl ([.ref (h 3), .ref (h 1)])).length) Slot.unset).toArray = ls at hl ⊢
  have hl : lv_has ls 3 [(0, .ref (h 3)), (1, .ref (h 1))] := hl
  unfold wC_X0_becomes_k_city at hw
  clear hD0
  have J_104 : ∀ (S : CS) (H : Heap) (locs : List Loc) (ls : Array Slot), wC_X0_becomes_k_city_104 post S → va_P D vwCl (wC h cy S) H → va_D A (wC h cy S) → va_S A s.heap H locs → lv_has ls 3 [(0, .ref (h 3)), (1, .ref (h 1))] → W p l e (headSpec wsX0_becomes { frames := 4, cells := 0, slots := 0, locals := 126 }).room s m (([.ref (h 3), .ref (h 1)] : List Value).toArray) below meth c H locs 0 0 (MQ below (va_Qv post (k_Post D (tyC cy) (wC h cy) A) A) (([.ref (h 3), .ref (h 1)] : List Value).toArray) s 0 0 A) (F0 m 104 ls []) := by
    intro S H locs ls hw hP hD hS hl
    unfold wC_X0_becomes_k_city_104 at hw
    refine lv_aload_n hx hb dX0_becomes_104 rfl (lv_at hl 0 rfl) ?_
    refine lv_aload_n hx hb dX0_becomes_105 rfl (lv_at hl 1 rfl) ?_
    refine va_get (D := D) (ci := 0) (v := .int (cx_c_textCount S)) (C := RX0) (T := TX0) (N := 16) hx hb hts hin0 hown hK hP 1 rfl rfl 7 (by decide) w40 (fun _ h9 => h9) rfl dX0_becomes_106 ?_
    refine va_put (D := D) (ci := 0) (v := .int (cx_c_textCount S)) (ty := .int) (C := RX0) (T := TX0) (N := 16) hx hb hts hin0 tyX0 tyX0_ok nmX0 hown hK hP hD hS 3 rfl rfl 7 (by decide) w40 (fun _ h9 => h9) rfl (tyX0_ok 7 (by decide)) rfl rfl (Nat.le_of_ble_eq_true rfl) dX0_becomes_109 (fun H locs hP hD hS => ?_)
    obtain ⟨S_1, eS_1⟩ : ∃ z : CS, z = (cx_set_k_textCount S (cx_c_textCount S)) := ⟨_, rfl⟩
    replace hw := hw S_1 eS_1
    have hP : va_P D vwCl (wC h cy S_1) H := by rw [eS_1, ← wCp_k_textCount]; exact hP
    have hD : va_D A (wC h cy S_1) := by rw [eS_1, ← wCp_k_textCount]; exact hD
    refine lv_aload_n hx hb dX0_becomes_112 rfl (lv_at hl 0 rfl) ?_
    refine lv_aload_n hx hb dX0_becomes_113 rfl (lv_at hl 1 rfl) ?_
    refine va_get (D := D) (ci := 0) (v := .int (cx_c_ruling S_1)) (C := RX0) (T := TX0) (N := 16) hx hb hts hin0 hown hK hP 1 rfl rfl 8 (by decide) w44 (fun _ h9 => h9) rfl dX0_becomes_114 ?_
    refine va_put (D := D) (ci := 0) (v := .int (cx_c_ruling S_1)) (ty := .int) (C := RX0) (T := TX0) (N := 16) hx hb hts hin0 tyX0 tyX0_ok nmX0 hown hK hP hD hS 3 rfl rfl 8 (by decide) w44 (fun _ h9 => h9) rfl (tyX0_ok 8 (by decide)) rfl rfl (Nat.le_of_ble_eq_true rfl) dX0_becomes_117 (fun H locs hP hD hS => ?_)
    obtain ⟨S_2, eS_2⟩ : ∃ z : CS, z = (cx_set_k_ruling S_1 (cx_c_ruling S_1)) := ⟨_, rfl⟩
    replace hw := hw S_2 eS_2
    have hP : va_P D vwCl (wC h cy S_2) H := by rw [eS_2, ← wCp_k_ruling]; exact hP
    have hD : va_D A (wC h cy S_2) := by rw [eS_2, ← wCp_k_ruling]; exact hD
    refine lv_aload_n hx hb dX0_becomes_120 rfl (lv_at hl 1 rfl) ?_
    refine va_get (D := D) (ci := 0) (v := .ref (h 18)) (C := RX0) (T := TX0) (N := 16) hx hb hts hin0 hown hK hP 1 rfl rfl 9 (by decide) w47 (fun _ h9 => h9) rfl dX0_becomes_121 ?_
    refine lv_aload_n hx hb dX0_becomes_124 rfl (lv_at hl 0 rfl) ?_
    refine va_get (D := D) (ci := 0) (v := .ref (h 30)) (C := RX0) (T := TX0) (N := 16) hx hb hts hin0 hown hK hP 3 rfl rfl 9 (by decide) w47 (fun _ h9 => h9) rfl dX0_becomes_125 ?_
    refine e_callNv (As := [.ref (h 18), .ref (h 30)]) (rest := []) nxE_stable hs ⟨hx, hb, hml, hown, hts⟩ (cA_copyWhole l D nxE nxE_stable (tyC cy) (wC h cy) S_2 18 6 30 18 _ _ _ _ 30 30 cx_c_costs cx_k_costs cx_set_k_costs rfl rfl (wCs_k_costs h cy S_2) rfl rfl (by decide) (by decide) (fun S0 => S0 = (cx_set_k_costs S_2 (k_copyW 30 30 (cx_c_costs S_2) (cx_k_costs S_2)))) rfl) ⟨va_cnB 2 hts gX0_becomes_X11_copyWhole_n78 rfl rfl rfl hs.2.2.2.2.2.2.2.2.2.2.2.2.2.2.2.2.2.2.2.2.2.2.2.2.2.2.1 wiX11 (by decide +kernel) ⟨Nat.le_of_ble_eq_true rfl, Nat.le_of_ble_eq_true rfl⟩, wstcopyWhole, trivial⟩ hK hP hD hS hA rfl hl.1 rfl (Nat.le_of_ble_eq_true rfl) dX0_becomes_128 ⟨Nat.zero_le _, Nat.zero_le _⟩ (fun S_3 H locs eS_3 hP hD hS => ?_)
    replace hw := hw S_3 eS_3
    refine lv_aload_n hx hb dX0_becomes_131 rfl (lv_at hl 1 rfl) ?_
    refine va_get (D := D) (ci := 0) (v := .ref (h 19)) (C := RX0) (T := TX0) (N := 16) hx hb hts hin0 hown hK hP 1 rfl rfl 10 (by decide) w50 (fun _ h9 => h9) rfl dX0_becomes_132 ?_
    refine lv_aload_n hx hb dX0_becomes_135 rfl (lv_at hl 0 rfl) ?_
    refine va_get (D := D) (ci := 0) (v := .ref (h 31)) (C := RX0) (T := TX0) (N := 16) hx hb hts hin0 hown hK hP 3 rfl rfl 10 (by decide) w50 (fun _ h9 => h9) rfl dX0_becomes_136 ?_
    refine e_callNv (As := [.ref (h 19), .ref (h 31)]) (rest := []) nxE_stable hs ⟨hx, hb, hml, hown, hts⟩ (cA_copyWhole l D nxE nxE_stable (tyC cy) (wC h cy) S_3 19 7 31 19 _ _ _ _ 8 8 cx_c_trials cx_k_trials cx_set_k_trials rfl rfl (wCs_k_trials h cy S_3) rfl rfl (by decide) (by decide) (fun S0 => S0 = (cx_set_k_trials S_3 (k_copyW 8 8 (cx_c_trials S_3) (cx_k_trials S_3)))) rfl) ⟨va_cnB 2 hts gX0_becomes_X11_copyWhole_n78 rfl rfl rfl hs.2.2.2.2.2.2.2.2.2.2.2.2.2.2.2.2.2.2.2.2.2.2.2.2.2.2.1 wiX11 (by decide +kernel) ⟨Nat.le_of_ble_eq_true rfl, Nat.le_of_ble_eq_true rfl⟩, wstcopyWhole, trivial⟩ hK hP hD hS hA rfl hl.1 rfl (Nat.le_of_ble_eq_true rfl) dX0_becomes_139 ⟨Nat.zero_le _, Nat.zero_le _⟩ (fun S_4 H locs eS_4 hP hD hS => ?_)
    replace hw := hw S_4 eS_4
    refine lv_aload_n hx hb dX0_becomes_142 rfl (lv_at hl 0 rfl) ?_
    refine lv_aload_n hx hb dX0_becomes_143 rfl (lv_at hl 1 rfl) ?_
    refine va_get (D := D) (ci := 0) (v := .int (cx_c_trialCount S_4)) (C := RX0) (T := TX0) (N := 16) hx hb hts hin0 hown hK hP 1 rfl rfl 11 (by decide) w53 (fun _ h9 => h9) rfl dX0_becomes_144 ?_
    refine va_put (D := D) (ci := 0) (v := .int (cx_c_trialCount S_4)) (ty := .int) (C := RX0) (T := TX0) (N := 16) hx hb hts hin0 tyX0 tyX0_ok nmX0 hown hK hP hD hS 3 rfl rfl 11 (by decide) w53 (fun _ h9 => h9) rfl (tyX0_ok 11 (by decide)) rfl rfl (Nat.le_of_ble_eq_true rfl) dX0_becomes_147 (fun H locs hP hD hS => ?_)
    obtain ⟨S_5, eS_5⟩ : ∃ z : CS, z = (cx_set_k_trialCount S_4 (cx_c_trialCount S_4)) := ⟨_, rfl⟩
    replace hw := hw S_5 eS_5
    have hP : va_P D vwCl (wC h cy S_5) H := by rw [eS_5, ← wCp_k_trialCount]; exact hP
    have hD : va_D A (wC h cy S_5) := by rw [eS_5, ← wCp_k_trialCount]; exact hD
    refine lv_aload_n hx hb dX0_becomes_150 rfl (lv_at hl 1 rfl) ?_
    refine va_get (D := D) (ci := 0) (v := .ref (h 20)) (C := RX0) (T := TX0) (N := 16) hx hb hts hin0 hown hK hP 1 rfl rfl 12 (by decide) w56 (fun _ h9 => h9) rfl dX0_becomes_151 ?_
    refine lv_aload_n hx hb dX0_becomes_154 rfl (lv_at hl 0 rfl) ?_
    refine va_get (D := D) (ci := 0) (v := .ref (h 32)) (C := RX0) (T := TX0) (N := 16) hx hb hts hin0 hown hK hP 3 rfl rfl 12 (by decide) w56 (fun _ h9 => h9) rfl dX0_becomes_155 ?_
    refine e_callNv (As := [.ref (h 20), .ref (h 32)]) (rest := []) nxE_stable hs ⟨hx, hb, hml, hown, hts⟩ (cA_copyWhole l D nxE nxE_stable (tyC cy) (wC h cy) S_5 20 8 32 20 _ _ _ _ 16 16 cx_c_worths cx_k_worths cx_set_k_worths rfl rfl (wCs_k_worths h cy S_5) rfl rfl (by decide) (by decide) (fun S0 => S0 = (cx_set_k_worths S_5 (k_copyW 16 16 (cx_c_worths S_5) (cx_k_worths S_5)))) rfl) ⟨va_cnB 2 hts gX0_becomes_X11_copyWhole_n78 rfl rfl rfl hs.2.2.2.2.2.2.2.2.2.2.2.2.2.2.2.2.2.2.2.2.2.2.2.2.2.2.1 wiX11 (by decide +kernel) ⟨Nat.le_of_ble_eq_true rfl, Nat.le_of_ble_eq_true rfl⟩, wstcopyWhole, trivial⟩ hK hP hD hS hA rfl hl.1 rfl (Nat.le_of_ble_eq_true rfl) dX0_becomes_158 ⟨Nat.zero_le _, Nat.zero_le _⟩ (fun S_6 H locs eS_6 hP hD hS => ?_)
    replace hw := hw S_6 eS_6
    refine lv_aload_n hx hb dX0_becomes_161 rfl (lv_at hl 1 rfl) ?_
    refine va_get (D := D) (ci := 0) (v := .ref (h 21)) (C := RX0) (T := TX0) (N := 16) hx hb hts hin0 hown hK hP 1 rfl rfl 13 (by decide) w59 (fun _ h9 => h9) rfl dX0_becomes_162 ?_
    refine lv_aload_n hx hb dX0_becomes_165 rfl (lv_at hl 0 rfl) ?_
    refine va_get (D := D) (ci := 0) (v := .ref (h 33)) (C := RX0) (T := TX0) (N := 16) hx hb hts hin0 hown hK hP 3 rfl rfl 13 (by decide) w59 (fun _ h9 => h9) rfl dX0_becomes_166 ?_
    refine e_callNv (As := [.ref (h 21), .ref (h 33)]) (rest := []) nxE_stable hs ⟨hx, hb, hml, hown, hts⟩ (cA_copyWhole l D nxE nxE_stable (tyC cy) (wC h cy) S_6 21 9 33 21 _ _ _ _ 5 5 cx_c_aheads cx_k_aheads cx_set_k_aheads rfl rfl (wCs_k_aheads h cy S_6) rfl rfl (by decide) (by decide) (fun S0 => S0 = (cx_set_k_aheads S_6 (k_copyW 5 5 (cx_c_aheads S_6) (cx_k_aheads S_6)))) rfl) ⟨va_cnB 2 hts gX0_becomes_X11_copyWhole_n78 rfl rfl rfl hs.2.2.2.2.2.2.2.2.2.2.2.2.2.2.2.2.2.2.2.2.2.2.2.2.2.2.1 wiX11 (by decide +kernel) ⟨Nat.le_of_ble_eq_true rfl, Nat.le_of_ble_eq_true rfl⟩, wstcopyWhole, trivial⟩ hK hP hD hS hA rfl hl.1 rfl (Nat.le_of_ble_eq_true rfl) dX0_becomes_169 ⟨Nat.zero_le _, Nat.zero_le _⟩ (fun S_7 H locs eS_7 hP hD hS => ?_)
    replace hw := hw S_7 eS_7
    refine lv_aload_n hx hb dX0_becomes_172 rfl (lv_at hl 1 rfl) ?_
    refine va_get (D := D) (ci := 0) (v := .ref (h 22)) (C := RX0) (T := TX0) (N := 16) hx hb hts hin0 hown hK hP 1 rfl rfl 14 (by decide) w62 (fun _ h9 => h9) rfl dX0_becomes_173 ?_
    refine lv_aload_n hx hb dX0_becomes_176 rfl (lv_at hl 0 rfl) ?_
    refine va_get (D := D) (ci := 0) (v := .ref (h 34)) (C := RX0) (T := TX0) (N := 16) hx hb hts hin0 hown hK hP 3 rfl rfl 14 (by decide) w62 (fun _ h9 => h9) rfl dX0_becomes_177 ?_
    refine e_callNv (As := [.ref (h 22), .ref (h 34)]) (rest := []) nxE_stable hs ⟨hx, hb, hml, hown, hts⟩ (cA_copyWhole l D nxE nxE_stable (tyC cy) (wC h cy) S_7 22 10 34 22 _ _ _ _ 8 8 cx_c_growns cx_k_growns cx_set_k_growns rfl rfl (wCs_k_growns h cy S_7) rfl rfl (by decide) (by decide) (fun S0 => S0 = (cx_set_k_growns S_7 (k_copyW 8 8 (cx_c_growns S_7) (cx_k_growns S_7)))) rfl) ⟨va_cnB 2 hts gX0_becomes_X11_copyWhole_n78 rfl rfl rfl hs.2.2.2.2.2.2.2.2.2.2.2.2.2.2.2.2.2.2.2.2.2.2.2.2.2.2.1 wiX11 (by decide +kernel) ⟨Nat.le_of_ble_eq_true rfl, Nat.le_of_ble_eq_true rfl⟩, wstcopyWhole, trivial⟩ hK hP hD hS hA rfl hl.1 rfl (Nat.le_of_ble_eq_true rfl) dX0_becomes_180 ⟨Nat.zero_le _, Nat.zero_le _⟩ (fun S_8 H locs eS_8 hP hD hS => ?_)
    replace hw := hw S_8 eS_8
    refine lv_aload_n hx hb dX0_becomes_183 rfl (lv_at hl 0 rfl) ?_
    refine lv_aload_n hx hb dX0_becomes_184 rfl (lv_at hl 1 rfl) ?_
    refine va_get (D := D) (ci := 0) (v := .int (cx_c_grownCount S_8)) (C := RX0) (T := TX0) (N := 16) hx hb hts hin0 hown hK hP 1 rfl rfl 15 (by decide) w65 (fun _ h9 => h9) rfl dX0_becomes_185 ?_
    refine va_put (D := D) (ci := 0) (v := .int (cx_c_grownCount S_8)) (ty := .int) (C := RX0) (T := TX0) (N := 16) hx hb hts hin0 tyX0 tyX0_ok nmX0 hown hK hP hD hS 3 rfl rfl 15 (by decide) w65 (fun _ h9 => h9) rfl (tyX0_ok 15 (by decide)) rfl rfl (Nat.le_of_ble_eq_true rfl) dX0_becomes_188 (fun H locs hP hD hS => ?_)
    obtain ⟨S_9, eS_9⟩ : ∃ z : CS, z = (cx_set_k_grownCount S_8 (cx_c_grownCount S_8)) := ⟨_, rfl⟩
    replace hw := hw S_9 eS_9
    have hP : va_P D vwCl (wC h cy S_9) H := by rw [eS_9, ← wCp_k_grownCount]; exact hP
    have hD : va_D A (wC h cy S_9) := by rw [eS_9, ← wCp_k_grownCount]; exact hD
    exact W.vret hx hb hr (fun t ht hW => ⟨⟨S_9, rfl, hw, by rw [ht]; exact hP, va_K.moved hW.alike hK, hD⟩, hS.F ht⟩) hS.2.2 dX0_becomes_191
  have L_68 : ∀ (n68 : Nat) (x2 : Int32) (S : CS) (H : Heap) (locs : List Loc) (ls : Array Slot), wC_X0_becomes_k_city_68 post n68 x2 S → va_P D vwCl (wC h cy S) H → va_D A (wC h cy S) → va_S A s.heap H locs → lv_has ls 3 [(0, .ref (h 3)), (1, .ref (h 1)), (2, .int x2)] → W p l e (headSpec wsX0_becomes { frames := 4, cells := 0, slots := 0, locals := 126 }).room s m (([.ref (h 3), .ref (h 1)] : List Value).toArray) below meth c H locs 0 0 (MQ below (va_Qv post (k_Post D (tyC cy) (wC h cy) A) A) (([.ref (h 3), .ref (h 1)] : List Value).toArray) s 0 0 A) (F0 m 68 ls []) := by
    intro n68
    induction n68 with
    | zero => intro x2 S H locs ls hw; exact False.elim hw
    | succ n68 ih_68 =>
      intro x2 S H locs ls hw hP hD hS hl
      unfold wC_X0_becomes_k_city_68 at hw
      refine lv_iload_n hx hb dX0_becomes_68 rfl (lv_at hl 2 rfl) ?_
      refine lv_aload_n hx hb dX0_becomes_69 rfl (lv_at hl 0 rfl) ?_
      refine va_get (D := D) (ci := 0) (v := .ref (h 29)) (C := RX0) (T := TX0) (N := 16) hx hb hts hin0 hown hK hP 3 rfl rfl 6 (by decide) w36 (fun _ h9 => h9) rfl dX0_becomes_70 ?_
      refine va_alen (v := 4) hx hb hK hP 29 17 rfl rfl (show Int32.ofNat 4 = 4 by decide) dX0_becomes_73 ?_
      obtain ⟨hc_10t, hc_10f⟩ := hw
      refine lv_icmp_ge (tgt := 104) hx hb dX0_becomes_74 (by decide) (fun c_10 => ?_) (fun c_10 => ?_)
      · have hw := hc_10t c_10
        clear hc_10t hc_10f
        exact J_104 S _ _ _ hw hP hD hS (lv_sub hl [0, 1] rfl)
      · have hw := hc_10f c_10
        clear hc_10t hc_10f
        refine lv_iload_n hx hb dX0_becomes_77 rfl (lv_at hl 2 rfl) ?_
        refine lv_aload_n hx hb dX0_becomes_78 rfl (lv_at hl 1 rfl) ?_
        refine va_get (D := D) (ci := 0) (v := .ref (h 17)) (C := RX0) (T := TX0) (N := 16) hx hb hts hin0 hown hK hP 1 rfl rfl 6 (by decide) w36 (fun _ h9 => h9) rfl dX0_becomes_79 ?_
        refine va_alen (v := 4) hx hb hK hP 17 5 rfl rfl (show Int32.ofNat 4 = 4 by decide) dX0_becomes_82 ?_
        obtain ⟨hc_11t, hc_11f⟩ := hw
        refine lv_icmp_ge (tgt := 104) hx hb dX0_becomes_83 (by decide) (fun c_11 => ?_) (fun c_11 => ?_)
        · have hw := hc_11t c_11
          clear hc_11t hc_11f
          exact J_104 S _ _ _ hw hP hD hS (lv_sub hl [0, 1] rfl)
        · have hw := hc_11f c_11
          clear hc_11t hc_11f
          refine lv_aload_n hx hb dX0_becomes_86 rfl (lv_at hl 0 rfl) ?_
          refine va_get (D := D) (ci := 0) (v := .ref (h 29)) (C := RX0) (T := TX0) (N := 16) hx hb hts hin0 hown hK hP 3 rfl rfl 6 (by decide) w36 (fun _ h9 => h9) rfl dX0_becomes_87 ?_
          refine lv_iload_n hx hb dX0_becomes_90 rfl (lv_at hl 2 rfl) ?_
          refine lv_aload_n hx hb dX0_becomes_91 rfl (lv_at hl 1 rfl) ?_
          refine va_get (D := D) (ci := 0) (v := .ref (h 17)) (C := RX0) (T := TX0) (N := 16) hx hb hts hin0 hown hK hP 1 rfl rfl 6 (by decide) w36 (fun _ h9 => h9) rfl dX0_becomes_92 ?_
          refine lv_iload_n hx hb dX0_becomes_95 rfl (lv_at hl 2 rfl) ?_
          obtain ⟨hi_15, hw⟩ := hw
          refine va_aldq (C := "ClownsMourn$Text") (f := (cx_c_texts S)) hx hb hK hP 17 5 rfl rfl hi_15 dX0_becomes_96 ?_
          obtain ⟨hi_13, ht_14, hw⟩ := hw
          refine k_astq (v := (cx_c_texts S) x2.toNatClampNeg) (f := (cx_k_texts S)) hx hb hK hP hD hS 29 17 rfl rfl (fun a ha => (ht_14 a ha).elim fun B hB => (px_obj hB).elim fun q hq => ⟨q, _, hq⟩) hi_13 dX0_becomes_97 (fun H locs hP hD hS => ?_)
          obtain ⟨S_12, eS_12⟩ : ∃ z : CS, z = (cx_set_k_texts S (va_up (cx_k_texts S) (x2.toNatClampNeg) ((cx_c_texts S) x2.toNatClampNeg))) := ⟨_, rfl⟩
          replace hw := hw S_12 eS_12
          have hP : va_P D vwCl (wC h cy S_12) H := by rw [eS_12, ← wCs_k_texts]; exact hP
          have hD : va_D A (wC h cy S_12) := by rw [eS_12, ← wCs_k_texts]; exact hD
          refine lv_iinc (v := x2 + 1) (lv' := [(2, .int (x2 + 1)), (0, .ref (h 3)), (1, .ref (h 1))]) hx hb dX0_becomes_98 hl (k := 2) rfl (k_inc (by decide)) (by decide) rfl (fun ls hl => ?_)
          refine lv_goto (tgt := 68) hx hb dX0_becomes_101 (by decide) ?_
          exact ih_68 (x2 + 1) S_12 _ _ _ hw hP hD hS (lv_sub hl [1, 2, 0] rfl)
  refine lv_aload_n hx hb dX0_becomes_0 rfl (lv_at hl 1 rfl) ?_
  refine va_get (D := D) (ci := 0) (v := .ref (h 12)) (C := RX0) (T := TX0) (N := 16) hx hb hts hin0 hown hK hP 1 rfl rfl 0 (by decide) w11 (fun _ h9 => h9) rfl dX0_becomes_1 ?_
  refine lv_aload_n hx hb dX0_becomes_4 rfl (lv_at hl 0 rfl) ?_
  refine va_get (D := D) (ci := 0) (v := .ref (h 24)) (C := RX0) (T := TX0) (N := 16) hx hb hts hin0 hown hK hP 3 rfl rfl 0 (by decide) w11 (fun _ h9 => h9) rfl dX0_becomes_5 ?_
  refine e_callNv (As := [.ref (h 12), .ref (h 24)]) (rest := []) nxE_stable hs ⟨hx, hb, hml, hown, hts⟩ (cA_copyWhole l D nxE nxE_stable (tyC cy) (wC h cy) S 12 0 24 12 _ _ _ _ 74 74 cx_c_now cx_k_now cx_set_k_now rfl rfl (wCs_k_now h cy S) rfl rfl (by decide) (by decide) (fun S0 => S0 = (cx_set_k_now S (k_copyW 74 74 (cx_c_now S) (cx_k_now S)))) rfl) ⟨va_cnB 2 hts gX0_becomes_X11_copyWhole_n78 rfl rfl rfl hs.2.2.2.2.2.2.2.2.2.2.2.2.2.2.2.2.2.2.2.2.2.2.2.2.2.2.1 wiX11 (by decide +kernel) ⟨Nat.le_of_ble_eq_true rfl, Nat.le_of_ble_eq_true rfl⟩, wstcopyWhole, trivial⟩ hK hP hD hS hA rfl hl.1 rfl (Nat.le_of_ble_eq_true rfl) dX0_becomes_8 ⟨Nat.zero_le _, Nat.zero_le _⟩ (fun S_16 H locs eS_16 hP hD hS => ?_)
  replace hw := hw S_16 eS_16
  refine lv_aload_n hx hb dX0_becomes_11 rfl (lv_at hl 0 rfl) ?_
  refine va_get (D := D) (ci := 0) (v := .ref (h 4)) (C := RX0) (T := TX0) (N := 16) hx hb hts hin0 hown hK hP 3 rfl rfl 1 (by decide) w18 (fun _ h9 => h9) rfl dX0_becomes_12 ?_
  refine lv_aload_n hx hb dX0_becomes_15 rfl (lv_at hl 1 rfl) ?_
  refine va_get (D := D) (ci := 0) (v := .ref (h 2)) (C := RX0) (T := TX0) (N := 16) hx hb hts hin0 hown hK hP 1 rfl rfl 1 (by decide) w18 (fun _ h9 => h9) rfl dX0_becomes_16 ?_
  refine e_callVv (As := [.ref (h 2)]) (rest := []) nxE_stable hs ⟨hx, hb, hml, hown, hts⟩ (cC_X8_becomes_k_csteps l D h cy _ _ hw) (cwV 1 hts gX0_becomes_X8_becomes rfl rfl rfl (by decide +kernel) ⟨Nat.le_of_ble_eq_true rfl, Nat.le_of_ble_eq_true rfl⟩) (va_recv hK hP (ci := 8) (q0 := 4) rfl rfl) hK hP hD hS hA rfl hl.1 rfl (Nat.le_of_ble_eq_true rfl) dX0_becomes_19 ⟨Nat.zero_le _, Nat.zero_le _⟩ (fun S_18 H locs hw hP hD hS => ?_)
  refine lv_aload_n hx hb dX0_becomes_22 rfl (lv_at hl 1 rfl) ?_
  refine va_get (D := D) (ci := 0) (v := .ref (h 13)) (C := RX0) (T := TX0) (N := 16) hx hb hts hin0 hown hK hP 1 rfl rfl 2 (by decide) w22 (fun _ h9 => h9) rfl dX0_becomes_23 ?_
  refine lv_aload_n hx hb dX0_becomes_26 rfl (lv_at hl 0 rfl) ?_
  refine va_get (D := D) (ci := 0) (v := .ref (h 25)) (C := RX0) (T := TX0) (N := 16) hx hb hts hin0 hown hK hP 3 rfl rfl 2 (by decide) w22 (fun _ h9 => h9) rfl dX0_becomes_27 ?_
  refine e_callNv (As := [.ref (h 13), .ref (h 25)]) (rest := []) nxE_stable hs ⟨hx, hb, hml, hown, hts⟩ (cA_copyWhole l D nxE nxE_stable (tyC cy) (wC h cy) S_18 13 1 25 13 _ _ _ _ 6 6 cx_c_kinds cx_k_kinds cx_set_k_kinds rfl rfl (wCs_k_kinds h cy S_18) rfl rfl (by decide) (by decide) (fun S0 => S0 = (cx_set_k_kinds S_18 (k_copyW 6 6 (cx_c_kinds S_18) (cx_k_kinds S_18)))) rfl) ⟨va_cnB 2 hts gX0_becomes_X11_copyWhole_n78 rfl rfl rfl hs.2.2.2.2.2.2.2.2.2.2.2.2.2.2.2.2.2.2.2.2.2.2.2.2.2.2.1 wiX11 (by decide +kernel) ⟨Nat.le_of_ble_eq_true rfl, Nat.le_of_ble_eq_true rfl⟩, wstcopyWhole, trivial⟩ hK hP hD hS hA rfl hl.1 rfl (Nat.le_of_ble_eq_true rfl) dX0_becomes_30 ⟨Nat.zero_le _, Nat.zero_le _⟩ (fun S_19 H locs eS_19 hP hD hS => ?_)
  replace hw := hw S_19 eS_19
  refine lv_aload_n hx hb dX0_becomes_33 rfl (lv_at hl 1 rfl) ?_
  refine va_get (D := D) (ci := 0) (v := .ref (h 14)) (C := RX0) (T := TX0) (N := 16) hx hb hts hin0 hown hK hP 1 rfl rfl 3 (by decide) w25 (fun _ h9 => h9) rfl dX0_becomes_34 ?_
  refine lv_aload_n hx hb dX0_becomes_37 rfl (lv_at hl 0 rfl) ?_
  refine va_get (D := D) (ci := 0) (v := .ref (h 26)) (C := RX0) (T := TX0) (N := 16) hx hb hts hin0 hown hK hP 3 rfl rfl 3 (by decide) w25 (fun _ h9 => h9) rfl dX0_becomes_38 ?_
  refine e_callNv (As := [.ref (h 14), .ref (h 26)]) (rest := []) nxE_stable hs ⟨hx, hb, hml, hown, hts⟩ (cA_copyWhole l D nxE nxE_stable (tyC cy) (wC h cy) S_19 14 2 26 14 _ _ _ _ 5 5 cx_c_skills cx_k_skills cx_set_k_skills rfl rfl (wCs_k_skills h cy S_19) rfl rfl (by decide) (by decide) (fun S0 => S0 = (cx_set_k_skills S_19 (k_copyW 5 5 (cx_c_skills S_19) (cx_k_skills S_19)))) rfl) ⟨va_cnB 2 hts gX0_becomes_X11_copyWhole_n78 rfl rfl rfl hs.2.2.2.2.2.2.2.2.2.2.2.2.2.2.2.2.2.2.2.2.2.2.2.2.2.2.1 wiX11 (by decide +kernel) ⟨Nat.le_of_ble_eq_true rfl, Nat.le_of_ble_eq_true rfl⟩, wstcopyWhole, trivial⟩ hK hP hD hS hA rfl hl.1 rfl (Nat.le_of_ble_eq_true rfl) dX0_becomes_41 ⟨Nat.zero_le _, Nat.zero_le _⟩ (fun S_20 H locs eS_20 hP hD hS => ?_)
  replace hw := hw S_20 eS_20
  refine lv_aload_n hx hb dX0_becomes_44 rfl (lv_at hl 1 rfl) ?_
  refine va_get (D := D) (ci := 0) (v := .ref (h 15)) (C := RX0) (T := TX0) (N := 16) hx hb hts hin0 hown hK hP 1 rfl rfl 4 (by decide) w28 (fun _ h9 => h9) rfl dX0_becomes_45 ?_
  refine lv_aload_n hx hb dX0_becomes_48 rfl (lv_at hl 0 rfl) ?_
  refine va_get (D := D) (ci := 0) (v := .ref (h 27)) (C := RX0) (T := TX0) (N := 16) hx hb hts hin0 hown hK hP 3 rfl rfl 4 (by decide) w28 (fun _ h9 => h9) rfl dX0_becomes_49 ?_
  refine e_callNv (As := [.ref (h 15), .ref (h 27)]) (rest := []) nxE_stable hs ⟨hx, hb, hml, hown, hts⟩ (cA_copyWhole l D nxE nxE_stable (tyC cy) (wC h cy) S_20 15 3 27 15 _ _ _ _ 5 5 cx_c_ages cx_k_ages cx_set_k_ages rfl rfl (wCs_k_ages h cy S_20) rfl rfl (by decide) (by decide) (fun S0 => S0 = (cx_set_k_ages S_20 (k_copyW 5 5 (cx_c_ages S_20) (cx_k_ages S_20)))) rfl) ⟨va_cnB 2 hts gX0_becomes_X11_copyWhole_n78 rfl rfl rfl hs.2.2.2.2.2.2.2.2.2.2.2.2.2.2.2.2.2.2.2.2.2.2.2.2.2.2.1 wiX11 (by decide +kernel) ⟨Nat.le_of_ble_eq_true rfl, Nat.le_of_ble_eq_true rfl⟩, wstcopyWhole, trivial⟩ hK hP hD hS hA rfl hl.1 rfl (Nat.le_of_ble_eq_true rfl) dX0_becomes_52 ⟨Nat.zero_le _, Nat.zero_le _⟩ (fun S_21 H locs eS_21 hP hD hS => ?_)
  replace hw := hw S_21 eS_21
  refine lv_aload_n hx hb dX0_becomes_55 rfl (lv_at hl 1 rfl) ?_
  refine va_get (D := D) (ci := 0) (v := .ref (h 16)) (C := RX0) (T := TX0) (N := 16) hx hb hts hin0 hown hK hP 1 rfl rfl 5 (by decide) w31 (fun _ h9 => h9) rfl dX0_becomes_56 ?_
  refine lv_aload_n hx hb dX0_becomes_59 rfl (lv_at hl 0 rfl) ?_
  refine va_get (D := D) (ci := 0) (v := .ref (h 28)) (C := RX0) (T := TX0) (N := 16) hx hb hts hin0 hown hK hP 3 rfl rfl 5 (by decide) w31 (fun _ h9 => h9) rfl dX0_becomes_60 ?_
  refine e_callNv (As := [.ref (h 16), .ref (h 28)]) (rest := []) nxE_stable hs ⟨hx, hb, hml, hown, hts⟩ (cA_copyWhole l D nxE nxE_stable (tyC cy) (wC h cy) S_21 16 4 28 16 _ _ _ _ 50 50 cx_c_turns cx_k_turns cx_set_k_turns rfl rfl (wCs_k_turns h cy S_21) rfl rfl (by decide) (by decide) (fun S0 => S0 = (cx_set_k_turns S_21 (k_copyW 50 50 (cx_c_turns S_21) (cx_k_turns S_21)))) rfl) ⟨va_cnB 2 hts gX0_becomes_X11_copyWhole_n78 rfl rfl rfl hs.2.2.2.2.2.2.2.2.2.2.2.2.2.2.2.2.2.2.2.2.2.2.2.2.2.2.1 wiX11 (by decide +kernel) ⟨Nat.le_of_ble_eq_true rfl, Nat.le_of_ble_eq_true rfl⟩, wstcopyWhole, trivial⟩ hK hP hD hS hA rfl hl.1 rfl (Nat.le_of_ble_eq_true rfl) dX0_becomes_63 ⟨Nat.zero_le _, Nat.zero_le _⟩ (fun S_22 H locs eS_22 hP hD hS => ?_)
  replace hw := hw S_22 eS_22
  refine lv_iconst (v := 0) hx hb dX0_becomes_66 (by decide) ?_
  refine lv_istore_n (lv' := [(2, .int 0), (0, .ref (h 3)), (1, .ref (h 1))]) hx hb dX0_becomes_67 rfl hl (by decide) rfl (fun ls hl => ?_)
  obtain ⟨n_68, hw⟩ := hw
  exact L_68 n_68 0 S_22 _ _ _ hw hP hD hS (lv_sub hl [1, 2, 0] rfl)
def wC_X11_image (S : CS) (post : Int32 → CS → Prop) : Prop := wC_X0_becomes_k_city S (fun S_2 => wC_X0_today S_2 (fun r_3 S_4 => post r_3 S_4))
set_option maxHeartbeats 4000000 in
set_option maxRecDepth 100000 in
theorem cC_X11_image (l : Launch) (D : va_G) (h : Nat → Nat) (cy : Nat → ClassId) (S : CS) (post : Int32 → CS → Prop) (hw : wC_X11_image S post) : e_Mi nxE l yX11_image wsX11_image { frames := 5, cells := 0, slots := 0, locals := 148 } D (tyC cy) (wC h cy) [.ref (h 0)] S post := by
  intro sz
  refine Met.ofW (cc := cX11_image) (maxL := 1) (ret := (some .int)) (by decide) rfl ?_
  intro p e s m args below meth c s₁ B hml hv
  obtain ⟨rfl, hsz, hP, hK, hD0, hs⟩ := hv
  have hx := B.exec
  have hb := B.bytes
  have hr := B.returns
  have hts := atoms_spec (ws := wsX11_image) B.pre
  have hown : s.vm.findClass RX11 = some m.cls := findClass_of_methodNamed B.named
  have hlocks := B.notSynchronized
  subst hsz
  have hD := hD0.self (sz := s.heap.size)
  generalize hAe : va_A (wC h cy S) s.heap.size = A at hD ⊢
  have hA : ∀ q : Nat, s.heap.size ≤ q → A q := fun q h => by rw [← hAe]; exact Or.inr h
  have hS : va_S A s.heap s.heap [] := va_S.rf
  have hin11 : ∀ w ∈ wsX110, w ∈ wsX11_image := fun _ h => List.mem_cons_of_mem _ (List.mem_append_left _ (List.mem_append_left _ (List.mem_append_right _ h)))
  have hin0 : ∀ w ∈ wsX00, w ∈ wsX11_image := fun _ h => List.mem_cons_of_mem _ (List.mem_append_left _ (List.mem_append_right _ h))
  have hin8 : ∀ w ∈ wsX80, w ∈ wsX11_image := fun _ h => List.mem_cons_of_mem _ (List.mem_append_right _ h)
  have w10 := hts (.fieldLink RX11 10 "ClownsMourn" "city" "LClownsMourn$City;") (List.mem_of_getElem? (i := 2) rfl)
  have w16 := hts (.fieldLink RX11 16 "ClownsMourn" "kept" "LClownsMourn$City;") (List.mem_of_getElem? (i := 1) rfl)
  have hl := lv_entry ([.ref (h 0)]) (n := 1) (Nat.le_of_ble_eq_true rfl)
  rw [lg_entry_eq]
  generalize (lg_sl ([.ref (h 0)]) ++ List.replicate (1 - (lg_sl ([.ref (h 0)])).length) Slot.unset).toArray = ls at hl ⊢
  have hl : lv_has ls 1 [(0, .ref (h 0))] := hl
  unfold wC_X11_image at hw
  clear hD0
  refine lv_aload_n hx hb dX11_image_0 rfl (lv_at hl 0 rfl) ?_
  refine va_get (D := D) (ci := 10) (v := .ref (h 3)) (C := RX11) (T := TX11) (N := 9) hx hb hts hin11 hown hK hP 0 rfl rfl 1 (by decide) w16 (fun _ h9 => h9) rfl dX11_image_1 ?_
  refine lv_aload_n hx hb dX11_image_4 rfl (lv_at hl 0 rfl) ?_
  refine va_get (D := D) (ci := 10) (v := .ref (h 1)) (C := RX11) (T := TX11) (N := 9) hx hb hts hin11 hown hK hP 0 rfl rfl 0 (by decide) w10 (fun _ h9 => h9) rfl dX11_image_5 ?_
  refine e_callVv (As := [.ref (h 1)]) (rest := []) nxE_stable hs ⟨hx, hb, hml, hown, hts⟩ (cC_X0_becomes_k_city l D h cy _ _ hw) (cwV 1 hts gX11_image_X0_becomes rfl rfl rfl (by decide +kernel) ⟨Nat.le_of_ble_eq_true rfl, Nat.le_of_ble_eq_true rfl⟩) (va_recv hK hP (ci := 0) (q0 := 3) rfl rfl) hK hP hD hS hA rfl hl.1 rfl (Nat.le_of_ble_eq_true rfl) dX11_image_8 ⟨Nat.zero_le _, Nat.zero_le _⟩ (fun S_2 H locs hw hP hD hS => ?_)
  refine lv_aload_n hx hb dX11_image_11 rfl (lv_at hl 0 rfl) ?_
  refine va_get (D := D) (ci := 10) (v := .ref (h 1)) (C := RX11) (T := TX11) (N := 9) hx hb hts hin11 hown hK hP 0 rfl rfl 0 (by decide) w10 (fun _ h9 => h9) rfl dX11_image_12 ?_
  refine e_callVi (As := []) (rest := []) nxE_stable hs ⟨hx, hb, hml, hown, hts⟩ (cC_X0_today l D h cy _ _ hw) (cwV 0 hts gX11_image_X0_today rfl rfl rfl (by decide +kernel) ⟨Nat.le_of_ble_eq_true rfl, Nat.le_of_ble_eq_true rfl⟩) (va_recv hK hP (ci := 0) (q0 := 1) rfl rfl) hK hP hD hS hA rfl hl.1 rfl (Nat.le_of_ble_eq_true rfl) dX11_image_15 ⟨Nat.zero_le _, Nat.zero_le _⟩ (fun r_3 S_4 H locs hw hP hD hS => ?_)
  exact W.iret (v := r_3) hx hb hr (fun t ht hW => ⟨⟨r_3, S_4, rfl, hw, by rw [ht]; exact hP, va_K.moved hW.alike hK, hD⟩, hS.F ht⟩) hS.2.2 dX11_image_18
def wC_X8_becomes_ksteps (S : CS) (post : CS → Prop) : Prop := (∀ S_1 : CS, S_1 = (cx_set_cs_rows S (k_copyW 2220 2220 (cx_ks_rows S) (cx_cs_rows S))) → (∀ S_2 : CS, S_2 = (cx_set_cs_first S_1 (cx_ks_first S_1)) → (∀ S_3 : CS, S_3 = (cx_set_cs_count S_2 (cx_ks_count S_2)) → post S_3)))
set_option maxHeartbeats 4000000 in
set_option maxRecDepth 100000 in
theorem cC_X8_becomes_ksteps (l : Launch) (D : va_G) (h : Nat → Nat) (cy : Nat → ClassId) (S : CS) (post : CS → Prop) (hw : wC_X8_becomes_ksteps S post) : e_Mv nxE l yX8_becomes wsX8_becomes { frames := 3, cells := 0, slots := 0, locals := 105 } D (tyC cy) (wC h cy) [.ref (h 2), .ref (h 4)] S post := by
  intro sz
  refine Met.ofW (cc := cX8_becomes) (maxL := 2) (ret := none) (by decide) rfl ?_
  intro p e s m args below meth c s₁ B hml hv
  obtain ⟨rfl, hsz, hP, hK, hD0, hs⟩ := hv
  have hx := B.exec
  have hb := B.bytes
  have hr := B.returns
  have hts := atoms_spec (ws := wsX8_becomes) B.pre
  have hown : s.vm.findClass RX8 = some m.cls := findClass_of_methodNamed B.named
  have hlocks := B.notSynchronized
  subst hsz
  have hD := hD0.self (sz := s.heap.size)
  generalize hAe : va_A (wC h cy S) s.heap.size = A at hD ⊢
  have hA : ∀ q : Nat, s.heap.size ≤ q → A q := fun q h => by rw [← hAe]; exact Or.inr h
  have hS : va_S A s.heap s.heap [] := va_S.rf
  have hin8 : ∀ w ∈ wsX80, w ∈ wsX8_becomes := fun _ h => List.mem_cons_of_mem _ (List.mem_append_right _ h)
  have w11 := hts (.fieldLink RX8 11 "ClownsMourn$Steps" "rows" "[I") (List.mem_of_getElem? (i := 1) rfl)
  have w15 := hts (.fieldLink RX8 15 "ClownsMourn$Steps" "first" "I") (List.mem_of_getElem? (i := 2) rfl)
  have w19 := hts (.fieldLink RX8 19 "ClownsMourn$Steps" "count" "I") (List.mem_of_getElem? (i := 3) rfl)
  have wiX11 := hts (.initialized RX11) (List.mem_of_getElem? (i := 5) rfl)
  have wstcopyWhole := hts (.static yX11_copyWhole) (List.mem_of_getElem? (i := 4) rfl)
  have hl := lv_entry ([.ref (h 2), .ref (h 4)]) (n := 2) (Nat.le_of_ble_eq_true rfl)
  rw [lg_entry_eq]
  generalize (lg_sl ([.ref (h 2), .ref (h 4)]) ++ List.replicate (2 - (lg_sl ([.ref (h 2), .ref (h 4)])).length) Slot.unset).toArray = ls at hl ⊢
  have hl : lv_has ls 2 [(0, .ref (h 2)), (1, .ref (h 4))] := hl
  unfold wC_X8_becomes_ksteps at hw
  clear hD0
  refine lv_aload_n hx hb dX8_becomes_0 rfl (lv_at hl 1 rfl) ?_
  refine va_get (D := D) (ci := 8) (v := .ref (h 35)) (C := RX8) (T := TX8) (N := 3) hx hb hts hin8 hown hK hP 4 rfl rfl 0 (by decide) w11 (fun _ h9 => h9) rfl dX8_becomes_1 ?_
  refine lv_aload_n hx hb dX8_becomes_4 rfl (lv_at hl 0 rfl) ?_
  refine va_get (D := D) (ci := 8) (v := .ref (h 23)) (C := RX8) (T := TX8) (N := 3) hx hb hts hin8 hown hK hP 2 rfl rfl 0 (by decide) w11 (fun _ h9 => h9) rfl dX8_becomes_5 ?_
  refine e_callNv (As := [.ref (h 35), .ref (h 23)]) (rest := []) nxE_stable hs ⟨hx, hb, hml, hown, hts⟩ (cA_copyWhole l D nxE nxE_stable (tyC cy) (wC h cy) S 35 23 23 11 _ _ _ _ 2220 2220 cx_ks_rows cx_cs_rows cx_set_cs_rows rfl rfl (wCs_cs_rows h cy S) rfl rfl (by decide) (by decide) (fun S0 => S0 = (cx_set_cs_rows S (k_copyW 2220 2220 (cx_ks_rows S) (cx_cs_rows S)))) rfl) ⟨va_cnB 2 hts gX8_becomes_X11_copyWhole_n22 rfl rfl rfl hs.2.2.2.2.2.2.2.2.2.2.2.2.2.2.2.2.2.2.2.2.2.2.2.2.2.2.2.1 wiX11 (by decide +kernel) ⟨Nat.le_of_ble_eq_true rfl, Nat.le_of_ble_eq_true rfl⟩, wstcopyWhole, trivial⟩ hK hP hD hS hA rfl hl.1 rfl (Nat.le_of_ble_eq_true rfl) dX8_becomes_8 ⟨Nat.zero_le _, Nat.zero_le _⟩ (fun S_1 H locs eS_1 hP hD hS => ?_)
  replace hw := hw S_1 eS_1
  refine lv_aload_n hx hb dX8_becomes_11 rfl (lv_at hl 0 rfl) ?_
  refine lv_aload_n hx hb dX8_becomes_12 rfl (lv_at hl 1 rfl) ?_
  refine va_get (D := D) (ci := 8) (v := .int (cx_ks_first S_1)) (C := RX8) (T := TX8) (N := 3) hx hb hts hin8 hown hK hP 4 rfl rfl 1 (by decide) w15 (fun _ h9 => h9) rfl dX8_becomes_13 ?_
  refine va_put (D := D) (ci := 8) (v := .int (cx_ks_first S_1)) (ty := .int) (C := RX8) (T := TX8) (N := 3) hx hb hts hin8 tyX8 tyX8_ok nmX8 hown hK hP hD hS 2 rfl rfl 1 (by decide) w15 (fun _ h9 => h9) rfl (tyX8_ok 1 (by decide)) rfl rfl (Nat.le_of_ble_eq_true rfl) dX8_becomes_16 (fun H locs hP hD hS => ?_)
  obtain ⟨S_2, eS_2⟩ : ∃ z : CS, z = (cx_set_cs_first S_1 (cx_ks_first S_1)) := ⟨_, rfl⟩
  replace hw := hw S_2 eS_2
  have hP : va_P D vwCl (wC h cy S_2) H := by rw [eS_2, ← wCp_cs_first]; exact hP
  have hD : va_D A (wC h cy S_2) := by rw [eS_2, ← wCp_cs_first]; exact hD
  refine lv_aload_n hx hb dX8_becomes_19 rfl (lv_at hl 0 rfl) ?_
  refine lv_aload_n hx hb dX8_becomes_20 rfl (lv_at hl 1 rfl) ?_
  refine va_get (D := D) (ci := 8) (v := .int (cx_ks_count S_2)) (C := RX8) (T := TX8) (N := 3) hx hb hts hin8 hown hK hP 4 rfl rfl 2 (by decide) w19 (fun _ h9 => h9) rfl dX8_becomes_21 ?_
  refine va_put (D := D) (ci := 8) (v := .int (cx_ks_count S_2)) (ty := .int) (C := RX8) (T := TX8) (N := 3) hx hb hts hin8 tyX8 tyX8_ok nmX8 hown hK hP hD hS 2 rfl rfl 2 (by decide) w19 (fun _ h9 => h9) rfl (tyX8_ok 2 (by decide)) rfl rfl (Nat.le_of_ble_eq_true rfl) dX8_becomes_24 (fun H locs hP hD hS => ?_)
  obtain ⟨S_3, eS_3⟩ : ∃ z : CS, z = (cx_set_cs_count S_2 (cx_ks_count S_2)) := ⟨_, rfl⟩
  replace hw := hw S_3 eS_3
  have hP : va_P D vwCl (wC h cy S_3) H := by rw [eS_3, ← wCp_cs_count]; exact hP
  have hD : va_D A (wC h cy S_3) := by rw [eS_3, ← wCp_cs_count]; exact hD
  exact W.vret hx hb hr (fun t ht hW => ⟨⟨S_3, rfl, hw, by rw [ht]; exact hP, va_K.moved hW.alike hK, hD⟩, hS.F ht⟩) hS.2.2 dX8_becomes_27
def wC_X0_becomes_kept_104 (post : CS → Prop) (S : CS) : Prop := (∀ S_1 : CS, S_1 = (cx_set_c_textCount S (cx_k_textCount S)) → (∀ S_2 : CS, S_2 = (cx_set_c_ruling S_1 (cx_k_ruling S_1)) → (∀ S_3 : CS, S_3 = (cx_set_c_costs S_2 (k_copyW 30 30 (cx_k_costs S_2) (cx_c_costs S_2))) → (∀ S_4 : CS, S_4 = (cx_set_c_trials S_3 (k_copyW 8 8 (cx_k_trials S_3) (cx_c_trials S_3))) → (∀ S_5 : CS, S_5 = (cx_set_c_trialCount S_4 (cx_k_trialCount S_4)) → (∀ S_6 : CS, S_6 = (cx_set_c_worths S_5 (k_copyW 16 16 (cx_k_worths S_5) (cx_c_worths S_5))) → (∀ S_7 : CS, S_7 = (cx_set_c_aheads S_6 (k_copyW 5 5 (cx_k_aheads S_6) (cx_c_aheads S_6))) → (∀ S_8 : CS, S_8 = (cx_set_c_growns S_7 (k_copyW 8 8 (cx_k_growns S_7) (cx_c_growns S_7))) → (∀ S_9 : CS, S_9 = (cx_set_c_grownCount S_8 (cx_k_grownCount S_8)) → post S_9)))))))))
def wC_X0_becomes_kept_68 (post : CS → Prop) : Nat → Int32 → CS → Prop
  | 0, _, _ => False
  | n + 1, x2, S => ((4 ≤ x2 → wC_X0_becomes_kept_104 post S) ∧ (¬ (4 ≤ x2) → ((4 ≤ x2 → wC_X0_becomes_kept_104 post S) ∧ (¬ (4 ≤ x2) → (vp_in x2 4 ∧ (vp_in x2 4 ∧ (∀ a : Nat, (cx_k_texts S) x2.toNatClampNeg = some a → ∃ B : TB, (a, B) ∈ cx_px S) ∧ ∀ S_3 : CS, S_3 = (cx_set_c_texts S (va_up (cx_c_texts S) (x2.toNatClampNeg) ((cx_k_texts S) x2.toNatClampNeg))) → wC_X0_becomes_kept_68 post n (x2 + 1) S_3))))))
def wC_X0_becomes_kept (S : CS) (post : CS → Prop) : Prop := (∀ S_1 : CS, S_1 = (cx_set_c_now S (k_copyW 74 74 (cx_k_now S) (cx_c_now S))) → wC_X8_becomes_ksteps S_1 (fun S_3 => (∀ S_4 : CS, S_4 = (cx_set_c_kinds S_3 (k_copyW 6 6 (cx_k_kinds S_3) (cx_c_kinds S_3))) → (∀ S_5 : CS, S_5 = (cx_set_c_skills S_4 (k_copyW 5 5 (cx_k_skills S_4) (cx_c_skills S_4))) → (∀ S_6 : CS, S_6 = (cx_set_c_ages S_5 (k_copyW 5 5 (cx_k_ages S_5) (cx_c_ages S_5))) → (∀ S_7 : CS, S_7 = (cx_set_c_turns S_6 (k_copyW 50 50 (cx_k_turns S_6) (cx_c_turns S_6))) → ∃ k_ : Nat, wC_X0_becomes_kept_68 post k_ 0 S_7))))))
set_option maxHeartbeats 4000000 in
set_option maxRecDepth 100000 in
theorem cC_X0_becomes_kept (l : Launch) (D : va_G) (h : Nat → Nat) (cy : Nat → ClassId) (S : CS) (post : CS → Prop) (hw : wC_X0_becomes_kept S post) : e_Mv nxE l yX0_becomes wsX0_becomes { frames := 4, cells := 0, slots := 0, locals := 126 } D (tyC cy) (wC h cy) [.ref (h 1), .ref (h 3)] S post := by
  intro sz
  refine Met.ofW (cc := cX0_becomes) (maxL := 3) (ret := none) (by decide) rfl ?_
  intro p e s m args below meth c s₁ B hml hv
  obtain ⟨rfl, hsz, hP, hK, hD0, hs⟩ := hv
  have hx := B.exec
  have hb := B.bytes
  have hr := B.returns
  have hts := atoms_spec (ws := wsX0_becomes) B.pre
  have hown : s.vm.findClass RX0 = some m.cls := findClass_of_methodNamed B.named
  have hlocks := B.notSynchronized
  subst hsz
  have hD := hD0.self (sz := s.heap.size)
  generalize hAe : va_A (wC h cy S) s.heap.size = A at hD ⊢
  have hA : ∀ q : Nat, s.heap.size ≤ q → A q := fun q h => by rw [← hAe]; exact Or.inr h
  have hS : va_S A s.heap s.heap [] := va_S.rf
  have hin0 : ∀ w ∈ wsX00, w ∈ wsX0_becomes := fun _ h => List.mem_cons_of_mem _ (List.mem_append_left _ (List.mem_append_right _ h))
  have hin8 : ∀ w ∈ wsX80, w ∈ wsX0_becomes := fun _ h => List.mem_cons_of_mem _ (List.mem_append_right _ h)
  have w11 := hts (.fieldLink RX0 11 "ClownsMourn$City" "now" "[I") (List.mem_of_getElem? (i := 1) rfl)
  have w18 := hts (.fieldLink RX0 18 "ClownsMourn$City" "steps" "LClownsMourn$Steps;") (List.mem_of_getElem? (i := 2) rfl)
  have w22 := hts (.fieldLink RX0 22 "ClownsMourn$City" "kinds" "[I") (List.mem_of_getElem? (i := 3) rfl)
  have w25 := hts (.fieldLink RX0 25 "ClownsMourn$City" "skills" "[I") (List.mem_of_getElem? (i := 4) rfl)
  have w28 := hts (.fieldLink RX0 28 "ClownsMourn$City" "ages" "[I") (List.mem_of_getElem? (i := 5) rfl)
  have w31 := hts (.fieldLink RX0 31 "ClownsMourn$City" "turns" "[I") (List.mem_of_getElem? (i := 6) rfl)
  have w36 := hts (.fieldLink RX0 36 "ClownsMourn$City" "texts" "[LClownsMourn$Text;") (List.mem_of_getElem? (i := 7) rfl)
  have w40 := hts (.fieldLink RX0 40 "ClownsMourn$City" "textCount" "I") (List.mem_of_getElem? (i := 8) rfl)
  have w44 := hts (.fieldLink RX0 44 "ClownsMourn$City" "ruling" "I") (List.mem_of_getElem? (i := 9) rfl)
  have w47 := hts (.fieldLink RX0 47 "ClownsMourn$City" "costs" "[I") (List.mem_of_getElem? (i := 10) rfl)
  have w50 := hts (.fieldLink RX0 50 "ClownsMourn$City" "trials" "[I") (List.mem_of_getElem? (i := 11) rfl)
  have w53 := hts (.fieldLink RX0 53 "ClownsMourn$City" "trialCount" "I") (List.mem_of_getElem? (i := 12) rfl)
  have w56 := hts (.fieldLink RX0 56 "ClownsMourn$City" "worths" "[I") (List.mem_of_getElem? (i := 13) rfl)
  have w59 := hts (.fieldLink RX0 59 "ClownsMourn$City" "aheads" "[I") (List.mem_of_getElem? (i := 14) rfl)
  have w62 := hts (.fieldLink RX0 62 "ClownsMourn$City" "growns" "[I") (List.mem_of_getElem? (i := 15) rfl)
  have w65 := hts (.fieldLink RX0 65 "ClownsMourn$City" "grownCount" "I") (List.mem_of_getElem? (i := 16) rfl)
  have wiX11 := hts (.initialized RX11) (List.mem_of_getElem? (i := 18) rfl)
  have wstcopyWhole := hts (.static yX11_copyWhole) (List.mem_of_getElem? (i := 17) rfl)
  have hl := lv_entry ([.ref (h 1), .ref (h 3)]) (n := 3) (Nat.le_of_ble_eq_true rfl)
  rw [lg_entry_eq]
  generalize (lg_sl ([.ref (h 1), .ref (h 3)]) ++ List.replicate (3 - (lg_sl ([.ref (h 1), .ref (h 3)])).length) Slot.unset).toArray = ls at hl ⊢
  have hl : lv_has ls 3 [(0, .ref (h 1)), (1, .ref (h 3))] := hl
  unfold wC_X0_becomes_kept at hw
  clear hD0
  have J_104 : ∀ (S : CS) (H : Heap) (locs : List Loc) (ls : Array Slot), wC_X0_becomes_kept_104 post S → va_P D vwCl (wC h cy S) H → va_D A (wC h cy S) → va_S A s.heap H locs → lv_has ls 3 [(0, .ref (h 1)), (1, .ref (h 3))] → W p l e (headSpec wsX0_becomes { frames := 4, cells := 0, slots := 0, locals := 126 }).room s m (([.ref (h 1), .ref (h 3)] : List Value).toArray) below meth c H locs 0 0 (MQ below (va_Qv post (k_Post D (tyC cy) (wC h cy) A) A) (([.ref (h 1), .ref (h 3)] : List Value).toArray) s 0 0 A) (F0 m 104 ls []) := by
    intro S H locs ls hw hP hD hS hl
    unfold wC_X0_becomes_kept_104 at hw
    refine lv_aload_n hx hb dX0_becomes_104 rfl (lv_at hl 0 rfl) ?_
    refine lv_aload_n hx hb dX0_becomes_105 rfl (lv_at hl 1 rfl) ?_
    refine va_get (D := D) (ci := 0) (v := .int (cx_k_textCount S)) (C := RX0) (T := TX0) (N := 16) hx hb hts hin0 hown hK hP 3 rfl rfl 7 (by decide) w40 (fun _ h9 => h9) rfl dX0_becomes_106 ?_
    refine va_put (D := D) (ci := 0) (v := .int (cx_k_textCount S)) (ty := .int) (C := RX0) (T := TX0) (N := 16) hx hb hts hin0 tyX0 tyX0_ok nmX0 hown hK hP hD hS 1 rfl rfl 7 (by decide) w40 (fun _ h9 => h9) rfl (tyX0_ok 7 (by decide)) rfl rfl (Nat.le_of_ble_eq_true rfl) dX0_becomes_109 (fun H locs hP hD hS => ?_)
    obtain ⟨S_1, eS_1⟩ : ∃ z : CS, z = (cx_set_c_textCount S (cx_k_textCount S)) := ⟨_, rfl⟩
    replace hw := hw S_1 eS_1
    have hP : va_P D vwCl (wC h cy S_1) H := by rw [eS_1, ← wCp_c_textCount]; exact hP
    have hD : va_D A (wC h cy S_1) := by rw [eS_1, ← wCp_c_textCount]; exact hD
    refine lv_aload_n hx hb dX0_becomes_112 rfl (lv_at hl 0 rfl) ?_
    refine lv_aload_n hx hb dX0_becomes_113 rfl (lv_at hl 1 rfl) ?_
    refine va_get (D := D) (ci := 0) (v := .int (cx_k_ruling S_1)) (C := RX0) (T := TX0) (N := 16) hx hb hts hin0 hown hK hP 3 rfl rfl 8 (by decide) w44 (fun _ h9 => h9) rfl dX0_becomes_114 ?_
    refine va_put (D := D) (ci := 0) (v := .int (cx_k_ruling S_1)) (ty := .int) (C := RX0) (T := TX0) (N := 16) hx hb hts hin0 tyX0 tyX0_ok nmX0 hown hK hP hD hS 1 rfl rfl 8 (by decide) w44 (fun _ h9 => h9) rfl (tyX0_ok 8 (by decide)) rfl rfl (Nat.le_of_ble_eq_true rfl) dX0_becomes_117 (fun H locs hP hD hS => ?_)
    obtain ⟨S_2, eS_2⟩ : ∃ z : CS, z = (cx_set_c_ruling S_1 (cx_k_ruling S_1)) := ⟨_, rfl⟩
    replace hw := hw S_2 eS_2
    have hP : va_P D vwCl (wC h cy S_2) H := by rw [eS_2, ← wCp_c_ruling]; exact hP
    have hD : va_D A (wC h cy S_2) := by rw [eS_2, ← wCp_c_ruling]; exact hD
    refine lv_aload_n hx hb dX0_becomes_120 rfl (lv_at hl 1 rfl) ?_
    refine va_get (D := D) (ci := 0) (v := .ref (h 30)) (C := RX0) (T := TX0) (N := 16) hx hb hts hin0 hown hK hP 3 rfl rfl 9 (by decide) w47 (fun _ h9 => h9) rfl dX0_becomes_121 ?_
    refine lv_aload_n hx hb dX0_becomes_124 rfl (lv_at hl 0 rfl) ?_
    refine va_get (D := D) (ci := 0) (v := .ref (h 18)) (C := RX0) (T := TX0) (N := 16) hx hb hts hin0 hown hK hP 1 rfl rfl 9 (by decide) w47 (fun _ h9 => h9) rfl dX0_becomes_125 ?_
    refine e_callNv (As := [.ref (h 30), .ref (h 18)]) (rest := []) nxE_stable hs ⟨hx, hb, hml, hown, hts⟩ (cA_copyWhole l D nxE nxE_stable (tyC cy) (wC h cy) S_2 30 18 18 6 _ _ _ _ 30 30 cx_k_costs cx_c_costs cx_set_c_costs rfl rfl (wCs_c_costs h cy S_2) rfl rfl (by decide) (by decide) (fun S0 => S0 = (cx_set_c_costs S_2 (k_copyW 30 30 (cx_k_costs S_2) (cx_c_costs S_2)))) rfl) ⟨va_cnB 2 hts gX0_becomes_X11_copyWhole_n78 rfl rfl rfl hs.2.2.2.2.2.2.2.2.2.2.2.2.2.2.2.2.2.2.2.2.2.2.2.2.2.2.1 wiX11 (by decide +kernel) ⟨Nat.le_of_ble_eq_true rfl, Nat.le_of_ble_eq_true rfl⟩, wstcopyWhole, trivial⟩ hK hP hD hS hA rfl hl.1 rfl (Nat.le_of_ble_eq_true rfl) dX0_becomes_128 ⟨Nat.zero_le _, Nat.zero_le _⟩ (fun S_3 H locs eS_3 hP hD hS => ?_)
    replace hw := hw S_3 eS_3
    refine lv_aload_n hx hb dX0_becomes_131 rfl (lv_at hl 1 rfl) ?_
    refine va_get (D := D) (ci := 0) (v := .ref (h 31)) (C := RX0) (T := TX0) (N := 16) hx hb hts hin0 hown hK hP 3 rfl rfl 10 (by decide) w50 (fun _ h9 => h9) rfl dX0_becomes_132 ?_
    refine lv_aload_n hx hb dX0_becomes_135 rfl (lv_at hl 0 rfl) ?_
    refine va_get (D := D) (ci := 0) (v := .ref (h 19)) (C := RX0) (T := TX0) (N := 16) hx hb hts hin0 hown hK hP 1 rfl rfl 10 (by decide) w50 (fun _ h9 => h9) rfl dX0_becomes_136 ?_
    refine e_callNv (As := [.ref (h 31), .ref (h 19)]) (rest := []) nxE_stable hs ⟨hx, hb, hml, hown, hts⟩ (cA_copyWhole l D nxE nxE_stable (tyC cy) (wC h cy) S_3 31 19 19 7 _ _ _ _ 8 8 cx_k_trials cx_c_trials cx_set_c_trials rfl rfl (wCs_c_trials h cy S_3) rfl rfl (by decide) (by decide) (fun S0 => S0 = (cx_set_c_trials S_3 (k_copyW 8 8 (cx_k_trials S_3) (cx_c_trials S_3)))) rfl) ⟨va_cnB 2 hts gX0_becomes_X11_copyWhole_n78 rfl rfl rfl hs.2.2.2.2.2.2.2.2.2.2.2.2.2.2.2.2.2.2.2.2.2.2.2.2.2.2.1 wiX11 (by decide +kernel) ⟨Nat.le_of_ble_eq_true rfl, Nat.le_of_ble_eq_true rfl⟩, wstcopyWhole, trivial⟩ hK hP hD hS hA rfl hl.1 rfl (Nat.le_of_ble_eq_true rfl) dX0_becomes_139 ⟨Nat.zero_le _, Nat.zero_le _⟩ (fun S_4 H locs eS_4 hP hD hS => ?_)
    replace hw := hw S_4 eS_4
    refine lv_aload_n hx hb dX0_becomes_142 rfl (lv_at hl 0 rfl) ?_
    refine lv_aload_n hx hb dX0_becomes_143 rfl (lv_at hl 1 rfl) ?_
    refine va_get (D := D) (ci := 0) (v := .int (cx_k_trialCount S_4)) (C := RX0) (T := TX0) (N := 16) hx hb hts hin0 hown hK hP 3 rfl rfl 11 (by decide) w53 (fun _ h9 => h9) rfl dX0_becomes_144 ?_
    refine va_put (D := D) (ci := 0) (v := .int (cx_k_trialCount S_4)) (ty := .int) (C := RX0) (T := TX0) (N := 16) hx hb hts hin0 tyX0 tyX0_ok nmX0 hown hK hP hD hS 1 rfl rfl 11 (by decide) w53 (fun _ h9 => h9) rfl (tyX0_ok 11 (by decide)) rfl rfl (Nat.le_of_ble_eq_true rfl) dX0_becomes_147 (fun H locs hP hD hS => ?_)
    obtain ⟨S_5, eS_5⟩ : ∃ z : CS, z = (cx_set_c_trialCount S_4 (cx_k_trialCount S_4)) := ⟨_, rfl⟩
    replace hw := hw S_5 eS_5
    have hP : va_P D vwCl (wC h cy S_5) H := by rw [eS_5, ← wCp_c_trialCount]; exact hP
    have hD : va_D A (wC h cy S_5) := by rw [eS_5, ← wCp_c_trialCount]; exact hD
    refine lv_aload_n hx hb dX0_becomes_150 rfl (lv_at hl 1 rfl) ?_
    refine va_get (D := D) (ci := 0) (v := .ref (h 32)) (C := RX0) (T := TX0) (N := 16) hx hb hts hin0 hown hK hP 3 rfl rfl 12 (by decide) w56 (fun _ h9 => h9) rfl dX0_becomes_151 ?_
    refine lv_aload_n hx hb dX0_becomes_154 rfl (lv_at hl 0 rfl) ?_
    refine va_get (D := D) (ci := 0) (v := .ref (h 20)) (C := RX0) (T := TX0) (N := 16) hx hb hts hin0 hown hK hP 1 rfl rfl 12 (by decide) w56 (fun _ h9 => h9) rfl dX0_becomes_155 ?_
    refine e_callNv (As := [.ref (h 32), .ref (h 20)]) (rest := []) nxE_stable hs ⟨hx, hb, hml, hown, hts⟩ (cA_copyWhole l D nxE nxE_stable (tyC cy) (wC h cy) S_5 32 20 20 8 _ _ _ _ 16 16 cx_k_worths cx_c_worths cx_set_c_worths rfl rfl (wCs_c_worths h cy S_5) rfl rfl (by decide) (by decide) (fun S0 => S0 = (cx_set_c_worths S_5 (k_copyW 16 16 (cx_k_worths S_5) (cx_c_worths S_5)))) rfl) ⟨va_cnB 2 hts gX0_becomes_X11_copyWhole_n78 rfl rfl rfl hs.2.2.2.2.2.2.2.2.2.2.2.2.2.2.2.2.2.2.2.2.2.2.2.2.2.2.1 wiX11 (by decide +kernel) ⟨Nat.le_of_ble_eq_true rfl, Nat.le_of_ble_eq_true rfl⟩, wstcopyWhole, trivial⟩ hK hP hD hS hA rfl hl.1 rfl (Nat.le_of_ble_eq_true rfl) dX0_becomes_158 ⟨Nat.zero_le _, Nat.zero_le _⟩ (fun S_6 H locs eS_6 hP hD hS => ?_)
    replace hw := hw S_6 eS_6
    refine lv_aload_n hx hb dX0_becomes_161 rfl (lv_at hl 1 rfl) ?_
    refine va_get (D := D) (ci := 0) (v := .ref (h 33)) (C := RX0) (T := TX0) (N := 16) hx hb hts hin0 hown hK hP 3 rfl rfl 13 (by decide) w59 (fun _ h9 => h9) rfl dX0_becomes_162 ?_
    refine lv_aload_n hx hb dX0_becomes_165 rfl (lv_at hl 0 rfl) ?_
    refine va_get (D := D) (ci := 0) (v := .ref (h 21)) (C := RX0) (T := TX0) (N := 16) hx hb hts hin0 hown hK hP 1 rfl rfl 13 (by decide) w59 (fun _ h9 => h9) rfl dX0_becomes_166 ?_
    refine e_callNv (As := [.ref (h 33), .ref (h 21)]) (rest := []) nxE_stable hs ⟨hx, hb, hml, hown, hts⟩ (cA_copyWhole l D nxE nxE_stable (tyC cy) (wC h cy) S_6 33 21 21 9 _ _ _ _ 5 5 cx_k_aheads cx_c_aheads cx_set_c_aheads rfl rfl (wCs_c_aheads h cy S_6) rfl rfl (by decide) (by decide) (fun S0 => S0 = (cx_set_c_aheads S_6 (k_copyW 5 5 (cx_k_aheads S_6) (cx_c_aheads S_6)))) rfl) ⟨va_cnB 2 hts gX0_becomes_X11_copyWhole_n78 rfl rfl rfl hs.2.2.2.2.2.2.2.2.2.2.2.2.2.2.2.2.2.2.2.2.2.2.2.2.2.2.1 wiX11 (by decide +kernel) ⟨Nat.le_of_ble_eq_true rfl, Nat.le_of_ble_eq_true rfl⟩, wstcopyWhole, trivial⟩ hK hP hD hS hA rfl hl.1 rfl (Nat.le_of_ble_eq_true rfl) dX0_becomes_169 ⟨Nat.zero_le _, Nat.zero_le _⟩ (fun S_7 H locs eS_7 hP hD hS => ?_)
    replace hw := hw S_7 eS_7
    refine lv_aload_n hx hb dX0_becomes_172 rfl (lv_at hl 1 rfl) ?_
    refine va_get (D := D) (ci := 0) (v := .ref (h 34)) (C := RX0) (T := TX0) (N := 16) hx hb hts hin0 hown hK hP 3 rfl rfl 14 (by decide) w62 (fun _ h9 => h9) rfl dX0_becomes_173 ?_
    refine lv_aload_n hx hb dX0_becomes_176 rfl (lv_at hl 0 rfl) ?_
    refine va_get (D := D) (ci := 0) (v := .ref (h 22)) (C := RX0) (T := TX0) (N := 16) hx hb hts hin0 hown hK hP 1 rfl rfl 14 (by decide) w62 (fun _ h9 => h9) rfl dX0_becomes_177 ?_
    refine e_callNv (As := [.ref (h 34), .ref (h 22)]) (rest := []) nxE_stable hs ⟨hx, hb, hml, hown, hts⟩ (cA_copyWhole l D nxE nxE_stable (tyC cy) (wC h cy) S_7 34 22 22 10 _ _ _ _ 8 8 cx_k_growns cx_c_growns cx_set_c_growns rfl rfl (wCs_c_growns h cy S_7) rfl rfl (by decide) (by decide) (fun S0 => S0 = (cx_set_c_growns S_7 (k_copyW 8 8 (cx_k_growns S_7) (cx_c_growns S_7)))) rfl) ⟨va_cnB 2 hts gX0_becomes_X11_copyWhole_n78 rfl rfl rfl hs.2.2.2.2.2.2.2.2.2.2.2.2.2.2.2.2.2.2.2.2.2.2.2.2.2.2.1 wiX11 (by decide +kernel) ⟨Nat.le_of_ble_eq_true rfl, Nat.le_of_ble_eq_true rfl⟩, wstcopyWhole, trivial⟩ hK hP hD hS hA rfl hl.1 rfl (Nat.le_of_ble_eq_true rfl) dX0_becomes_180 ⟨Nat.zero_le _, Nat.zero_le _⟩ (fun S_8 H locs eS_8 hP hD hS => ?_)
    replace hw := hw S_8 eS_8
    refine lv_aload_n hx hb dX0_becomes_183 rfl (lv_at hl 0 rfl) ?_
    refine lv_aload_n hx hb dX0_becomes_184 rfl (lv_at hl 1 rfl) ?_
    refine va_get (D := D) (ci := 0) (v := .int (cx_k_grownCount S_8)) (C := RX0) (T := TX0) (N := 16) hx hb hts hin0 hown hK hP 3 rfl rfl 15 (by decide) w65 (fun _ h9 => h9) rfl dX0_becomes_185 ?_
    refine va_put (D := D) (ci := 0) (v := .int (cx_k_grownCount S_8)) (ty := .int) (C := RX0) (T := TX0) (N := 16) hx hb hts hin0 tyX0 tyX0_ok nmX0 hown hK hP hD hS 1 rfl rfl 15 (by decide) w65 (fun _ h9 => h9) rfl (tyX0_ok 15 (by decide)) rfl rfl (Nat.le_of_ble_eq_true rfl) dX0_becomes_188 (fun H locs hP hD hS => ?_)
    obtain ⟨S_9, eS_9⟩ : ∃ z : CS, z = (cx_set_c_grownCount S_8 (cx_k_grownCount S_8)) := ⟨_, rfl⟩
    replace hw := hw S_9 eS_9
    have hP : va_P D vwCl (wC h cy S_9) H := by rw [eS_9, ← wCp_c_grownCount]; exact hP
    have hD : va_D A (wC h cy S_9) := by rw [eS_9, ← wCp_c_grownCount]; exact hD
    exact W.vret hx hb hr (fun t ht hW => ⟨⟨S_9, rfl, hw, by rw [ht]; exact hP, va_K.moved hW.alike hK, hD⟩, hS.F ht⟩) hS.2.2 dX0_becomes_191
  have L_68 : ∀ (n68 : Nat) (x2 : Int32) (S : CS) (H : Heap) (locs : List Loc) (ls : Array Slot), wC_X0_becomes_kept_68 post n68 x2 S → va_P D vwCl (wC h cy S) H → va_D A (wC h cy S) → va_S A s.heap H locs → lv_has ls 3 [(0, .ref (h 1)), (1, .ref (h 3)), (2, .int x2)] → W p l e (headSpec wsX0_becomes { frames := 4, cells := 0, slots := 0, locals := 126 }).room s m (([.ref (h 1), .ref (h 3)] : List Value).toArray) below meth c H locs 0 0 (MQ below (va_Qv post (k_Post D (tyC cy) (wC h cy) A) A) (([.ref (h 1), .ref (h 3)] : List Value).toArray) s 0 0 A) (F0 m 68 ls []) := by
    intro n68
    induction n68 with
    | zero => intro x2 S H locs ls hw; exact False.elim hw
    | succ n68 ih_68 =>
      intro x2 S H locs ls hw hP hD hS hl
      unfold wC_X0_becomes_kept_68 at hw
      refine lv_iload_n hx hb dX0_becomes_68 rfl (lv_at hl 2 rfl) ?_
      refine lv_aload_n hx hb dX0_becomes_69 rfl (lv_at hl 0 rfl) ?_
      refine va_get (D := D) (ci := 0) (v := .ref (h 17)) (C := RX0) (T := TX0) (N := 16) hx hb hts hin0 hown hK hP 1 rfl rfl 6 (by decide) w36 (fun _ h9 => h9) rfl dX0_becomes_70 ?_
      refine va_alen (v := 4) hx hb hK hP 17 5 rfl rfl (show Int32.ofNat 4 = 4 by decide) dX0_becomes_73 ?_
      obtain ⟨hc_10t, hc_10f⟩ := hw
      refine lv_icmp_ge (tgt := 104) hx hb dX0_becomes_74 (by decide) (fun c_10 => ?_) (fun c_10 => ?_)
      · have hw := hc_10t c_10
        clear hc_10t hc_10f
        exact J_104 S _ _ _ hw hP hD hS (lv_sub hl [0, 1] rfl)
      · have hw := hc_10f c_10
        clear hc_10t hc_10f
        refine lv_iload_n hx hb dX0_becomes_77 rfl (lv_at hl 2 rfl) ?_
        refine lv_aload_n hx hb dX0_becomes_78 rfl (lv_at hl 1 rfl) ?_
        refine va_get (D := D) (ci := 0) (v := .ref (h 29)) (C := RX0) (T := TX0) (N := 16) hx hb hts hin0 hown hK hP 3 rfl rfl 6 (by decide) w36 (fun _ h9 => h9) rfl dX0_becomes_79 ?_
        refine va_alen (v := 4) hx hb hK hP 29 17 rfl rfl (show Int32.ofNat 4 = 4 by decide) dX0_becomes_82 ?_
        obtain ⟨hc_11t, hc_11f⟩ := hw
        refine lv_icmp_ge (tgt := 104) hx hb dX0_becomes_83 (by decide) (fun c_11 => ?_) (fun c_11 => ?_)
        · have hw := hc_11t c_11
          clear hc_11t hc_11f
          exact J_104 S _ _ _ hw hP hD hS (lv_sub hl [0, 1] rfl)
        · have hw := hc_11f c_11
          clear hc_11t hc_11f
          refine lv_aload_n hx hb dX0_becomes_86 rfl (lv_at hl 0 rfl) ?_
          refine va_get (D := D) (ci := 0) (v := .ref (h 17)) (C := RX0) (T := TX0) (N := 16) hx hb hts hin0 hown hK hP 1 rfl rfl 6 (by decide) w36 (fun _ h9 => h9) rfl dX0_becomes_87 ?_
          refine lv_iload_n hx hb dX0_becomes_90 rfl (lv_at hl 2 rfl) ?_
          refine lv_aload_n hx hb dX0_becomes_91 rfl (lv_at hl 1 rfl) ?_
          refine va_get (D := D) (ci := 0) (v := .ref (h 29)) (C := RX0) (T := TX0) (N := 16) hx hb hts hin0 hown hK hP 3 rfl rfl 6 (by decide) w36 (fun _ h9 => h9) rfl dX0_becomes_92 ?_
          refine lv_iload_n hx hb dX0_becomes_95 rfl (lv_at hl 2 rfl) ?_
          obtain ⟨hi_15, hw⟩ := hw
          refine va_aldq (C := "ClownsMourn$Text") (f := (cx_k_texts S)) hx hb hK hP 29 17 rfl rfl hi_15 dX0_becomes_96 ?_
          obtain ⟨hi_13, ht_14, hw⟩ := hw
          refine k_astq (v := (cx_k_texts S) x2.toNatClampNeg) (f := (cx_c_texts S)) hx hb hK hP hD hS 17 5 rfl rfl (fun a ha => (ht_14 a ha).elim fun B hB => (px_obj hB).elim fun q hq => ⟨q, _, hq⟩) hi_13 dX0_becomes_97 (fun H locs hP hD hS => ?_)
          obtain ⟨S_12, eS_12⟩ : ∃ z : CS, z = (cx_set_c_texts S (va_up (cx_c_texts S) (x2.toNatClampNeg) ((cx_k_texts S) x2.toNatClampNeg))) := ⟨_, rfl⟩
          replace hw := hw S_12 eS_12
          have hP : va_P D vwCl (wC h cy S_12) H := by rw [eS_12, ← wCs_c_texts]; exact hP
          have hD : va_D A (wC h cy S_12) := by rw [eS_12, ← wCs_c_texts]; exact hD
          refine lv_iinc (v := x2 + 1) (lv' := [(2, .int (x2 + 1)), (0, .ref (h 1)), (1, .ref (h 3))]) hx hb dX0_becomes_98 hl (k := 2) rfl (k_inc (by decide)) (by decide) rfl (fun ls hl => ?_)
          refine lv_goto (tgt := 68) hx hb dX0_becomes_101 (by decide) ?_
          exact ih_68 (x2 + 1) S_12 _ _ _ hw hP hD hS (lv_sub hl [1, 2, 0] rfl)
  refine lv_aload_n hx hb dX0_becomes_0 rfl (lv_at hl 1 rfl) ?_
  refine va_get (D := D) (ci := 0) (v := .ref (h 24)) (C := RX0) (T := TX0) (N := 16) hx hb hts hin0 hown hK hP 3 rfl rfl 0 (by decide) w11 (fun _ h9 => h9) rfl dX0_becomes_1 ?_
  refine lv_aload_n hx hb dX0_becomes_4 rfl (lv_at hl 0 rfl) ?_
  refine va_get (D := D) (ci := 0) (v := .ref (h 12)) (C := RX0) (T := TX0) (N := 16) hx hb hts hin0 hown hK hP 1 rfl rfl 0 (by decide) w11 (fun _ h9 => h9) rfl dX0_becomes_5 ?_
  refine e_callNv (As := [.ref (h 24), .ref (h 12)]) (rest := []) nxE_stable hs ⟨hx, hb, hml, hown, hts⟩ (cA_copyWhole l D nxE nxE_stable (tyC cy) (wC h cy) S 24 12 12 0 _ _ _ _ 74 74 cx_k_now cx_c_now cx_set_c_now rfl rfl (wCs_c_now h cy S) rfl rfl (by decide) (by decide) (fun S0 => S0 = (cx_set_c_now S (k_copyW 74 74 (cx_k_now S) (cx_c_now S)))) rfl) ⟨va_cnB 2 hts gX0_becomes_X11_copyWhole_n78 rfl rfl rfl hs.2.2.2.2.2.2.2.2.2.2.2.2.2.2.2.2.2.2.2.2.2.2.2.2.2.2.1 wiX11 (by decide +kernel) ⟨Nat.le_of_ble_eq_true rfl, Nat.le_of_ble_eq_true rfl⟩, wstcopyWhole, trivial⟩ hK hP hD hS hA rfl hl.1 rfl (Nat.le_of_ble_eq_true rfl) dX0_becomes_8 ⟨Nat.zero_le _, Nat.zero_le _⟩ (fun S_16 H locs eS_16 hP hD hS => ?_)
  replace hw := hw S_16 eS_16
  refine lv_aload_n hx hb dX0_becomes_11 rfl (lv_at hl 0 rfl) ?_
  refine va_get (D := D) (ci := 0) (v := .ref (h 2)) (C := RX0) (T := TX0) (N := 16) hx hb hts hin0 hown hK hP 1 rfl rfl 1 (by decide) w18 (fun _ h9 => h9) rfl dX0_becomes_12 ?_
  refine lv_aload_n hx hb dX0_becomes_15 rfl (lv_at hl 1 rfl) ?_
  refine va_get (D := D) (ci := 0) (v := .ref (h 4)) (C := RX0) (T := TX0) (N := 16) hx hb hts hin0 hown hK hP 3 rfl rfl 1 (by decide) w18 (fun _ h9 => h9) rfl dX0_becomes_16 ?_
  refine e_callVv (As := [.ref (h 4)]) (rest := []) nxE_stable hs ⟨hx, hb, hml, hown, hts⟩ (cC_X8_becomes_ksteps l D h cy _ _ hw) (cwV 1 hts gX0_becomes_X8_becomes rfl rfl rfl (by decide +kernel) ⟨Nat.le_of_ble_eq_true rfl, Nat.le_of_ble_eq_true rfl⟩) (va_recv hK hP (ci := 8) (q0 := 2) rfl rfl) hK hP hD hS hA rfl hl.1 rfl (Nat.le_of_ble_eq_true rfl) dX0_becomes_19 ⟨Nat.zero_le _, Nat.zero_le _⟩ (fun S_18 H locs hw hP hD hS => ?_)
  refine lv_aload_n hx hb dX0_becomes_22 rfl (lv_at hl 1 rfl) ?_
  refine va_get (D := D) (ci := 0) (v := .ref (h 25)) (C := RX0) (T := TX0) (N := 16) hx hb hts hin0 hown hK hP 3 rfl rfl 2 (by decide) w22 (fun _ h9 => h9) rfl dX0_becomes_23 ?_
  refine lv_aload_n hx hb dX0_becomes_26 rfl (lv_at hl 0 rfl) ?_
  refine va_get (D := D) (ci := 0) (v := .ref (h 13)) (C := RX0) (T := TX0) (N := 16) hx hb hts hin0 hown hK hP 1 rfl rfl 2 (by decide) w22 (fun _ h9 => h9) rfl dX0_becomes_27 ?_
  refine e_callNv (As := [.ref (h 25), .ref (h 13)]) (rest := []) nxE_stable hs ⟨hx, hb, hml, hown, hts⟩ (cA_copyWhole l D nxE nxE_stable (tyC cy) (wC h cy) S_18 25 13 13 1 _ _ _ _ 6 6 cx_k_kinds cx_c_kinds cx_set_c_kinds rfl rfl (wCs_c_kinds h cy S_18) rfl rfl (by decide) (by decide) (fun S0 => S0 = (cx_set_c_kinds S_18 (k_copyW 6 6 (cx_k_kinds S_18) (cx_c_kinds S_18)))) rfl) ⟨va_cnB 2 hts gX0_becomes_X11_copyWhole_n78 rfl rfl rfl hs.2.2.2.2.2.2.2.2.2.2.2.2.2.2.2.2.2.2.2.2.2.2.2.2.2.2.1 wiX11 (by decide +kernel) ⟨Nat.le_of_ble_eq_true rfl, Nat.le_of_ble_eq_true rfl⟩, wstcopyWhole, trivial⟩ hK hP hD hS hA rfl hl.1 rfl (Nat.le_of_ble_eq_true rfl) dX0_becomes_30 ⟨Nat.zero_le _, Nat.zero_le _⟩ (fun S_19 H locs eS_19 hP hD hS => ?_)
  replace hw := hw S_19 eS_19
  refine lv_aload_n hx hb dX0_becomes_33 rfl (lv_at hl 1 rfl) ?_
  refine va_get (D := D) (ci := 0) (v := .ref (h 26)) (C := RX0) (T := TX0) (N := 16) hx hb hts hin0 hown hK hP 3 rfl rfl 3 (by decide) w25 (fun _ h9 => h9) rfl dX0_becomes_34 ?_
  refine lv_aload_n hx hb dX0_becomes_37 rfl (lv_at hl 0 rfl) ?_
  refine va_get (D := D) (ci := 0) (v := .ref (h 14)) (C := RX0) (T := TX0) (N := 16) hx hb hts hin0 hown hK hP 1 rfl rfl 3 (by decide) w25 (fun _ h9 => h9) rfl dX0_becomes_38 ?_
  refine e_callNv (As := [.ref (h 26), .ref (h 14)]) (rest := []) nxE_stable hs ⟨hx, hb, hml, hown, hts⟩ (cA_copyWhole l D nxE nxE_stable (tyC cy) (wC h cy) S_19 26 14 14 2 _ _ _ _ 5 5 cx_k_skills cx_c_skills cx_set_c_skills rfl rfl (wCs_c_skills h cy S_19) rfl rfl (by decide) (by decide) (fun S0 => S0 = (cx_set_c_skills S_19 (k_copyW 5 5 (cx_k_skills S_19) (cx_c_skills S_19)))) rfl) ⟨va_cnB 2 hts gX0_becomes_X11_copyWhole_n78 rfl rfl rfl hs.2.2.2.2.2.2.2.2.2.2.2.2.2.2.2.2.2.2.2.2.2.2.2.2.2.2.1 wiX11 (by decide +kernel) ⟨Nat.le_of_ble_eq_true rfl, Nat.le_of_ble_eq_true rfl⟩, wstcopyWhole, trivial⟩ hK hP hD hS hA rfl hl.1 rfl (Nat.le_of_ble_eq_true rfl) dX0_becomes_41 ⟨Nat.zero_le _, Nat.zero_le _⟩ (fun S_20 H locs eS_20 hP hD hS => ?_)
  replace hw := hw S_20 eS_20
  refine lv_aload_n hx hb dX0_becomes_44 rfl (lv_at hl 1 rfl) ?_
  refine va_get (D := D) (ci := 0) (v := .ref (h 27)) (C := RX0) (T := TX0) (N := 16) hx hb hts hin0 hown hK hP 3 rfl rfl 4 (by decide) w28 (fun _ h9 => h9) rfl dX0_becomes_45 ?_
  refine lv_aload_n hx hb dX0_becomes_48 rfl (lv_at hl 0 rfl) ?_
  refine va_get (D := D) (ci := 0) (v := .ref (h 15)) (C := RX0) (T := TX0) (N := 16) hx hb hts hin0 hown hK hP 1 rfl rfl 4 (by decide) w28 (fun _ h9 => h9) rfl dX0_becomes_49 ?_
  refine e_callNv (As := [.ref (h 27), .ref (h 15)]) (rest := []) nxE_stable hs ⟨hx, hb, hml, hown, hts⟩ (cA_copyWhole l D nxE nxE_stable (tyC cy) (wC h cy) S_20 27 15 15 3 _ _ _ _ 5 5 cx_k_ages cx_c_ages cx_set_c_ages rfl rfl (wCs_c_ages h cy S_20) rfl rfl (by decide) (by decide) (fun S0 => S0 = (cx_set_c_ages S_20 (k_copyW 5 5 (cx_k_ages S_20) (cx_c_ages S_20)))) rfl) ⟨va_cnB 2 hts gX0_becomes_X11_copyWhole_n78 rfl rfl rfl hs.2.2.2.2.2.2.2.2.2.2.2.2.2.2.2.2.2.2.2.2.2.2.2.2.2.2.1 wiX11 (by decide +kernel) ⟨Nat.le_of_ble_eq_true rfl, Nat.le_of_ble_eq_true rfl⟩, wstcopyWhole, trivial⟩ hK hP hD hS hA rfl hl.1 rfl (Nat.le_of_ble_eq_true rfl) dX0_becomes_52 ⟨Nat.zero_le _, Nat.zero_le _⟩ (fun S_21 H locs eS_21 hP hD hS => ?_)
  replace hw := hw S_21 eS_21
  refine lv_aload_n hx hb dX0_becomes_55 rfl (lv_at hl 1 rfl) ?_
  refine va_get (D := D) (ci := 0) (v := .ref (h 28)) (C := RX0) (T := TX0) (N := 16) hx hb hts hin0 hown hK hP 3 rfl rfl 5 (by decide) w31 (fun _ h9 => h9) rfl dX0_becomes_56 ?_
  refine lv_aload_n hx hb dX0_becomes_59 rfl (lv_at hl 0 rfl) ?_
  refine va_get (D := D) (ci := 0) (v := .ref (h 16)) (C := RX0) (T := TX0) (N := 16) hx hb hts hin0 hown hK hP 1 rfl rfl 5 (by decide) w31 (fun _ h9 => h9) rfl dX0_becomes_60 ?_
  refine e_callNv (As := [.ref (h 28), .ref (h 16)]) (rest := []) nxE_stable hs ⟨hx, hb, hml, hown, hts⟩ (cA_copyWhole l D nxE nxE_stable (tyC cy) (wC h cy) S_21 28 16 16 4 _ _ _ _ 50 50 cx_k_turns cx_c_turns cx_set_c_turns rfl rfl (wCs_c_turns h cy S_21) rfl rfl (by decide) (by decide) (fun S0 => S0 = (cx_set_c_turns S_21 (k_copyW 50 50 (cx_k_turns S_21) (cx_c_turns S_21)))) rfl) ⟨va_cnB 2 hts gX0_becomes_X11_copyWhole_n78 rfl rfl rfl hs.2.2.2.2.2.2.2.2.2.2.2.2.2.2.2.2.2.2.2.2.2.2.2.2.2.2.1 wiX11 (by decide +kernel) ⟨Nat.le_of_ble_eq_true rfl, Nat.le_of_ble_eq_true rfl⟩, wstcopyWhole, trivial⟩ hK hP hD hS hA rfl hl.1 rfl (Nat.le_of_ble_eq_true rfl) dX0_becomes_63 ⟨Nat.zero_le _, Nat.zero_le _⟩ (fun S_22 H locs eS_22 hP hD hS => ?_)
  replace hw := hw S_22 eS_22
  refine lv_iconst (v := 0) hx hb dX0_becomes_66 (by decide) ?_
  refine lv_istore_n (lv' := [(2, .int 0), (0, .ref (h 1)), (1, .ref (h 3))]) hx hb dX0_becomes_67 rfl hl (by decide) rfl (fun ls hl => ?_)
  obtain ⟨n_68, hw⟩ := hw
  exact L_68 n_68 0 S_22 _ _ _ hw hP hD hS (lv_sub hl [1, 2, 0] rfl)
