def wC_X3_worked_18 (post : Int32 → CS → Prop) : Nat → Option Nat → Int32 → Int32 → CS → Prop
  | 0, _, _, _, _ => False
  | n + 1, x1, x3, x4, S => ((x3 ≤ x4 → wC_X3_pop S (fun r_2 S_3 => post r_2 S_3)) ∧ (¬ (x3 ≤ x4) → (∃ a_4 : Nat, x1 = some a_4 ∧ (∃ B_5 : TB, (a_4, B_5) ∈ cx_px S ∧ (B_5.2.2.2.1.1 < 2 ^ 31 ∧ (((k_rem (k_at B_5.2.2.2.1.1 B_5.2.2.2.1.2 x4) 64) = 20 → wC_X3_pop S (fun r_7 S_8 => wC_X3_pop S_8 (fun r_9 S_10 => wC_X3_pop S_10 (fun r_11 S_12 => wC_X11_held r_11 r_9 r_7 S_12 (fun r_13 S_14 => wC_X3_push r_13 S_14 (fun S_16 => wC_X3_worked_18 post n (some a_4) x3 (x4 + 1) S_16)))))) ∧ ((k_rem (k_at B_5.2.2.2.1.1 B_5.2.2.2.1.2 x4) 64) = 22 → wC_X3_pop S (fun r_18 S_19 => wC_X3_moodOf r_18 S_19 (fun r_20 S_21 => wC_X3_push r_20 S_21 (fun S_23 => wC_X3_worked_18 post n (some a_4) x3 (x4 + 1) S_23)))) ∧ ((k_rem (k_at B_5.2.2.2.1.1 B_5.2.2.2.1.2 x4) 64) = 23 → wC_X3_pop S (fun r_25 S_26 => wC_X3_pop S_26 (fun r_27 S_28 => wC_X3_pop S_28 (fun r_29 S_30 => ((r_29 = 1 → wC_X3_push r_27 S_30 (fun S_35 => wC_X3_worked_18 post n (some a_4) x3 (x4 + 1) S_35)) ∧ (¬ (r_29 = 1) → wC_X3_push r_25 S_30 (fun S_33 => wC_X3_worked_18 post n (some a_4) x3 (x4 + 1) S_33))))))) ∧ ((k_rem (k_at B_5.2.2.2.1.1 B_5.2.2.2.1.2 x4) 64) = 29 → wC_X3_pop S (fun r_37 S_38 => wC_X3_push (1 - r_37) S_38 (fun S_40 => wC_X3_worked_18 post n (some a_4) x3 (x4 + 1) S_40))) ∧ ((k_rem (k_at B_5.2.2.2.1.1 B_5.2.2.2.1.2 x4) 64) = 32 → wC_X3_push ((k_at B_5.2.2.2.1.1 B_5.2.2.2.1.2 x4) / 64) S (fun S_43 => wC_X3_worked_18 post n (some a_4) x3 (x4 + 1) S_43)) ∧ ((k_rem (k_at B_5.2.2.2.1.1 B_5.2.2.2.1.2 x4) 64) = 46 → wC_X3_pop S (fun r_45 S_46 => wC_X3_push (-r_45) S_46 (fun S_48 => wC_X3_worked_18 post n (some a_4) x3 (x4 + 1) S_48))) ∧ ((k_rem (k_at B_5.2.2.2.1.1 B_5.2.2.2.1.2 x4) 64) = 47 → wC_X3_push (k_at 12 (cx_l_named S) ((k_at B_5.2.2.2.1.1 B_5.2.2.2.1.2 x4) / 64)) S (fun S_51 => wC_X3_worked_18 post n (some a_4) x3 (x4 + 1) S_51)) ∧ (¬ (k_rem (k_at B_5.2.2.2.1.1 B_5.2.2.2.1.2 x4) 64) = 20 → ¬ (k_rem (k_at B_5.2.2.2.1.1 B_5.2.2.2.1.2 x4) 64) = 22 → ¬ (k_rem (k_at B_5.2.2.2.1.1 B_5.2.2.2.1.2 x4) 64) = 23 → ¬ (k_rem (k_at B_5.2.2.2.1.1 B_5.2.2.2.1.2 x4) 64) = 29 → ¬ (k_rem (k_at B_5.2.2.2.1.1 B_5.2.2.2.1.2 x4) 64) = 32 → ¬ (k_rem (k_at B_5.2.2.2.1.1 B_5.2.2.2.1.2 x4) 64) = 46 → ¬ (k_rem (k_at B_5.2.2.2.1.1 B_5.2.2.2.1.2 x4) 64) = 47 → wC_X3_pop S (fun r_53 S_54 => wC_X3_pop S_54 (fun r_55 S_56 => wC_X3_joined (k_rem (k_at B_5.2.2.2.1.1 B_5.2.2.2.1.2 x4) 64) r_55 r_53 S_56 (fun r_57 S_58 => wC_X3_push r_57 S_58 (fun S_60 => wC_X3_worked_18 post n (some a_4) x3 (x4 + 1) S_60)))))))))))
def wC_X3_worked (p1 : Option Nat) (p2 : Int32) (S : CS) (post : Int32 → CS → Prop) : Prop := (∀ S_1 : CS, S_1 = (cx_set_l_height S 0) → (∃ a_2 : Nat, p1 = some a_2 ∧ (∃ B_3 : TB, (a_2, B_3) ∈ cx_px S_1 ∧ wC_X9_stopOf a_2 p2 S_1 (fun r_4 S_5 => (∃ B_6 : TB, (a_2, B_6) ∈ cx_px S_5 ∧ wC_X9_startOf a_2 p2 S_5 (fun r_7 S_8 => ∃ k_ : Nat, wC_X3_worked_18 post k_ (some a_2) r_4 r_7 S_8))))))
set_option maxHeartbeats 4000000 in
set_option maxRecDepth 100000 in
theorem cC_X3_worked (l : Launch) (D : va_G) (h : Nat → Nat) (cy : Nat → ClassId) (p1 : Option Nat) (p2 : Int32) (S : CS) (post : Int32 → CS → Prop) (hw : wC_X3_worked p1 p2 S post) : e_Mi clE l yX3_worked wsX3_worked { frames := 2, cells := 0, slots := 0, locals := 44 } D (tyC cy) (wC h cy) [.ref (h 6), va_rf p1, .int p2] S post := by
  intro sz
  refine Met.ofW (cc := cX3_worked) (maxL := 13) (ret := (some .int)) (by decide) rfl ?_
  intro p e s m args below meth c s₁ B hml hv
  obtain ⟨rfl, hsz, hP, hK, hD0, hs⟩ := hv
  have hx := B.exec
  have hb := B.bytes
  have hr := B.returns
  have hts := atoms_spec (ws := wsX3_worked) B.pre
  have hown : s.vm.findClass RX3 = some m.cls := findClass_of_methodNamed B.named
  have hlocks := B.notSynchronized
  subst hsz
  have hD := hD0.self (sz := s.heap.size)
  generalize hAe : va_A (wC h cy S) s.heap.size = A at hD hs ⊢
  have hA : ∀ q : Nat, s.heap.size ≤ q → A q := fun q h => by rw [← hAe]; exact Or.inr h
  have hS : va_S A s.heap s.heap [] := va_S.rf
  have hin3 : ∀ w ∈ wsX30, w ∈ wsX3_worked := fun _ h => List.mem_cons_of_mem _ (List.mem_append_left _ (List.mem_append_left _ (List.mem_append_right _ h)))
  have hin9 : ∀ w ∈ wsX90, w ∈ wsX3_worked := fun _ h => List.mem_cons_of_mem _ (List.mem_append_left _ (List.mem_append_right _ h))
  have hin0 : ∀ w ∈ wsX00, w ∈ wsX3_worked := fun _ h => List.mem_cons_of_mem _ (List.mem_append_right _ h)
  have w18 := hts (.fieldLink RX3 18 "ClownsMourn$Laws" "height" "I") (List.mem_of_getElem? (i := 1) rfl)
  have w9 := hts (.fieldLink RX3 9 "ClownsMourn$Laws" "named" "[I") (List.mem_of_getElem? (i := 2) rfl)
  have wiX11 := hts (.initialized RX11) (List.mem_of_getElem? (i := 10) rfl)
  have wstat := hts (.static yX11_at) (List.mem_of_getElem? (i := 9) rfl)
  have wstheld := hts (.static yX11_held) (List.mem_of_getElem? (i := 34) rfl)
  have hl := lv_entry ([.ref (h 6), va_rf p1, .int p2]) (n := 13) (by cases p1 <;> exact Nat.le_of_ble_eq_true rfl)
  rw [lg_entry_eq]
  generalize (lg_sl ([.ref (h 6), va_rf p1, .int p2]) ++ List.replicate (13 - (lg_sl ([.ref (h 6), va_rf p1, .int p2])).length) Slot.unset).toArray = ls at hl ⊢
  have hl : lv_has ls 13 [(0, .ref (h 6)), (1, va_rf p1), (2, .int p2)] := by cases p1 <;> exact hl
  unfold wC_X3_worked at hw
  clear hD0
  have L_18 : ∀ (n18 : Nat) (x1 : Option Nat) (x3 : Int32) (x4 : Int32) (S : CS) (H : Heap) (locs : List Loc) (ls : Array Slot), wC_X3_worked_18 post n18 x1 x3 x4 S → va_P D vwCl (wC h cy S) H → va_D A (wC h cy S) → va_S A s.heap H locs → lv_has ls 13 [(0, .ref (h 6)), (1, va_rf x1), (3, .int x3), (4, .int x4)] → W p l e (headSpec wsX3_worked { frames := 2, cells := 0, slots := 0, locals := 44 }).room s m (([.ref (h 6), va_rf p1, .int p2] : List Value).toArray) below meth c H locs 0 0 (MQ below (va_Qi post (k_Post D (tyC cy) (wC h cy) A) A) (([.ref (h 6), va_rf p1, .int p2] : List Value).toArray) s 0 0 A) (F0 m 18 ls []) := by
    intro n18
    induction n18 with
    | zero => intro x1 x3 x4 S H locs ls hw; exact False.elim hw
    | succ n18 ih_18 =>
      intro x1 x3 x4 S H locs ls hw hP hD hS hl
      unfold wC_X3_worked_18 at hw
      refine lv_iload hx hb dX3_worked_18 (lv_at hl 3 rfl) ?_
      refine lv_iload_n hx hb dX3_worked_20 rfl (lv_at hl 2 rfl) ?_
      obtain ⟨hc_1t, hc_1f⟩ := hw
      refine lv_icmp_ge (tgt := 272) hx hb dX3_worked_21 (by decide) (fun c_1 => ?_) (fun c_1 => ?_)
      · have hw := hc_1t c_1
        clear hc_1t hc_1f
        refine lv_aload_n hx hb dX3_worked_272 rfl (lv_at hl 0 rfl) ?_
        refine e_callVi (As := []) (rest := []) clE_stable hs ⟨hx, hb, hml, hown, hts⟩ (cC_X3_pop l D h cy _ _ hw) (cwV 0 hts gX3_worked_X3_pop rfl rfl rfl (by decide +kernel) ⟨Nat.le_of_ble_eq_true rfl, Nat.le_of_ble_eq_true rfl⟩) (va_recv hK hP (ci := 3) (q0 := 6) rfl rfl) hK hP hD hS hA rfl hl.1 rfl (Nat.le_of_ble_eq_true rfl) dX3_worked_273 ⟨Nat.zero_le _, Nat.zero_le _⟩ (fun r_2 S_3 H locs hw hP hD hS => ?_)
        exact W.iret (v := r_2) hx hb hr (fun t ht hW => ⟨⟨r_2, S_3, rfl, hw, by rw [ht]; exact hP, va_K.moved hW.alike hK, hD⟩, hS.F ht⟩) hS.2.2 dX3_worked_276
      · have hw := hc_1f c_1
        clear hc_1t hc_1f
        refine k_aload_nq hx hb dX3_worked_24 rfl (lv_at hl 1 rfl) ?_
        obtain ⟨a_4, ha_4, hw⟩ := hw
        subst ha_4
        have hl : lv_has ls 13 [(0, .ref (h 6)), (1, .ref a_4), (3, .int x3), (4, .int x4)] := hl
        obtain ⟨B_5, hmB_5, hw⟩ := hw
        obtain ⟨qB_5, hqB_5⟩ := px_obj (h := h) (cy := cy) hmB_5
        refine va_getN (D := D) (ci := 9) (v := .ref B_5.2.1.2.1) (C := RX9) (T := TX9) (N := 4) hx hb hts hin9 hown hK hP qB_5 hqB_5 rfl 2 (by decide) (va_Nw.use rfl hs.1.2.2.2.2.2.2.2.2.2.2.2.2.2.2.2.2.2.2.2.2.2.2.2.2.2.2.2.2.1) (fun _ h9 => h9) rfl dX3_worked_25 ?_
        refine lv_iload hx hb dX3_worked_28 (lv_at hl 3 rfl) ?_
        obtain ⟨hnq_6, hw⟩ := hw
        obtain ⟨q_6, hq_6⟩ := px_r2 (h := h) (cy := cy) hmB_5
        refine e_callNi (As := [.ref B_5.2.1.2.1, .int x4]) (rest := []) clE_stable hs ⟨hx, hb, hml, hown, hts⟩ (cA_at l D clE (tyC cy) (wC h cy) S q_6 24 _ _ B_5.2.2.2.1.1 B_5.2.2.2.1.2 hq_6 rfl hnq_6 _ (fun r S0 => r = k_at B_5.2.2.2.1.1 B_5.2.2.2.1.2 x4 ∧ S = S0) ⟨rfl, rfl⟩) ⟨va_cnB 2 hts gX3_worked_X11_at_n44 rfl rfl rfl hs.1.2.2.2.2.2.2.2.2.2.2.2.2.2.2.1 wiX11 (by decide +kernel) ⟨Nat.le_of_ble_eq_true rfl, Nat.le_of_ble_eq_true rfl⟩, wstat, trivial⟩ hK hP hD hS hA rfl hl.1 rfl (Nat.le_of_ble_eq_true rfl) dX3_worked_30 ⟨Nat.zero_le _, Nat.zero_le _⟩ (fun r_ S_ H locs hq hP hD hS => ?_)
        obtain ⟨rfl, rfl⟩ := hq
        refine lv_istore (lv' := [(5, .int (k_at B_5.2.2.2.1.1 B_5.2.2.2.1.2 x4)), (0, .ref (h 6)), (1, .ref a_4), (3, .int x3), (4, .int x4)]) hx hb dX3_worked_33 hl (by decide) rfl (fun ls hl => ?_)
        refine lv_iload hx hb dX3_worked_35 (lv_at hl 0 rfl) ?_
        refine lv_bipush (v := 64) hx hb dX3_worked_37 (by decide) ?_
        refine lv_idiv hx hb dX3_worked_39 (by decide) ?_
        refine lv_istore (lv' := [(6, .int ((k_at B_5.2.2.2.1.1 B_5.2.2.2.1.2 x4) / 64)), (5, .int (k_at B_5.2.2.2.1.1 B_5.2.2.2.1.2 x4)), (0, .ref (h 6)), (1, .ref a_4), (3, .int x3), (4, .int x4)]) hx hb dX3_worked_40 hl (by decide) rfl (fun ls hl => ?_)
        refine lv_iload hx hb dX3_worked_42 (lv_at hl 1 rfl) ?_
        refine lv_bipush (v := 64) hx hb dX3_worked_44 (by decide) ?_
        refine k_irem hx hb dX3_worked_46 (by decide) ?_
        refine lv_istore (lv' := [(7, .int (k_rem (k_at B_5.2.2.2.1.1 B_5.2.2.2.1.2 x4) 64)), (6, .int ((k_at B_5.2.2.2.1.1 B_5.2.2.2.1.2 x4) / 64)), (5, .int (k_at B_5.2.2.2.1.1 B_5.2.2.2.1.2 x4)), (0, .ref (h 6)), (1, .ref a_4), (3, .int x3), (4, .int x4)]) hx hb dX3_worked_47 hl (by decide) rfl (fun ls hl => ?_)
        refine lv_iload hx hb dX3_worked_49 (lv_at hl 0 rfl) ?_
        obtain ⟨hc_17, hw⟩ := hw
        by_cases c_17 : (k_rem (k_at B_5.2.2.2.1.1 B_5.2.2.2.1.2 x4) 64) = 20
        · have hw := hc_17 c_17
          refine lv_lookup (off := 130) (tgt := 181) hx hb dX3_worked_51 (by decide) (by rw [c_17]; decide) (by decide) ?_
          refine lv_aload_n hx hb dX3_worked_181 rfl (lv_at hl 3 rfl) ?_
          refine e_callVi (As := []) (rest := []) clE_stable hs ⟨hx, hb, hml, hown, hts⟩ (cC_X3_pop l D h cy _ _ hw) (cwV 0 hts gX3_worked_X3_pop rfl rfl rfl (by decide +kernel) ⟨Nat.le_of_ble_eq_true rfl, Nat.le_of_ble_eq_true rfl⟩) (va_recv hK hP (ci := 3) (q0 := 6) rfl rfl) hK hP hD hS hA rfl hl.1 rfl (Nat.le_of_ble_eq_true rfl) dX3_worked_182 ⟨Nat.zero_le _, Nat.zero_le _⟩ (fun r_7 S_8 H locs hw hP hD hS => ?_)
          refine lv_istore (lv' := [(8, .int r_7), (7, .int (k_rem (k_at B_5.2.2.2.1.1 B_5.2.2.2.1.2 x4) 64)), (6, .int ((k_at B_5.2.2.2.1.1 B_5.2.2.2.1.2 x4) / 64)), (5, .int (k_at B_5.2.2.2.1.1 B_5.2.2.2.1.2 x4)), (0, .ref (h 6)), (1, .ref a_4), (3, .int x3), (4, .int x4)]) hx hb dX3_worked_185 hl (by decide) rfl (fun ls hl => ?_)
          refine lv_aload_n hx hb dX3_worked_187 rfl (lv_at hl 4 rfl) ?_
          refine e_callVi (As := []) (rest := []) clE_stable hs ⟨hx, hb, hml, hown, hts⟩ (cC_X3_pop l D h cy _ _ hw) (cwV 0 hts gX3_worked_X3_pop rfl rfl rfl (by decide +kernel) ⟨Nat.le_of_ble_eq_true rfl, Nat.le_of_ble_eq_true rfl⟩) (va_recv hK hP (ci := 3) (q0 := 6) rfl rfl) hK hP hD hS hA rfl hl.1 rfl (Nat.le_of_ble_eq_true rfl) dX3_worked_188 ⟨Nat.zero_le _, Nat.zero_le _⟩ (fun r_9 S_10 H locs hw hP hD hS => ?_)
          refine lv_istore (lv' := [(9, .int r_9), (8, .int r_7), (7, .int (k_rem (k_at B_5.2.2.2.1.1 B_5.2.2.2.1.2 x4) 64)), (6, .int ((k_at B_5.2.2.2.1.1 B_5.2.2.2.1.2 x4) / 64)), (5, .int (k_at B_5.2.2.2.1.1 B_5.2.2.2.1.2 x4)), (0, .ref (h 6)), (1, .ref a_4), (3, .int x3), (4, .int x4)]) hx hb dX3_worked_191 hl (by decide) rfl (fun ls hl => ?_)
          refine lv_aload_n hx hb dX3_worked_193 rfl (lv_at hl 5 rfl) ?_
          refine lv_aload_n hx hb dX3_worked_194 rfl (lv_at hl 5 rfl) ?_
          refine e_callVi (As := []) (rest := [.ref (h 6)]) clE_stable hs ⟨hx, hb, hml, hown, hts⟩ (cC_X3_pop l D h cy _ _ hw) (cwV 0 hts gX3_worked_X3_pop rfl rfl rfl (by decide +kernel) ⟨Nat.le_of_ble_eq_true rfl, Nat.le_of_ble_eq_true rfl⟩) (va_recv hK hP (ci := 3) (q0 := 6) rfl rfl) hK hP hD hS hA rfl hl.1 rfl (Nat.le_of_ble_eq_true rfl) dX3_worked_195 ⟨Nat.zero_le _, Nat.zero_le _⟩ (fun r_11 S_12 H locs hw hP hD hS => ?_)
          refine lv_iload hx hb dX3_worked_198 (lv_at hl 0 rfl) ?_
          refine lv_iload hx hb dX3_worked_200 (lv_at hl 1 rfl) ?_
          refine e_callNi (As := [.int r_11, .int r_9, .int r_7]) (rest := [.ref (h 6)]) clE_stable hs ⟨hx, hb, hml, hown, hts⟩ (cC_X11_held l D h cy _ _ _ _ _ hw) ⟨va_cnB 3 hts gX3_worked_X11_held_n66 rfl rfl rfl hs.1.2.2.2.2.2.2.2.2.2.2.2.2.2.2.2.2.1 wiX11 (by decide +kernel) ⟨Nat.le_of_ble_eq_true rfl, Nat.le_of_ble_eq_true rfl⟩, wstheld, trivial⟩ hK hP hD hS hA rfl hl.1 rfl (Nat.le_of_ble_eq_true rfl) dX3_worked_202 ⟨Nat.zero_le _, Nat.zero_le _⟩ (fun r_13 S_14 H locs hw hP hD hS => ?_)
          refine e_callVv (As := [.int r_13]) (rest := []) clE_stable hs ⟨hx, hb, hml, hown, hts⟩ (cC_X3_push l D h cy _ _ _ hw) (cwV 1 hts gX3_worked_X3_push rfl rfl rfl (by decide +kernel) ⟨Nat.le_of_ble_eq_true rfl, Nat.le_of_ble_eq_true rfl⟩) (va_recv hK hP (ci := 3) (q0 := 6) rfl rfl) hK hP hD hS hA rfl hl.1 rfl (Nat.le_of_ble_eq_true rfl) dX3_worked_205 ⟨Nat.zero_le _, Nat.zero_le _⟩ (fun S_16 H locs hw hP hD hS => ?_)
          refine lv_goto (tgt := 266) hx hb dX3_worked_208 (by decide) ?_
          refine lv_iinc (v := x4 + 1) (lv' := [(4, .int (x4 + 1)), (9, .int r_9), (8, .int r_7), (7, .int (k_rem (k_at B_5.2.2.2.1.1 B_5.2.2.2.1.2 x4) 64)), (6, .int ((k_at B_5.2.2.2.1.1 B_5.2.2.2.1.2 x4) / 64)), (5, .int (k_at B_5.2.2.2.1.1 B_5.2.2.2.1.2 x4)), (0, .ref (h 6)), (1, .ref a_4), (3, .int x3)]) hx hb dX3_worked_266 hl (k := 8) rfl (k_inc (by decide)) (by decide) rfl (fun ls hl => ?_)
          refine lv_goto (tgt := 18) hx hb dX3_worked_269 (by decide) ?_
          exact ih_18 (some a_4) x3 (x4 + 1) S_16 _ _ _ hw hP hD hS (lv_sub hl [6, 7, 8, 0] rfl)
        obtain ⟨hc_24, hw⟩ := hw
        by_cases c_24 : (k_rem (k_at B_5.2.2.2.1.1 B_5.2.2.2.1.2 x4) 64) = 22
        · have hw := hc_24 c_24
          refine lv_lookup (off := 115) (tgt := 166) hx hb dX3_worked_51 (by decide) (by rw [c_24]; decide) (by decide) ?_
          refine lv_aload_n hx hb dX3_worked_166 rfl (lv_at hl 3 rfl) ?_
          refine lv_aload_n hx hb dX3_worked_167 rfl (lv_at hl 3 rfl) ?_
          refine lv_aload_n hx hb dX3_worked_168 rfl (lv_at hl 3 rfl) ?_
          refine e_callVi (As := []) (rest := [.ref (h 6), .ref (h 6)]) clE_stable hs ⟨hx, hb, hml, hown, hts⟩ (cC_X3_pop l D h cy _ _ hw) (cwV 0 hts gX3_worked_X3_pop rfl rfl rfl (by decide +kernel) ⟨Nat.le_of_ble_eq_true rfl, Nat.le_of_ble_eq_true rfl⟩) (va_recv hK hP (ci := 3) (q0 := 6) rfl rfl) hK hP hD hS hA rfl hl.1 rfl (Nat.le_of_ble_eq_true rfl) dX3_worked_169 ⟨Nat.zero_le _, Nat.zero_le _⟩ (fun r_18 S_19 H locs hw hP hD hS => ?_)
          refine e_callVi (As := [.int r_18]) (rest := [.ref (h 6)]) clE_stable hs ⟨hx, hb, hml, hown, hts⟩ (cC_X3_moodOf l D h cy _ _ _ hw) (cwV 1 hts gX3_worked_X3_moodOf rfl rfl rfl (by decide +kernel) ⟨Nat.le_of_ble_eq_true rfl, Nat.le_of_ble_eq_true rfl⟩) (va_recv hK hP (ci := 3) (q0 := 6) rfl rfl) hK hP hD hS hA rfl hl.1 rfl (Nat.le_of_ble_eq_true rfl) dX3_worked_172 ⟨Nat.zero_le _, Nat.zero_le _⟩ (fun r_20 S_21 H locs hw hP hD hS => ?_)
          refine e_callVv (As := [.int r_20]) (rest := []) clE_stable hs ⟨hx, hb, hml, hown, hts⟩ (cC_X3_push l D h cy _ _ _ hw) (cwV 1 hts gX3_worked_X3_push rfl rfl rfl (by decide +kernel) ⟨Nat.le_of_ble_eq_true rfl, Nat.le_of_ble_eq_true rfl⟩) (va_recv hK hP (ci := 3) (q0 := 6) rfl rfl) hK hP hD hS hA rfl hl.1 rfl (Nat.le_of_ble_eq_true rfl) dX3_worked_175 ⟨Nat.zero_le _, Nat.zero_le _⟩ (fun S_23 H locs hw hP hD hS => ?_)
          refine lv_goto (tgt := 266) hx hb dX3_worked_178 (by decide) ?_
          refine lv_iinc (v := x4 + 1) (lv' := [(4, .int (x4 + 1)), (7, .int (k_rem (k_at B_5.2.2.2.1.1 B_5.2.2.2.1.2 x4) 64)), (6, .int ((k_at B_5.2.2.2.1.1 B_5.2.2.2.1.2 x4) / 64)), (5, .int (k_at B_5.2.2.2.1.1 B_5.2.2.2.1.2 x4)), (0, .ref (h 6)), (1, .ref a_4), (3, .int x3)]) hx hb dX3_worked_266 hl (k := 6) rfl (k_inc (by decide)) (by decide) rfl (fun ls hl => ?_)
          refine lv_goto (tgt := 18) hx hb dX3_worked_269 (by decide) ?_
          exact ih_18 (some a_4) x3 (x4 + 1) S_23 _ _ _ hw hP hD hS (lv_sub hl [4, 5, 6, 0] rfl)
        obtain ⟨hc_36, hw⟩ := hw
        by_cases c_36 : (k_rem (k_at B_5.2.2.2.1.1 B_5.2.2.2.1.2 x4) 64) = 23
        · have hw := hc_36 c_36
          refine lv_lookup (off := 160) (tgt := 211) hx hb dX3_worked_51 (by decide) (by rw [c_36]; decide) (by decide) ?_
          refine lv_aload_n hx hb dX3_worked_211 rfl (lv_at hl 3 rfl) ?_
          refine e_callVi (As := []) (rest := []) clE_stable hs ⟨hx, hb, hml, hown, hts⟩ (cC_X3_pop l D h cy _ _ hw) (cwV 0 hts gX3_worked_X3_pop rfl rfl rfl (by decide +kernel) ⟨Nat.le_of_ble_eq_true rfl, Nat.le_of_ble_eq_true rfl⟩) (va_recv hK hP (ci := 3) (q0 := 6) rfl rfl) hK hP hD hS hA rfl hl.1 rfl (Nat.le_of_ble_eq_true rfl) dX3_worked_212 ⟨Nat.zero_le _, Nat.zero_le _⟩ (fun r_25 S_26 H locs hw hP hD hS => ?_)
          refine lv_istore (lv' := [(10, .int r_25), (7, .int (k_rem (k_at B_5.2.2.2.1.1 B_5.2.2.2.1.2 x4) 64)), (6, .int ((k_at B_5.2.2.2.1.1 B_5.2.2.2.1.2 x4) / 64)), (5, .int (k_at B_5.2.2.2.1.1 B_5.2.2.2.1.2 x4)), (0, .ref (h 6)), (1, .ref a_4), (3, .int x3), (4, .int x4)]) hx hb dX3_worked_215 hl (by decide) rfl (fun ls hl => ?_)
          refine lv_aload_n hx hb dX3_worked_217 rfl (lv_at hl 4 rfl) ?_
          refine e_callVi (As := []) (rest := []) clE_stable hs ⟨hx, hb, hml, hown, hts⟩ (cC_X3_pop l D h cy _ _ hw) (cwV 0 hts gX3_worked_X3_pop rfl rfl rfl (by decide +kernel) ⟨Nat.le_of_ble_eq_true rfl, Nat.le_of_ble_eq_true rfl⟩) (va_recv hK hP (ci := 3) (q0 := 6) rfl rfl) hK hP hD hS hA rfl hl.1 rfl (Nat.le_of_ble_eq_true rfl) dX3_worked_218 ⟨Nat.zero_le _, Nat.zero_le _⟩ (fun r_27 S_28 H locs hw hP hD hS => ?_)
          refine lv_istore (lv' := [(11, .int r_27), (10, .int r_25), (7, .int (k_rem (k_at B_5.2.2.2.1.1 B_5.2.2.2.1.2 x4) 64)), (6, .int ((k_at B_5.2.2.2.1.1 B_5.2.2.2.1.2 x4) / 64)), (5, .int (k_at B_5.2.2.2.1.1 B_5.2.2.2.1.2 x4)), (0, .ref (h 6)), (1, .ref a_4), (3, .int x3), (4, .int x4)]) hx hb dX3_worked_221 hl (by decide) rfl (fun ls hl => ?_)
          refine lv_aload_n hx hb dX3_worked_223 rfl (lv_at hl 5 rfl) ?_
          refine lv_aload_n hx hb dX3_worked_224 rfl (lv_at hl 5 rfl) ?_
          refine e_callVi (As := []) (rest := [.ref (h 6)]) clE_stable hs ⟨hx, hb, hml, hown, hts⟩ (cC_X3_pop l D h cy _ _ hw) (cwV 0 hts gX3_worked_X3_pop rfl rfl rfl (by decide +kernel) ⟨Nat.le_of_ble_eq_true rfl, Nat.le_of_ble_eq_true rfl⟩) (va_recv hK hP (ci := 3) (q0 := 6) rfl rfl) hK hP hD hS hA rfl hl.1 rfl (Nat.le_of_ble_eq_true rfl) dX3_worked_225 ⟨Nat.zero_le _, Nat.zero_le _⟩ (fun r_29 S_30 H locs hw hP hD hS => ?_)
          refine lv_iconst (v := 1) hx hb dX3_worked_228 (by decide) ?_
          obtain ⟨hc_31t, hc_31f⟩ := hw
          refine lv_icmp_ne (tgt := 237) hx hb dX3_worked_229 (by decide) (fun c_31 => ?_) (fun c_31 => ?_)
          · have hw := hc_31f c_31
            clear hc_31t hc_31f
            refine lv_iload hx hb dX3_worked_237 (lv_at hl 1 rfl) ?_
            refine e_callVv (As := [.int r_25]) (rest := []) clE_stable hs ⟨hx, hb, hml, hown, hts⟩ (cC_X3_push l D h cy _ _ _ hw) (cwV 1 hts gX3_worked_X3_push rfl rfl rfl (by decide +kernel) ⟨Nat.le_of_ble_eq_true rfl, Nat.le_of_ble_eq_true rfl⟩) (va_recv hK hP (ci := 3) (q0 := 6) rfl rfl) hK hP hD hS hA rfl hl.1 rfl (Nat.le_of_ble_eq_true rfl) dX3_worked_239 ⟨Nat.zero_le _, Nat.zero_le _⟩ (fun S_33 H locs hw hP hD hS => ?_)
            refine lv_goto (tgt := 266) hx hb dX3_worked_242 (by decide) ?_
            refine lv_iinc (v := x4 + 1) (lv' := [(4, .int (x4 + 1)), (11, .int r_27), (10, .int r_25), (7, .int (k_rem (k_at B_5.2.2.2.1.1 B_5.2.2.2.1.2 x4) 64)), (6, .int ((k_at B_5.2.2.2.1.1 B_5.2.2.2.1.2 x4) / 64)), (5, .int (k_at B_5.2.2.2.1.1 B_5.2.2.2.1.2 x4)), (0, .ref (h 6)), (1, .ref a_4), (3, .int x3)]) hx hb dX3_worked_266 hl (k := 8) rfl (k_inc (by decide)) (by decide) rfl (fun ls hl => ?_)
            refine lv_goto (tgt := 18) hx hb dX3_worked_269 (by decide) ?_
            exact ih_18 (some a_4) x3 (x4 + 1) S_33 _ _ _ hw hP hD hS (lv_sub hl [6, 7, 8, 0] rfl)
          · have hw := hc_31t c_31
            clear hc_31t hc_31f
            refine lv_iload hx hb dX3_worked_232 (lv_at hl 0 rfl) ?_
            refine lv_goto (tgt := 239) hx hb dX3_worked_234 (by decide) ?_
            refine e_callVv (As := [.int r_27]) (rest := []) clE_stable hs ⟨hx, hb, hml, hown, hts⟩ (cC_X3_push l D h cy _ _ _ hw) (cwV 1 hts gX3_worked_X3_push rfl rfl rfl (by decide +kernel) ⟨Nat.le_of_ble_eq_true rfl, Nat.le_of_ble_eq_true rfl⟩) (va_recv hK hP (ci := 3) (q0 := 6) rfl rfl) hK hP hD hS hA rfl hl.1 rfl (Nat.le_of_ble_eq_true rfl) dX3_worked_239 ⟨Nat.zero_le _, Nat.zero_le _⟩ (fun S_35 H locs hw hP hD hS => ?_)
            refine lv_goto (tgt := 266) hx hb dX3_worked_242 (by decide) ?_
            refine lv_iinc (v := x4 + 1) (lv' := [(4, .int (x4 + 1)), (11, .int r_27), (10, .int r_25), (7, .int (k_rem (k_at B_5.2.2.2.1.1 B_5.2.2.2.1.2 x4) 64)), (6, .int ((k_at B_5.2.2.2.1.1 B_5.2.2.2.1.2 x4) / 64)), (5, .int (k_at B_5.2.2.2.1.1 B_5.2.2.2.1.2 x4)), (0, .ref (h 6)), (1, .ref a_4), (3, .int x3)]) hx hb dX3_worked_266 hl (k := 8) rfl (k_inc (by decide)) (by decide) rfl (fun ls hl => ?_)
            refine lv_goto (tgt := 18) hx hb dX3_worked_269 (by decide) ?_
            exact ih_18 (some a_4) x3 (x4 + 1) S_35 _ _ _ hw hP hD hS (lv_sub hl [6, 7, 8, 0] rfl)
        obtain ⟨hc_41, hw⟩ := hw
        by_cases c_41 : (k_rem (k_at B_5.2.2.2.1.1 B_5.2.2.2.1.2 x4) 64) = 29
        · have hw := hc_41 c_41
          refine lv_lookup (off := 102) (tgt := 153) hx hb dX3_worked_51 (by decide) (by rw [c_41]; decide) (by decide) ?_
          refine lv_aload_n hx hb dX3_worked_153 rfl (lv_at hl 3 rfl) ?_
          refine lv_iconst (v := 1) hx hb dX3_worked_154 (by decide) ?_
          refine lv_aload_n hx hb dX3_worked_155 rfl (lv_at hl 3 rfl) ?_
          refine e_callVi (As := []) (rest := [.int 1, .ref (h 6)]) clE_stable hs ⟨hx, hb, hml, hown, hts⟩ (cC_X3_pop l D h cy _ _ hw) (cwV 0 hts gX3_worked_X3_pop rfl rfl rfl (by decide +kernel) ⟨Nat.le_of_ble_eq_true rfl, Nat.le_of_ble_eq_true rfl⟩) (va_recv hK hP (ci := 3) (q0 := 6) rfl rfl) hK hP hD hS hA rfl hl.1 rfl (Nat.le_of_ble_eq_true rfl) dX3_worked_156 ⟨Nat.zero_le _, Nat.zero_le _⟩ (fun r_37 S_38 H locs hw hP hD hS => ?_)
          refine lv_isub hx hb dX3_worked_159 ?_
          refine e_callVv (As := [.int (1 - r_37)]) (rest := []) clE_stable hs ⟨hx, hb, hml, hown, hts⟩ (cC_X3_push l D h cy _ _ _ hw) (cwV 1 hts gX3_worked_X3_push rfl rfl rfl (by decide +kernel) ⟨Nat.le_of_ble_eq_true rfl, Nat.le_of_ble_eq_true rfl⟩) (va_recv hK hP (ci := 3) (q0 := 6) rfl rfl) hK hP hD hS hA rfl hl.1 rfl (Nat.le_of_ble_eq_true rfl) dX3_worked_160 ⟨Nat.zero_le _, Nat.zero_le _⟩ (fun S_40 H locs hw hP hD hS => ?_)
          refine lv_goto (tgt := 266) hx hb dX3_worked_163 (by decide) ?_
          refine lv_iinc (v := x4 + 1) (lv' := [(4, .int (x4 + 1)), (7, .int (k_rem (k_at B_5.2.2.2.1.1 B_5.2.2.2.1.2 x4) 64)), (6, .int ((k_at B_5.2.2.2.1.1 B_5.2.2.2.1.2 x4) / 64)), (5, .int (k_at B_5.2.2.2.1.1 B_5.2.2.2.1.2 x4)), (0, .ref (h 6)), (1, .ref a_4), (3, .int x3)]) hx hb dX3_worked_266 hl (k := 6) rfl (k_inc (by decide)) (by decide) rfl (fun ls hl => ?_)
          refine lv_goto (tgt := 18) hx hb dX3_worked_269 (by decide) ?_
          exact ih_18 (some a_4) x3 (x4 + 1) S_40 _ _ _ hw hP hD hS (lv_sub hl [4, 5, 6, 0] rfl)
        obtain ⟨hc_44, hw⟩ := hw
        by_cases c_44 : (k_rem (k_at B_5.2.2.2.1.1 B_5.2.2.2.1.2 x4) 64) = 32
        · have hw := hc_44 c_44
          refine lv_lookup (off := 65) (tgt := 116) hx hb dX3_worked_51 (by decide) (by rw [c_44]; decide) (by decide) ?_
          refine lv_aload_n hx hb dX3_worked_116 rfl (lv_at hl 3 rfl) ?_
          refine lv_iload hx hb dX3_worked_117 (lv_at hl 1 rfl) ?_
          refine e_callVv (As := [.int ((k_at B_5.2.2.2.1.1 B_5.2.2.2.1.2 x4) / 64)]) (rest := []) clE_stable hs ⟨hx, hb, hml, hown, hts⟩ (cC_X3_push l D h cy _ _ _ hw) (cwV 1 hts gX3_worked_X3_push rfl rfl rfl (by decide +kernel) ⟨Nat.le_of_ble_eq_true rfl, Nat.le_of_ble_eq_true rfl⟩) (va_recv hK hP (ci := 3) (q0 := 6) rfl rfl) hK hP hD hS hA rfl hl.1 rfl (Nat.le_of_ble_eq_true rfl) dX3_worked_119 ⟨Nat.zero_le _, Nat.zero_le _⟩ (fun S_43 H locs hw hP hD hS => ?_)
          refine lv_goto (tgt := 266) hx hb dX3_worked_122 (by decide) ?_
          refine lv_iinc (v := x4 + 1) (lv' := [(4, .int (x4 + 1)), (7, .int (k_rem (k_at B_5.2.2.2.1.1 B_5.2.2.2.1.2 x4) 64)), (6, .int ((k_at B_5.2.2.2.1.1 B_5.2.2.2.1.2 x4) / 64)), (5, .int (k_at B_5.2.2.2.1.1 B_5.2.2.2.1.2 x4)), (0, .ref (h 6)), (1, .ref a_4), (3, .int x3)]) hx hb dX3_worked_266 hl (k := 6) rfl (k_inc (by decide)) (by decide) rfl (fun ls hl => ?_)
          refine lv_goto (tgt := 18) hx hb dX3_worked_269 (by decide) ?_
          exact ih_18 (some a_4) x3 (x4 + 1) S_43 _ _ _ hw hP hD hS (lv_sub hl [4, 5, 6, 0] rfl)
        obtain ⟨hc_49, hw⟩ := hw
        by_cases c_49 : (k_rem (k_at B_5.2.2.2.1.1 B_5.2.2.2.1.2 x4) 64) = 46
        · have hw := hc_49 c_49
          refine lv_lookup (off := 90) (tgt := 141) hx hb dX3_worked_51 (by decide) (by rw [c_49]; decide) (by decide) ?_
          refine lv_aload_n hx hb dX3_worked_141 rfl (lv_at hl 3 rfl) ?_
          refine lv_aload_n hx hb dX3_worked_142 rfl (lv_at hl 3 rfl) ?_
          refine e_callVi (As := []) (rest := [.ref (h 6)]) clE_stable hs ⟨hx, hb, hml, hown, hts⟩ (cC_X3_pop l D h cy _ _ hw) (cwV 0 hts gX3_worked_X3_pop rfl rfl rfl (by decide +kernel) ⟨Nat.le_of_ble_eq_true rfl, Nat.le_of_ble_eq_true rfl⟩) (va_recv hK hP (ci := 3) (q0 := 6) rfl rfl) hK hP hD hS hA rfl hl.1 rfl (Nat.le_of_ble_eq_true rfl) dX3_worked_143 ⟨Nat.zero_le _, Nat.zero_le _⟩ (fun r_45 S_46 H locs hw hP hD hS => ?_)
          refine lv_ineg hx hb dX3_worked_146 ?_
          refine e_callVv (As := [.int (-r_45)]) (rest := []) clE_stable hs ⟨hx, hb, hml, hown, hts⟩ (cC_X3_push l D h cy _ _ _ hw) (cwV 1 hts gX3_worked_X3_push rfl rfl rfl (by decide +kernel) ⟨Nat.le_of_ble_eq_true rfl, Nat.le_of_ble_eq_true rfl⟩) (va_recv hK hP (ci := 3) (q0 := 6) rfl rfl) hK hP hD hS hA rfl hl.1 rfl (Nat.le_of_ble_eq_true rfl) dX3_worked_147 ⟨Nat.zero_le _, Nat.zero_le _⟩ (fun S_48 H locs hw hP hD hS => ?_)
          refine lv_goto (tgt := 266) hx hb dX3_worked_150 (by decide) ?_
          refine lv_iinc (v := x4 + 1) (lv' := [(4, .int (x4 + 1)), (7, .int (k_rem (k_at B_5.2.2.2.1.1 B_5.2.2.2.1.2 x4) 64)), (6, .int ((k_at B_5.2.2.2.1.1 B_5.2.2.2.1.2 x4) / 64)), (5, .int (k_at B_5.2.2.2.1.1 B_5.2.2.2.1.2 x4)), (0, .ref (h 6)), (1, .ref a_4), (3, .int x3)]) hx hb dX3_worked_266 hl (k := 6) rfl (k_inc (by decide)) (by decide) rfl (fun ls hl => ?_)
          refine lv_goto (tgt := 18) hx hb dX3_worked_269 (by decide) ?_
          exact ih_18 (some a_4) x3 (x4 + 1) S_48 _ _ _ hw hP hD hS (lv_sub hl [4, 5, 6, 0] rfl)
        obtain ⟨hc_52, hw⟩ := hw
        by_cases c_52 : (k_rem (k_at B_5.2.2.2.1.1 B_5.2.2.2.1.2 x4) 64) = 47
        · have hw := hc_52 c_52
          refine lv_lookup (off := 74) (tgt := 125) hx hb dX3_worked_51 (by decide) (by rw [c_52]; decide) (by decide) ?_
          refine lv_aload_n hx hb dX3_worked_125 rfl (lv_at hl 3 rfl) ?_
          refine lv_aload_n hx hb dX3_worked_126 rfl (lv_at hl 3 rfl) ?_
          refine va_get (D := D) (ci := 3) (v := .ref (h 40)) (C := RX3) (T := TX3) (N := 4) hx hb hts hin3 hown hK hP 6 rfl rfl 1 (by decide) w9 (fun _ h9 => h9) rfl dX3_worked_127 ?_
          refine lv_iload hx hb dX3_worked_130 (lv_at hl 1 rfl) ?_
          refine e_callNi (As := [.ref (h 40), .int ((k_at B_5.2.2.2.1.1 B_5.2.2.2.1.2 x4) / 64)]) (rest := [.ref (h 6)]) clE_stable hs ⟨hx, hb, hml, hown, hts⟩ (cA_at l D clE (tyC cy) (wC h cy) S 40 28 _ _ 12 (cx_l_named S) rfl rfl (by decide) _ (fun r S0 => r = k_at 12 (cx_l_named S) ((k_at B_5.2.2.2.1.1 B_5.2.2.2.1.2 x4) / 64) ∧ S = S0) ⟨rfl, rfl⟩) ⟨va_cnB 2 hts gX3_worked_X11_at_n44 rfl rfl rfl hs.1.2.2.2.2.2.2.2.2.2.2.2.2.2.2.1 wiX11 (by decide +kernel) ⟨Nat.le_of_ble_eq_true rfl, Nat.le_of_ble_eq_true rfl⟩, wstat, trivial⟩ hK hP hD hS hA rfl hl.1 rfl (Nat.le_of_ble_eq_true rfl) dX3_worked_132 ⟨Nat.zero_le _, Nat.zero_le _⟩ (fun r_ S_ H locs hq hP hD hS => ?_)
          obtain ⟨rfl, rfl⟩ := hq
          refine e_callVv (As := [.int (k_at 12 (cx_l_named S) ((k_at B_5.2.2.2.1.1 B_5.2.2.2.1.2 x4) / 64))]) (rest := []) clE_stable hs ⟨hx, hb, hml, hown, hts⟩ (cC_X3_push l D h cy _ _ _ hw) (cwV 1 hts gX3_worked_X3_push rfl rfl rfl (by decide +kernel) ⟨Nat.le_of_ble_eq_true rfl, Nat.le_of_ble_eq_true rfl⟩) (va_recv hK hP (ci := 3) (q0 := 6) rfl rfl) hK hP hD hS hA rfl hl.1 rfl (Nat.le_of_ble_eq_true rfl) dX3_worked_135 ⟨Nat.zero_le _, Nat.zero_le _⟩ (fun S_51 H locs hw hP hD hS => ?_)
          refine lv_goto (tgt := 266) hx hb dX3_worked_138 (by decide) ?_
          refine lv_iinc (v := x4 + 1) (lv' := [(4, .int (x4 + 1)), (7, .int (k_rem (k_at B_5.2.2.2.1.1 B_5.2.2.2.1.2 x4) 64)), (6, .int ((k_at B_5.2.2.2.1.1 B_5.2.2.2.1.2 x4) / 64)), (5, .int (k_at B_5.2.2.2.1.1 B_5.2.2.2.1.2 x4)), (0, .ref (h 6)), (1, .ref a_4), (3, .int x3)]) hx hb dX3_worked_266 hl (k := 6) rfl (k_inc (by decide)) (by decide) rfl (fun ls hl => ?_)
          refine lv_goto (tgt := 18) hx hb dX3_worked_269 (by decide) ?_
          exact ih_18 (some a_4) x3 (x4 + 1) S_51 _ _ _ hw hP hD hS (lv_sub hl [4, 5, 6, 0] rfl)
        have hw := hw c_17 c_24 c_36 c_41 c_44 c_49 c_52
        have c_17n := lv_neT c_17 (a := 20) (by decide)
        have c_24n := lv_neT c_24 (a := 22) (by decide)
        have c_36n := lv_neT c_36 (a := 23) (by decide)
        have c_41n := lv_neT c_41 (a := 29) (by decide)
        have c_44n := lv_neT c_44 (a := 32) (by decide)
        have c_49n := lv_neT c_49 (a := 46) (by decide)
        have c_52n := lv_neT c_52 (a := 47) (by decide)
        refine lv_lookup (off := 194) (tgt := 245) hx hb dX3_worked_51 (by decide) (by simp [Op.lookupswitch.offset, c_17n, Ne.symm c_17n, c_24n, Ne.symm c_24n, c_36n, Ne.symm c_36n, c_41n, Ne.symm c_41n, c_44n, Ne.symm c_44n, c_49n, Ne.symm c_49n, c_52n, Ne.symm c_52n]) (by decide) ?_
        refine lv_aload_n hx hb dX3_worked_245 rfl (lv_at hl 3 rfl) ?_
        refine e_callVi (As := []) (rest := []) clE_stable hs ⟨hx, hb, hml, hown, hts⟩ (cC_X3_pop l D h cy _ _ hw) (cwV 0 hts gX3_worked_X3_pop rfl rfl rfl (by decide +kernel) ⟨Nat.le_of_ble_eq_true rfl, Nat.le_of_ble_eq_true rfl⟩) (va_recv hK hP (ci := 3) (q0 := 6) rfl rfl) hK hP hD hS hA rfl hl.1 rfl (Nat.le_of_ble_eq_true rfl) dX3_worked_246 ⟨Nat.zero_le _, Nat.zero_le _⟩ (fun r_53 S_54 H locs hw hP hD hS => ?_)
        refine lv_istore (lv' := [(12, .int r_53), (7, .int (k_rem (k_at B_5.2.2.2.1.1 B_5.2.2.2.1.2 x4) 64)), (6, .int ((k_at B_5.2.2.2.1.1 B_5.2.2.2.1.2 x4) / 64)), (5, .int (k_at B_5.2.2.2.1.1 B_5.2.2.2.1.2 x4)), (0, .ref (h 6)), (1, .ref a_4), (3, .int x3), (4, .int x4)]) hx hb dX3_worked_249 hl (by decide) rfl (fun ls hl => ?_)
        refine lv_aload_n hx hb dX3_worked_251 rfl (lv_at hl 4 rfl) ?_
        refine lv_iload hx hb dX3_worked_252 (lv_at hl 1 rfl) ?_
        refine lv_aload_n hx hb dX3_worked_254 rfl (lv_at hl 4 rfl) ?_
        refine e_callVi (As := []) (rest := [.int (k_rem (k_at B_5.2.2.2.1.1 B_5.2.2.2.1.2 x4) 64), .ref (h 6)]) clE_stable hs ⟨hx, hb, hml, hown, hts⟩ (cC_X3_pop l D h cy _ _ hw) (cwV 0 hts gX3_worked_X3_pop rfl rfl rfl (by decide +kernel) ⟨Nat.le_of_ble_eq_true rfl, Nat.le_of_ble_eq_true rfl⟩) (va_recv hK hP (ci := 3) (q0 := 6) rfl rfl) hK hP hD hS hA rfl hl.1 rfl (Nat.le_of_ble_eq_true rfl) dX3_worked_255 ⟨Nat.zero_le _, Nat.zero_le _⟩ (fun r_55 S_56 H locs hw hP hD hS => ?_)
        refine lv_iload hx hb dX3_worked_258 (lv_at hl 0 rfl) ?_
        refine e_callSi (As := [.int (k_rem (k_at B_5.2.2.2.1.1 B_5.2.2.2.1.2 x4) 64), .int r_55, .int r_53]) (rest := [.ref (h 6)]) clE_stable hs ⟨hx, hb, hml, hown, hts⟩ (cC_X3_joined l D h cy _ _ _ _ _ hw) (va_cwS 3 hts gX3_worked_X3_joined rfl rfl rfl (by decide +kernel) ⟨Nat.le_of_ble_eq_true rfl, Nat.le_of_ble_eq_true rfl⟩) hK hP hD hS hA rfl hl.1 rfl (Nat.le_of_ble_eq_true rfl) dX3_worked_260 ⟨Nat.zero_le _, Nat.zero_le _⟩ (fun r_57 S_58 H locs hw hP hD hS => ?_)
        refine e_callVv (As := [.int r_57]) (rest := []) clE_stable hs ⟨hx, hb, hml, hown, hts⟩ (cC_X3_push l D h cy _ _ _ hw) (cwV 1 hts gX3_worked_X3_push rfl rfl rfl (by decide +kernel) ⟨Nat.le_of_ble_eq_true rfl, Nat.le_of_ble_eq_true rfl⟩) (va_recv hK hP (ci := 3) (q0 := 6) rfl rfl) hK hP hD hS hA rfl hl.1 rfl (Nat.le_of_ble_eq_true rfl) dX3_worked_263 ⟨Nat.zero_le _, Nat.zero_le _⟩ (fun S_60 H locs hw hP hD hS => ?_)
        refine lv_iinc (v := x4 + 1) (lv' := [(4, .int (x4 + 1)), (12, .int r_53), (7, .int (k_rem (k_at B_5.2.2.2.1.1 B_5.2.2.2.1.2 x4) 64)), (6, .int ((k_at B_5.2.2.2.1.1 B_5.2.2.2.1.2 x4) / 64)), (5, .int (k_at B_5.2.2.2.1.1 B_5.2.2.2.1.2 x4)), (0, .ref (h 6)), (1, .ref a_4), (3, .int x3)]) hx hb dX3_worked_266 hl (k := 7) rfl (k_inc (by decide)) (by decide) rfl (fun ls hl => ?_)
        refine lv_goto (tgt := 18) hx hb dX3_worked_269 (by decide) ?_
        exact ih_18 (some a_4) x3 (x4 + 1) S_60 _ _ _ hw hP hD hS (lv_sub hl [5, 6, 7, 0] rfl)
  refine lv_aload_n hx hb dX3_worked_0 rfl (lv_at hl 0 rfl) ?_
  refine lv_iconst (v := 0) hx hb dX3_worked_1 (by decide) ?_
  refine va_put (D := D) (ci := 3) (v := .int 0) (ty := .int) (C := RX3) (T := TX3) (N := 4) hx hb hts hin3 tyX3 tyX3_ok nmX3 hown hK hP hD hS 6 rfl rfl 3 (by decide) w18 (fun _ h9 => h9) rfl (tyX3_ok 3 (by decide)) rfl rfl (Nat.le_of_ble_eq_true rfl) dX3_worked_2 (fun H locs hP hD hS => ?_)
  obtain ⟨S_61, eS_61⟩ : ∃ z : CS, z = (cx_set_l_height S 0) := ⟨_, rfl⟩
  replace hw := hw S_61 eS_61
  have hP : va_P D vwCl (wC h cy S_61) H := by rw [eS_61, ← wCp_l_height]; exact hP
  have hD : va_D A (wC h cy S_61) := by rw [eS_61, ← wCp_l_height]; exact hD
  refine k_aload_nq hx hb dX3_worked_5 rfl (lv_at hl 1 rfl) ?_
  refine lv_iload_n hx hb dX3_worked_6 rfl (lv_at hl 2 rfl) ?_
  obtain ⟨a_62, ha_62, hw⟩ := hw
  subst ha_62
  have hl : lv_has ls 13 [(0, .ref (h 6)), (1, .ref a_62), (2, .int p2)] := hl
  obtain ⟨B_63, hmB_63, hw⟩ := hw
  obtain ⟨qB_63, hqB_63⟩ := px_obj (h := h) (cy := cy) hmB_63
  refine e_callVi (As := [.int p2]) (rest := []) clE_stable hs ⟨hx, hb, hml, hown, hts⟩ (cC_X9_stopOf l D h cy _ _ _ _ hw) (cwV 1 hts gX3_worked_X9_stopOf rfl rfl rfl (by decide +kernel) ⟨Nat.le_of_ble_eq_true rfl, Nat.le_of_ble_eq_true rfl⟩) (va_recv hK hP (ci := 9) (q0 := qB_63) rfl hqB_63) hK hP hD hS hA rfl hl.1 rfl (Nat.le_of_ble_eq_true rfl) dX3_worked_7 ⟨Nat.zero_le _, Nat.zero_le _⟩ (fun r_64 S_65 H locs hw hP hD hS => ?_)
  refine lv_istore_n (lv' := [(3, .int r_64), (0, .ref (h 6)), (1, .ref a_62), (2, .int p2)]) hx hb dX3_worked_10 rfl hl (by decide) rfl (fun ls hl => ?_)
  refine lv_aload_n hx hb dX3_worked_11 rfl (lv_at hl 2 rfl) ?_
  refine lv_iload_n hx hb dX3_worked_12 rfl (lv_at hl 3 rfl) ?_
  obtain ⟨B_66, hmB_66, hw⟩ := hw
  obtain ⟨qB_66, hqB_66⟩ := px_obj (h := h) (cy := cy) hmB_66
  refine e_callVi (As := [.int p2]) (rest := []) clE_stable hs ⟨hx, hb, hml, hown, hts⟩ (cC_X9_startOf l D h cy _ _ _ _ hw) (cwV 1 hts gX3_worked_X9_startOf rfl rfl rfl (by decide +kernel) ⟨Nat.le_of_ble_eq_true rfl, Nat.le_of_ble_eq_true rfl⟩) (va_recv hK hP (ci := 9) (q0 := qB_66) rfl hqB_66) hK hP hD hS hA rfl hl.1 rfl (Nat.le_of_ble_eq_true rfl) dX3_worked_13 ⟨Nat.zero_le _, Nat.zero_le _⟩ (fun r_67 S_68 H locs hw hP hD hS => ?_)
  refine lv_istore (lv' := [(4, .int r_67), (3, .int r_64), (0, .ref (h 6)), (1, .ref a_62), (2, .int p2)]) hx hb dX3_worked_16 hl (by decide) rfl (fun ls hl => ?_)
  obtain ⟨n_18, hw⟩ := hw
  exact L_18 n_18 (some a_62) r_64 r_67 S_68 _ _ _ hw hP hD hS (lv_sub hl [2, 3, 1, 0] rfl)
def wC_X3_easing_27 (post : Int32 → CS → Prop) (x1 : Int32) (x2 : Int32) (S : CS) : Prop := post ((k_at 5 (cx_c_skills S) x1) + x2) S
def wC_X3_easing (p1 : Int32) (p2 : Int32) (S : CS) (post : Int32 → CS → Prop) : Prop := wC_X0_textAt (cx_c_ruling S) S (fun r_1 S_2 => ((r_1 = none → wC_X3_easing_27 post p1 p2 S_2) ∧ (∀ a_3 : Nat, r_1 = some a_3 → (∃ B_4 : TB, (a_3, B_4) ∈ cx_px S_2 ∧ wC_X9_hasLaw a_3 0 S_2 (fun r_5 S_6 => ((r_5 = 0 → wC_X3_easing_27 post p1 p2 S_6) ∧ (¬ (r_5 = 0) → wC_X0_see 29 p1 S_6 (fun r_8 S_9 => wC_X3_nameHouse r_8 S_9 (fun S_11 => wC_X3_nameClown p1 p2 S_11 (fun S_13 => wC_X3_worked (some a_3) 0 S_13 (fun r_14 S_15 => wC_X11_held r_14 0 99 S_15 (fun r_16 S_17 => post r_16 S_17))))))))))))
set_option maxHeartbeats 4000000 in
set_option maxRecDepth 100000 in
theorem cC_X3_easing (l : Launch) (D : va_G) (h : Nat → Nat) (cy : Nat → ClassId) (p1 : Int32) (p2 : Int32) (S : CS) (post : Int32 → CS → Prop) (hw : wC_X3_easing p1 p2 S post) : e_Mi clE l yX3_easing wsX3_easing { frames := 3, cells := 0, slots := 0, locals := 76 } D (tyC cy) (wC h cy) [.ref (h 6), .int p1, .int p2] S post := by
  intro sz
  refine Met.ofW (cc := cX3_easing) (maxL := 4) (ret := (some .int)) (by decide) rfl ?_
  intro p e s m args below meth c s₁ B hml hv
  obtain ⟨rfl, hsz, hP, hK, hD0, hs⟩ := hv
  have hx := B.exec
  have hb := B.bytes
  have hr := B.returns
  have hts := atoms_spec (ws := wsX3_easing) B.pre
  have hown : s.vm.findClass RX3 = some m.cls := findClass_of_methodNamed B.named
  have hlocks := B.notSynchronized
  subst hsz
  have hD := hD0.self (sz := s.heap.size)
  generalize hAe : va_A (wC h cy S) s.heap.size = A at hD hs ⊢
  have hA : ∀ q : Nat, s.heap.size ≤ q → A q := fun q h => by rw [← hAe]; exact Or.inr h
  have hS : va_S A s.heap s.heap [] := va_S.rf
  have hin3 : ∀ w ∈ wsX30, w ∈ wsX3_easing := fun _ h => List.mem_cons_of_mem _ (List.mem_append_left _ (List.mem_append_left _ (List.mem_append_right _ h)))
  have hin0 : ∀ w ∈ wsX00, w ∈ wsX3_easing := fun _ h => List.mem_cons_of_mem _ (List.mem_append_left _ (List.mem_append_right _ h))
  have hin9 : ∀ w ∈ wsX90, w ∈ wsX3_easing := fun _ h => List.mem_cons_of_mem _ (List.mem_append_right _ h)
  have w22 := hts (.fieldLink RX3 22 "ClownsMourn$Laws" "city" "LClownsMourn$City;") (List.mem_of_getElem? (i := 1) rfl)
  have w26 := hts (.fieldLink RX3 26 "ClownsMourn$City" "ruling" "I") (List.mem_of_getElem? (i := 2) rfl)
  have w41 := hts (.fieldLink RX3 41 "ClownsMourn$City" "skills" "[I") (List.mem_of_getElem? (i := 3) rfl)
  have wiX11 := hts (.initialized RX11) (List.mem_of_getElem? (i := 22) rfl)
  have wstat := hts (.static yX11_at) (List.mem_of_getElem? (i := 21) rfl)
  have wstheld := hts (.static yX11_held) (List.mem_of_getElem? (i := 72) rfl)
  have hl := lv_entry ([.ref (h 6), .int p1, .int p2]) (n := 4) (Nat.le_of_ble_eq_true rfl)
  rw [lg_entry_eq]
  generalize (lg_sl ([.ref (h 6), .int p1, .int p2]) ++ List.replicate (4 - (lg_sl ([.ref (h 6), .int p1, .int p2])).length) Slot.unset).toArray = ls at hl ⊢
  have hl : lv_has ls 4 [(0, .ref (h 6)), (1, .int p1), (2, .int p2)] := hl
  unfold wC_X3_easing at hw
  clear hD0
  have J_27 : ∀ (x1 : Int32) (x2 : Int32) (S : CS) (H : Heap) (locs : List Loc) (ls : Array Slot), wC_X3_easing_27 post x1 x2 S → va_P D vwCl (wC h cy S) H → va_D A (wC h cy S) → va_S A s.heap H locs → lv_has ls 4 [(0, .ref (h 6)), (1, .int x1), (2, .int x2)] → W p l e (headSpec wsX3_easing { frames := 3, cells := 0, slots := 0, locals := 76 }).room s m (([.ref (h 6), .int p1, .int p2] : List Value).toArray) below meth c H locs 0 0 (MQ below (va_Qi post (k_Post D (tyC cy) (wC h cy) A) A) (([.ref (h 6), .int p1, .int p2] : List Value).toArray) s 0 0 A) (F0 m 27 ls []) := by
    intro x1 x2 S H locs ls hw hP hD hS hl
    unfold wC_X3_easing_27 at hw
    refine lv_aload_n hx hb dX3_easing_27 rfl (lv_at hl 0 rfl) ?_
    refine va_get (D := D) (ci := 3) (v := .ref (h 1)) (C := RX3) (T := TX3) (N := 4) hx hb hts hin3 hown hK hP 6 rfl rfl 0 (by decide) w22 (fun _ h9 => h9) rfl dX3_easing_28 ?_
    refine va_get (D := D) (ci := 0) (v := .ref (h 14)) (C := RX0) (T := TX0) (N := 16) hx hb hts hin0 hown hK hP 1 rfl rfl 3 (by decide) w41 (fun _ h9 => h9) rfl dX3_easing_31 ?_
    refine lv_iload_n hx hb dX3_easing_34 rfl (lv_at hl 1 rfl) ?_
    refine e_callNi (As := [.ref (h 14), .int x1]) (rest := []) clE_stable hs ⟨hx, hb, hml, hown, hts⟩ (cA_at l D clE (tyC cy) (wC h cy) S 14 2 _ _ 5 (cx_c_skills S) rfl rfl (by decide) _ (fun r S0 => r = k_at 5 (cx_c_skills S) x1 ∧ S = S0) ⟨rfl, rfl⟩) ⟨va_cnB 2 hts gX3_easing_X11_at_n44 rfl rfl rfl hs.1.2.2.2.2.2.2.2.2.2.2.2.2.2.2.1 wiX11 (by decide +kernel) ⟨Nat.le_of_ble_eq_true rfl, Nat.le_of_ble_eq_true rfl⟩, wstat, trivial⟩ hK hP hD hS hA rfl hl.1 rfl (Nat.le_of_ble_eq_true rfl) dX3_easing_35 ⟨Nat.zero_le _, Nat.zero_le _⟩ (fun r_ S_ H locs hq hP hD hS => ?_)
    obtain ⟨rfl, rfl⟩ := hq
    refine lv_iload_n hx hb dX3_easing_38 rfl (lv_at hl 2 rfl) ?_
    refine lv_iadd hx hb dX3_easing_39 ?_
    exact W.iret (v := (k_at 5 (cx_c_skills S) x1) + x2) hx hb hr (fun t ht hW => ⟨⟨(k_at 5 (cx_c_skills S) x1) + x2, S, rfl, hw, by rw [ht]; exact hP, va_K.moved hW.alike hK, hD⟩, hS.F ht⟩) hS.2.2 dX3_easing_40
  refine lv_aload_n hx hb dX3_easing_0 rfl (lv_at hl 0 rfl) ?_
  refine va_get (D := D) (ci := 3) (v := .ref (h 1)) (C := RX3) (T := TX3) (N := 4) hx hb hts hin3 hown hK hP 6 rfl rfl 0 (by decide) w22 (fun _ h9 => h9) rfl dX3_easing_1 ?_
  refine lv_aload_n hx hb dX3_easing_4 rfl (lv_at hl 0 rfl) ?_
  refine va_get (D := D) (ci := 3) (v := .ref (h 1)) (C := RX3) (T := TX3) (N := 4) hx hb hts hin3 hown hK hP 6 rfl rfl 0 (by decide) w22 (fun _ h9 => h9) rfl dX3_easing_5 ?_
  refine va_get (D := D) (ci := 0) (v := .int (cx_c_ruling S)) (C := RX0) (T := TX0) (N := 16) hx hb hts hin0 hown hK hP 1 rfl rfl 8 (by decide) w26 (fun _ h9 => h9) rfl dX3_easing_8 ?_
  refine e_callVq (As := [.int (cx_c_ruling S)]) (rest := []) clE_stable hs ⟨hx, hb, hml, hown, hts⟩ (cC_X0_textAt l D h cy _ _ _ hw) (cwV 1 hts gX3_easing_X0_textAt rfl rfl rfl (by decide +kernel) ⟨Nat.le_of_ble_eq_true rfl, Nat.le_of_ble_eq_true rfl⟩) (va_recv hK hP (ci := 0) (q0 := 1) rfl rfl) hK hP hD hS hA rfl hl.1 rfl (Nat.le_of_ble_eq_true rfl) dX3_easing_11 ⟨Nat.zero_le _, Nat.zero_le _⟩ (fun r_1 S_2 H locs hw hP hD hS => ?_)
  refine k_astore_nq (lv' := [(3, va_rf r_1), (0, .ref (h 6)), (1, .int p1), (2, .int p2)]) hx hb dX3_easing_14 rfl hl (by decide) rfl (fun ls hl => ?_)
  refine k_aload_nq hx hb dX3_easing_15 rfl (lv_at hl 0 rfl) ?_
  obtain ⟨hc_18t, hc_18f⟩ := hw
  refine k_ifnull (tgt := 27) hx hb dX3_easing_16 (by decide) (fun c_18 => ?_) (fun a_3 c_18 => ?_)
  · have hw := hc_18t c_18
    clear hc_18t hc_18f
    exact J_27 p1 p2 S_2 _ _ _ hw hP hD hS (lv_sub hl [1, 2, 3] rfl)
  · have hw := hc_18f a_3 c_18
    clear hc_18t hc_18f
    rw [c_18] at hl
    have hl : lv_has ls 4 [(3, .ref a_3), (0, .ref (h 6)), (1, .int p1), (2, .int p2)] := hl
    refine lv_aload_n hx hb dX3_easing_19 rfl (lv_at hl 0 rfl) ?_
    refine lv_iconst (v := 0) hx hb dX3_easing_20 (by decide) ?_
    obtain ⟨B_4, hmB_4, hw⟩ := hw
    obtain ⟨qB_4, hqB_4⟩ := px_obj (h := h) (cy := cy) hmB_4
    refine e_callVi (As := [.int 0]) (rest := []) clE_stable hs ⟨hx, hb, hml, hown, hts⟩ (cC_X9_hasLaw l D h cy _ _ _ _ hw) (cwV 1 hts gX3_easing_X9_hasLaw rfl rfl rfl (by decide +kernel) ⟨Nat.le_of_ble_eq_true rfl, Nat.le_of_ble_eq_true rfl⟩) (va_recv hK hP (ci := 9) (q0 := qB_4) rfl hqB_4) hK hP hD hS hA rfl hl.1 rfl (Nat.le_of_ble_eq_true rfl) dX3_easing_21 ⟨Nat.zero_le _, Nat.zero_le _⟩ (fun r_5 S_6 H locs hw hP hD hS => ?_)
    obtain ⟨hc_7t, hc_7f⟩ := hw
    refine lv_if_ne (tgt := 41) hx hb dX3_easing_24 (by decide) (fun c_7 => ?_) (fun c_7 => ?_)
    · have hw := hc_7f c_7
      clear hc_7t hc_7f
      refine lv_aload_n hx hb dX3_easing_41 rfl (lv_at hl 1 rfl) ?_
      refine lv_aload_n hx hb dX3_easing_42 rfl (lv_at hl 1 rfl) ?_
      refine va_get (D := D) (ci := 3) (v := .ref (h 1)) (C := RX3) (T := TX3) (N := 4) hx hb hts hin3 hown hK hP 6 rfl rfl 0 (by decide) w22 (fun _ h9 => h9) rfl dX3_easing_43 ?_
      refine lv_bipush (v := 29) hx hb dX3_easing_46 (by decide) ?_
      refine lv_iload_n hx hb dX3_easing_48 rfl (lv_at hl 2 rfl) ?_
      refine e_callVi (As := [.int 29, .int p1]) (rest := [.ref (h 6)]) clE_stable hs ⟨hx, hb, hml, hown, hts⟩ (cC_X0_see l D h cy _ _ _ _ hw) (cwV 2 hts gX3_easing_X0_see rfl rfl rfl (by decide +kernel) ⟨Nat.le_of_ble_eq_true rfl, Nat.le_of_ble_eq_true rfl⟩) (va_recv hK hP (ci := 0) (q0 := 1) rfl rfl) hK hP hD hS hA rfl hl.1 rfl (Nat.le_of_ble_eq_true rfl) dX3_easing_49 ⟨Nat.zero_le _, Nat.zero_le _⟩ (fun r_8 S_9 H locs hw hP hD hS => ?_)
      refine e_callVv (As := [.int r_8]) (rest := []) clE_stable hs ⟨hx, hb, hml, hown, hts⟩ (cC_X3_nameHouse l D h cy _ _ _ hw) (cwV 1 hts gX3_easing_X3_nameHouse rfl rfl rfl (by decide +kernel) ⟨Nat.le_of_ble_eq_true rfl, Nat.le_of_ble_eq_true rfl⟩) (va_recv hK hP (ci := 3) (q0 := 6) rfl rfl) hK hP hD hS hA rfl hl.1 rfl (Nat.le_of_ble_eq_true rfl) dX3_easing_52 ⟨Nat.zero_le _, Nat.zero_le _⟩ (fun S_11 H locs hw hP hD hS => ?_)
      refine lv_aload_n hx hb dX3_easing_55 rfl (lv_at hl 1 rfl) ?_
      refine lv_iload_n hx hb dX3_easing_56 rfl (lv_at hl 2 rfl) ?_
      refine lv_iload_n hx hb dX3_easing_57 rfl (lv_at hl 3 rfl) ?_
      refine e_callVv (As := [.int p1, .int p2]) (rest := []) clE_stable hs ⟨hx, hb, hml, hown, hts⟩ (cC_X3_nameClown l D h cy _ _ _ _ hw) (cwV 2 hts gX3_easing_X3_nameClown rfl rfl rfl (by decide +kernel) ⟨Nat.le_of_ble_eq_true rfl, Nat.le_of_ble_eq_true rfl⟩) (va_recv hK hP (ci := 3) (q0 := 6) rfl rfl) hK hP hD hS hA rfl hl.1 rfl (Nat.le_of_ble_eq_true rfl) dX3_easing_58 ⟨Nat.zero_le _, Nat.zero_le _⟩ (fun S_13 H locs hw hP hD hS => ?_)
      refine lv_aload_n hx hb dX3_easing_61 rfl (lv_at hl 1 rfl) ?_
      refine lv_aload_n hx hb dX3_easing_62 rfl (lv_at hl 0 rfl) ?_
      refine lv_iconst (v := 0) hx hb dX3_easing_63 (by decide) ?_
      refine e_callVi (As := [.ref a_3, .int 0]) (rest := []) clE_stable hs ⟨hx, hb, hml, hown, hts⟩ (cC_X3_worked l D h cy _ _ _ _ hw) (cwV 2 hts gX3_easing_X3_worked rfl rfl rfl (by decide +kernel) ⟨Nat.le_of_ble_eq_true rfl, Nat.le_of_ble_eq_true rfl⟩) (va_recv hK hP (ci := 3) (q0 := 6) rfl rfl) hK hP hD hS hA rfl hl.1 rfl (Nat.le_of_ble_eq_true rfl) dX3_easing_64 ⟨Nat.zero_le _, Nat.zero_le _⟩ (fun r_14 S_15 H locs hw hP hD hS => ?_)
      refine lv_iconst (v := 0) hx hb dX3_easing_67 (by decide) ?_
      refine lv_bipush (v := 99) hx hb dX3_easing_68 (by decide) ?_
      refine e_callNi (As := [.int r_14, .int 0, .int 99]) (rest := []) clE_stable hs ⟨hx, hb, hml, hown, hts⟩ (cC_X11_held l D h cy _ _ _ _ _ hw) ⟨va_cnB 3 hts gX3_easing_X11_held_n66 rfl rfl rfl hs.1.2.2.2.2.2.2.2.2.2.2.2.2.2.2.2.2.1 wiX11 (by decide +kernel) ⟨Nat.le_of_ble_eq_true rfl, Nat.le_of_ble_eq_true rfl⟩, wstheld, trivial⟩ hK hP hD hS hA rfl hl.1 rfl (Nat.le_of_ble_eq_true rfl) dX3_easing_70 ⟨Nat.zero_le _, Nat.zero_le _⟩ (fun r_16 S_17 H locs hw hP hD hS => ?_)
      exact W.iret (v := r_16) hx hb hr (fun t ht hW => ⟨⟨r_16, S_17, rfl, hw, by rw [ht]; exact hP, va_K.moved hW.alike hK, hD⟩, hS.F ht⟩) hS.2.2 dX3_easing_73
    · have hw := hc_7t c_7
      clear hc_7t hc_7f
      exact J_27 p1 p2 S_6 _ _ _ hw hP hD hS (lv_sub hl [1, 2, 3] rfl)
def wC_X0_turned (p1 : Int32) (p2 : Int32) (S : CS) (post : Int32 → CS → Prop) : Prop := post (k_at 50 (cx_c_turns S) ((p1 * 10) + p2)) S
set_option maxHeartbeats 4000000 in
set_option maxRecDepth 100000 in
theorem cC_X0_turned (l : Launch) (D : va_G) (h : Nat → Nat) (cy : Nat → ClassId) (p1 : Int32) (p2 : Int32) (S : CS) (post : Int32 → CS → Prop) (hw : wC_X0_turned p1 p2 S post) : e_Mi clE l yX0_turned wsX0_turned { frames := 1, cells := 0, slots := 0, locals := 21 } D (tyC cy) (wC h cy) [.ref (h 1), .int p1, .int p2] S post := by
  intro sz
  refine Met.ofW (cc := cX0_turned) (maxL := 3) (ret := (some .int)) (by decide) rfl ?_
  intro p e s m args below meth c s₁ B hml hv
  obtain ⟨rfl, hsz, hP, hK, hD0, hs⟩ := hv
  have hx := B.exec
  have hb := B.bytes
  have hr := B.returns
  have hts := atoms_spec (ws := wsX0_turned) B.pre
  have hown : s.vm.findClass RX0 = some m.cls := findClass_of_methodNamed B.named
  have hlocks := B.notSynchronized
  subst hsz
  have hD := hD0.self (sz := s.heap.size)
  generalize hAe : va_A (wC h cy S) s.heap.size = A at hD hs ⊢
  have hA : ∀ q : Nat, s.heap.size ≤ q → A q := fun q h => by rw [← hAe]; exact Or.inr h
  have hS : va_S A s.heap s.heap [] := va_S.rf
  have hin0 : ∀ w ∈ wsX00, w ∈ wsX0_turned := fun _ h => List.mem_cons_of_mem _ (List.mem_append_right _ h)
  have w31 := hts (.fieldLink RX0 31 "ClownsMourn$City" "turns" "[I") (List.mem_of_getElem? (i := 1) rfl)
  have wiX11 := hts (.initialized RX11) (List.mem_of_getElem? (i := 3) rfl)
  have wstat := hts (.static yX11_at) (List.mem_of_getElem? (i := 2) rfl)
  have hl := lv_entry ([.ref (h 1), .int p1, .int p2]) (n := 3) (Nat.le_of_ble_eq_true rfl)
  rw [lg_entry_eq]
  generalize (lg_sl ([.ref (h 1), .int p1, .int p2]) ++ List.replicate (3 - (lg_sl ([.ref (h 1), .int p1, .int p2])).length) Slot.unset).toArray = ls at hl ⊢
  have hl : lv_has ls 3 [(0, .ref (h 1)), (1, .int p1), (2, .int p2)] := hl
  unfold wC_X0_turned at hw
  clear hD0
  refine lv_aload_n hx hb dX0_turned_0 rfl (lv_at hl 0 rfl) ?_
  refine va_get (D := D) (ci := 0) (v := .ref (h 16)) (C := RX0) (T := TX0) (N := 16) hx hb hts hin0 hown hK hP 1 rfl rfl 5 (by decide) w31 (fun _ h9 => h9) rfl dX0_turned_1 ?_
  refine lv_iload_n hx hb dX0_turned_4 rfl (lv_at hl 1 rfl) ?_
  refine lv_bipush (v := 10) hx hb dX0_turned_5 (by decide) ?_
  refine lv_imul hx hb dX0_turned_7 ?_
  refine lv_iload_n hx hb dX0_turned_8 rfl (lv_at hl 2 rfl) ?_
  refine lv_iadd hx hb dX0_turned_9 ?_
  refine e_callNi (As := [.ref (h 16), .int ((p1 * 10) + p2)]) (rest := []) clE_stable hs ⟨hx, hb, hml, hown, hts⟩ (cA_at l D clE (tyC cy) (wC h cy) S 16 4 _ _ 50 (cx_c_turns S) rfl rfl (by decide) _ (fun r S0 => r = k_at 50 (cx_c_turns S) ((p1 * 10) + p2) ∧ S = S0) ⟨rfl, rfl⟩) ⟨va_cnB 2 hts gX0_turned_X11_at_n86 rfl rfl rfl hs.1.2.2.2.2.2.2.1 wiX11 (by decide +kernel) ⟨Nat.le_of_ble_eq_true rfl, Nat.le_of_ble_eq_true rfl⟩, wstat, trivial⟩ hK hP hD hS hA rfl hl.1 rfl (Nat.le_of_ble_eq_true rfl) dX0_turned_10 ⟨Nat.zero_le _, Nat.zero_le _⟩ (fun r_ S_ H locs hq hP hD hS => ?_)
  obtain ⟨rfl, rfl⟩ := hq
  exact W.iret (v := k_at 50 (cx_c_turns S) ((p1 * 10) + p2)) hx hb hr (fun t ht hW => ⟨⟨k_at 50 (cx_c_turns S) ((p1 * 10) + p2), S, rfl, hw, by rw [ht]; exact hP, va_K.moved hW.alike hK, hD⟩, hS.F ht⟩) hS.2.2 dX0_turned_13
def wC_X2_moves (p1 : Int32) (p2 : Int32) (p3 : Int32) (S : CS) (post : CS → Prop) : Prop := wC_X0_see 0 p1 S (fun r_1 S_2 => wC_X0_set 0 p1 (if (r_1 - p3) < 0 then 0 else (r_1 - p3)) S_2 (fun S_4 => wC_X0_see 6 p1 S_4 (fun r_5 S_6 => wC_X0_turned p2 r_5 S_6 (fun r_7 S_8 => wC_X0_set 6 p1 r_7 S_8 (fun S_10 => post S_10)))))
set_option maxHeartbeats 4000000 in
set_option maxRecDepth 100000 in
theorem cC_X2_moves (l : Launch) (D : va_G) (h : Nat → Nat) (cy : Nat → ClassId) (p1 : Int32) (p2 : Int32) (p3 : Int32) (S : CS) (post : CS → Prop) (hw : wC_X2_moves p1 p2 p3 S post) : e_Mv clE l yX2_moves wsX2_moves { frames := 2, cells := 0, slots := 0, locals := 45 } D (tyC cy) (wC h cy) [.ref (h 7), .int p1, .int p2, .int p3] S post := by
  intro sz
  refine Met.ofW (cc := cX2_moves) (maxL := 4) (ret := none) (by decide) rfl ?_
  intro p e s m args below meth c s₁ B hml hv
  obtain ⟨rfl, hsz, hP, hK, hD0, hs⟩ := hv
  have hx := B.exec
  have hb := B.bytes
  have hr := B.returns
  have hts := atoms_spec (ws := wsX2_moves) B.pre
  have hown : s.vm.findClass RX2 = some m.cls := findClass_of_methodNamed B.named
  have hlocks := B.notSynchronized
  subst hsz
  have hD := hD0.self (sz := s.heap.size)
  generalize hAe : va_A (wC h cy S) s.heap.size = A at hD hs ⊢
  have hA : ∀ q : Nat, s.heap.size ≤ q → A q := fun q h => by rw [← hAe]; exact Or.inr h
  have hS : va_S A s.heap s.heap [] := va_S.rf
  have hin2 : ∀ w ∈ wsX20, w ∈ wsX2_moves := fun _ h => List.mem_cons_of_mem _ (List.mem_append_left _ (List.mem_append_right _ h))
  have hin0 : ∀ w ∈ wsX00, w ∈ wsX2_moves := fun _ h => List.mem_cons_of_mem _ (List.mem_append_right _ h)
  have w17 := hts (.fieldLink RX2 17 "ClownsMourn$Guild" "city" "LClownsMourn$City;") (List.mem_of_getElem? (i := 1) rfl)
  have wm73 := hts (.methodLink RX2 73 Lib.Math.max.name) (List.mem_of_getElem? (i := 2) rfl)
  have wsmax := hts (.static Lib.Math.max.name) (List.mem_of_getElem? (i := 3) rfl)
  have wcdmax := hts (.code Lib.Math.max.name Lib.Math.max.code 2 (some .int)) (List.mem_of_getElem? (i := 5) rfl)
  have wiM := hts (.initialized "java/lang/Math") (List.mem_of_getElem? (i := 4) rfl)
  have hl := lv_entry ([.ref (h 7), .int p1, .int p2, .int p3]) (n := 4) (Nat.le_of_ble_eq_true rfl)
  rw [lg_entry_eq]
  generalize (lg_sl ([.ref (h 7), .int p1, .int p2, .int p3]) ++ List.replicate (4 - (lg_sl ([.ref (h 7), .int p1, .int p2, .int p3])).length) Slot.unset).toArray = ls at hl ⊢
  have hl : lv_has ls 4 [(0, .ref (h 7)), (1, .int p1), (2, .int p2), (3, .int p3)] := hl
  unfold wC_X2_moves at hw
  clear hD0
  refine lv_aload_n hx hb dX2_moves_0 rfl (lv_at hl 0 rfl) ?_
  refine va_get (D := D) (ci := 2) (v := .ref (h 1)) (C := RX2) (T := TX2) (N := 3) hx hb hts hin2 hown hK hP 7 rfl rfl 0 (by decide) w17 (fun _ h9 => h9) rfl dX2_moves_1 ?_
  refine lv_iconst (v := 0) hx hb dX2_moves_4 (by decide) ?_
  refine lv_iload_n hx hb dX2_moves_5 rfl (lv_at hl 1 rfl) ?_
  refine lv_aload_n hx hb dX2_moves_6 rfl (lv_at hl 0 rfl) ?_
  refine va_get (D := D) (ci := 2) (v := .ref (h 1)) (C := RX2) (T := TX2) (N := 3) hx hb hts hin2 hown hK hP 7 rfl rfl 0 (by decide) w17 (fun _ h9 => h9) rfl dX2_moves_7 ?_
  refine lv_iconst (v := 0) hx hb dX2_moves_10 (by decide) ?_
  refine lv_iload_n hx hb dX2_moves_11 rfl (lv_at hl 1 rfl) ?_
  refine e_callVi (As := [.int 0, .int p1]) (rest := [.int p1, .int 0, .ref (h 1)]) clE_stable hs ⟨hx, hb, hml, hown, hts⟩ (cC_X0_see l D h cy _ _ _ _ hw) (cwV 2 hts gX2_moves_X0_see rfl rfl rfl (by decide +kernel) ⟨Nat.le_of_ble_eq_true rfl, Nat.le_of_ble_eq_true rfl⟩) (va_recv hK hP (ci := 0) (q0 := 1) rfl rfl) hK hP hD hS hA rfl hl.1 rfl (Nat.le_of_ble_eq_true rfl) dX2_moves_12 ⟨Nat.zero_le _, Nat.zero_le _⟩ (fun r_1 S_2 H locs hw hP hD hS => ?_)
  refine lv_iload_n hx hb dX2_moves_15 rfl (lv_at hl 3 rfl) ?_
  refine lv_isub hx hb dX2_moves_16 ?_
  refine lv_iconst (v := 0) hx hb dX2_moves_17 (by decide) ?_
  refine va_mmax (own := RX2) (index := 73) hx hb (hml.trans hl.1.symm) hown wm73 wsmax wiM wcdmax (Nat.le_of_ble_eq_true rfl) (Nat.le_of_ble_eq_true rfl) (Nat.zero_le _) (Nat.zero_le _) dX2_moves_18 ?_
  refine e_callVv (As := [.int 0, .int p1, .int (if (r_1 - p3) < 0 then 0 else (r_1 - p3))]) (rest := []) clE_stable hs ⟨hx, hb, hml, hown, hts⟩ (cC_X0_set l D h cy _ _ _ _ _ hw) (cwV 3 hts gX2_moves_X0_set rfl rfl rfl (by decide +kernel) ⟨Nat.le_of_ble_eq_true rfl, Nat.le_of_ble_eq_true rfl⟩) (va_recv hK hP (ci := 0) (q0 := 1) rfl rfl) hK hP hD hS hA rfl hl.1 rfl (Nat.le_of_ble_eq_true rfl) dX2_moves_21 ⟨Nat.zero_le _, Nat.zero_le _⟩ (fun S_4 H locs hw hP hD hS => ?_)
  refine lv_aload_n hx hb dX2_moves_24 rfl (lv_at hl 0 rfl) ?_
  refine va_get (D := D) (ci := 2) (v := .ref (h 1)) (C := RX2) (T := TX2) (N := 3) hx hb hts hin2 hown hK hP 7 rfl rfl 0 (by decide) w17 (fun _ h9 => h9) rfl dX2_moves_25 ?_
  refine lv_bipush (v := 6) hx hb dX2_moves_28 (by decide) ?_
  refine lv_iload_n hx hb dX2_moves_30 rfl (lv_at hl 1 rfl) ?_
  refine lv_aload_n hx hb dX2_moves_31 rfl (lv_at hl 0 rfl) ?_
  refine va_get (D := D) (ci := 2) (v := .ref (h 1)) (C := RX2) (T := TX2) (N := 3) hx hb hts hin2 hown hK hP 7 rfl rfl 0 (by decide) w17 (fun _ h9 => h9) rfl dX2_moves_32 ?_
  refine lv_iload_n hx hb dX2_moves_35 rfl (lv_at hl 2 rfl) ?_
  refine lv_aload_n hx hb dX2_moves_36 rfl (lv_at hl 0 rfl) ?_
  refine va_get (D := D) (ci := 2) (v := .ref (h 1)) (C := RX2) (T := TX2) (N := 3) hx hb hts hin2 hown hK hP 7 rfl rfl 0 (by decide) w17 (fun _ h9 => h9) rfl dX2_moves_37 ?_
  refine lv_bipush (v := 6) hx hb dX2_moves_40 (by decide) ?_
  refine lv_iload_n hx hb dX2_moves_42 rfl (lv_at hl 1 rfl) ?_
  refine e_callVi (As := [.int 6, .int p1]) (rest := [.int p2, .ref (h 1), .int p1, .int 6, .ref (h 1)]) clE_stable hs ⟨hx, hb, hml, hown, hts⟩ (cC_X0_see l D h cy _ _ _ _ hw) (cwV 2 hts gX2_moves_X0_see rfl rfl rfl (by decide +kernel) ⟨Nat.le_of_ble_eq_true rfl, Nat.le_of_ble_eq_true rfl⟩) (va_recv hK hP (ci := 0) (q0 := 1) rfl rfl) hK hP hD hS hA rfl hl.1 rfl (Nat.le_of_ble_eq_true rfl) dX2_moves_43 ⟨Nat.zero_le _, Nat.zero_le _⟩ (fun r_5 S_6 H locs hw hP hD hS => ?_)
  refine e_callVi (As := [.int p2, .int r_5]) (rest := [.int p1, .int 6, .ref (h 1)]) clE_stable hs ⟨hx, hb, hml, hown, hts⟩ (cC_X0_turned l D h cy _ _ _ _ hw) (cwV 2 hts gX2_moves_X0_turned rfl rfl rfl (by decide +kernel) ⟨Nat.le_of_ble_eq_true rfl, Nat.le_of_ble_eq_true rfl⟩) (va_recv hK hP (ci := 0) (q0 := 1) rfl rfl) hK hP hD hS hA rfl hl.1 rfl (Nat.le_of_ble_eq_true rfl) dX2_moves_46 ⟨Nat.zero_le _, Nat.zero_le _⟩ (fun r_7 S_8 H locs hw hP hD hS => ?_)
  refine e_callVv (As := [.int 6, .int p1, .int r_7]) (rest := []) clE_stable hs ⟨hx, hb, hml, hown, hts⟩ (cC_X0_set l D h cy _ _ _ _ _ hw) (cwV 3 hts gX2_moves_X0_set rfl rfl rfl (by decide +kernel) ⟨Nat.le_of_ble_eq_true rfl, Nat.le_of_ble_eq_true rfl⟩) (va_recv hK hP (ci := 0) (q0 := 1) rfl rfl) hK hP hD hS hA rfl hl.1 rfl (Nat.le_of_ble_eq_true rfl) dX2_moves_49 ⟨Nat.zero_le _, Nat.zero_le _⟩ (fun S_10 H locs hw hP hD hS => ?_)
  exact W.vret hx hb hr (fun t ht hW => ⟨⟨S_10, rfl, hw, by rw [ht]; exact hP, va_K.moved hW.alike hK, hD⟩, hS.F ht⟩) hS.2.2 dX2_moves_52
def wC_X2_draws (S : CS) (post : Int32 → CS → Prop) : Prop := wC_X0_see 40 0 S (fun r_1 S_2 => wC_X0_set 40 0 (k_rem ((r_1 * 419) + 293) 30529) S_2 (fun S_4 => post r_1 S_4))
set_option maxHeartbeats 4000000 in
set_option maxRecDepth 100000 in
theorem cC_X2_draws (l : Launch) (D : va_G) (h : Nat → Nat) (cy : Nat → ClassId) (S : CS) (post : Int32 → CS → Prop) (hw : wC_X2_draws S post) : e_Mi clE l yX2_draws wsX2_draws { frames := 2, cells := 0, slots := 0, locals := 45 } D (tyC cy) (wC h cy) [.ref (h 7)] S post := by
  intro sz
  refine Met.ofW (cc := cX2_draws) (maxL := 2) (ret := (some .int)) (by decide) rfl ?_
  intro p e s m args below meth c s₁ B hml hv
  obtain ⟨rfl, hsz, hP, hK, hD0, hs⟩ := hv
  have hx := B.exec
  have hb := B.bytes
  have hr := B.returns
  have hts := atoms_spec (ws := wsX2_draws) B.pre
  have hown : s.vm.findClass RX2 = some m.cls := findClass_of_methodNamed B.named
  have hlocks := B.notSynchronized
  subst hsz
  have hD := hD0.self (sz := s.heap.size)
  generalize hAe : va_A (wC h cy S) s.heap.size = A at hD hs ⊢
  have hA : ∀ q : Nat, s.heap.size ≤ q → A q := fun q h => by rw [← hAe]; exact Or.inr h
  have hS : va_S A s.heap s.heap [] := va_S.rf
  have hin2 : ∀ w ∈ wsX20, w ∈ wsX2_draws := fun _ h => List.mem_cons_of_mem _ (List.mem_append_left _ (List.mem_append_right _ h))
  have hin0 : ∀ w ∈ wsX00, w ∈ wsX2_draws := fun _ h => List.mem_cons_of_mem _ (List.mem_append_right _ h)
  have w17 := hts (.fieldLink RX2 17 "ClownsMourn$Guild" "city" "LClownsMourn$City;") (List.mem_of_getElem? (i := 1) rfl)
  have hl := lv_entry ([.ref (h 7)]) (n := 2) (Nat.le_of_ble_eq_true rfl)
  rw [lg_entry_eq]
  generalize (lg_sl ([.ref (h 7)]) ++ List.replicate (2 - (lg_sl ([.ref (h 7)])).length) Slot.unset).toArray = ls at hl ⊢
  have hl : lv_has ls 2 [(0, .ref (h 7))] := hl
  unfold wC_X2_draws at hw
  clear hD0
  refine lv_aload_n hx hb dX2_draws_0 rfl (lv_at hl 0 rfl) ?_
  refine va_get (D := D) (ci := 2) (v := .ref (h 1)) (C := RX2) (T := TX2) (N := 3) hx hb hts hin2 hown hK hP 7 rfl rfl 0 (by decide) w17 (fun _ h9 => h9) rfl dX2_draws_1 ?_
  refine lv_bipush (v := 40) hx hb dX2_draws_4 (by decide) ?_
  refine lv_iconst (v := 0) hx hb dX2_draws_6 (by decide) ?_
  refine e_callVi (As := [.int 40, .int 0]) (rest := []) clE_stable hs ⟨hx, hb, hml, hown, hts⟩ (cC_X0_see l D h cy _ _ _ _ hw) (cwV 2 hts gX2_draws_X0_see rfl rfl rfl (by decide +kernel) ⟨Nat.le_of_ble_eq_true rfl, Nat.le_of_ble_eq_true rfl⟩) (va_recv hK hP (ci := 0) (q0 := 1) rfl rfl) hK hP hD hS hA rfl hl.1 rfl (Nat.le_of_ble_eq_true rfl) dX2_draws_7 ⟨Nat.zero_le _, Nat.zero_le _⟩ (fun r_1 S_2 H locs hw hP hD hS => ?_)
  refine lv_istore_n (lv' := [(1, .int r_1), (0, .ref (h 7))]) hx hb dX2_draws_10 rfl hl (by decide) rfl (fun ls hl => ?_)
  refine lv_aload_n hx hb dX2_draws_11 rfl (lv_at hl 1 rfl) ?_
  refine va_get (D := D) (ci := 2) (v := .ref (h 1)) (C := RX2) (T := TX2) (N := 3) hx hb hts hin2 hown hK hP 7 rfl rfl 0 (by decide) w17 (fun _ h9 => h9) rfl dX2_draws_12 ?_
  refine lv_bipush (v := 40) hx hb dX2_draws_15 (by decide) ?_
  refine lv_iconst (v := 0) hx hb dX2_draws_17 (by decide) ?_
  refine lv_iload_n hx hb dX2_draws_18 rfl (lv_at hl 0 rfl) ?_
  refine lv_sipush (v := 419) hx hb dX2_draws_19 (by decide) ?_
  refine lv_imul hx hb dX2_draws_22 ?_
  refine lv_sipush (v := 293) hx hb dX2_draws_23 (by decide) ?_
  refine lv_iadd hx hb dX2_draws_26 ?_
  refine lv_sipush (v := 30529) hx hb dX2_draws_27 (by decide) ?_
  refine k_irem hx hb dX2_draws_30 (by decide) ?_
  refine e_callVv (As := [.int 40, .int 0, .int (k_rem ((r_1 * 419) + 293) 30529)]) (rest := []) clE_stable hs ⟨hx, hb, hml, hown, hts⟩ (cC_X0_set l D h cy _ _ _ _ _ hw) (cwV 3 hts gX2_draws_X0_set rfl rfl rfl (by decide +kernel) ⟨Nat.le_of_ble_eq_true rfl, Nat.le_of_ble_eq_true rfl⟩) (va_recv hK hP (ci := 0) (q0 := 1) rfl rfl) hK hP hD hS hA rfl hl.1 rfl (Nat.le_of_ble_eq_true rfl) dX2_draws_31 ⟨Nat.zero_le _, Nat.zero_le _⟩ (fun S_4 H locs hw hP hD hS => ?_)
  refine lv_iload_n hx hb dX2_draws_34 rfl (lv_at hl 0 rfl) ?_
  exact W.iret (v := r_1) hx hb hr (fun t ht hW => ⟨⟨r_1, S_4, rfl, hw, by rw [ht]; exact hP, va_K.moved hW.alike hK, hD⟩, hS.F ht⟩) hS.2.2 dX2_draws_35
def wC_X3_laughing (p1 : Int32) (p2 : Int32) (S : CS) (post : Int32 → CS → Prop) : Prop := wC_X0_see 29 p1 S (fun r_1 S_2 => wC_X0_textAt (cx_c_ruling S_2) S_2 (fun r_3 S_4 => ((r_3 = none → wC_X0_see 6 r_1 S_4 (fun r_6 S_7 => post r_6 S_7)) ∧ (∀ a_5 : Nat, r_3 = some a_5 → (∃ B_8 : TB, (a_5, B_8) ∈ cx_px S_4 ∧ wC_X9_hasLaw a_5 1 S_4 (fun r_9 S_10 => ((r_9 = 0 → wC_X0_see 6 r_1 S_10 (fun r_20 S_21 => post r_20 S_21)) ∧ (¬ (r_9 = 0) → wC_X3_nameHouse r_1 S_10 (fun S_13 => wC_X3_nameClown p1 p2 S_13 (fun S_15 => wC_X3_worked (some a_5) 1 S_15 (fun r_16 S_17 => wC_X11_held r_16 0 10 S_17 (fun r_18 S_19 => post r_18 S_19))))))))))))
set_option maxHeartbeats 4000000 in
set_option maxRecDepth 100000 in
theorem cC_X3_laughing (l : Launch) (D : va_G) (h : Nat → Nat) (cy : Nat → ClassId) (p1 : Int32) (p2 : Int32) (S : CS) (post : Int32 → CS → Prop) (hw : wC_X3_laughing p1 p2 S post) : e_Mi clE l yX3_laughing wsX3_laughing { frames := 3, cells := 0, slots := 0, locals := 76 } D (tyC cy) (wC h cy) [.ref (h 6), .int p1, .int p2] S post := by
  intro sz
  refine Met.ofW (cc := cX3_laughing) (maxL := 5) (ret := (some .int)) (by decide) rfl ?_
  intro p e s m args below meth c s₁ B hml hv
  obtain ⟨rfl, hsz, hP, hK, hD0, hs⟩ := hv
  have hx := B.exec
  have hb := B.bytes
  have hr := B.returns
  have hts := atoms_spec (ws := wsX3_laughing) B.pre
  have hown : s.vm.findClass RX3 = some m.cls := findClass_of_methodNamed B.named
  have hlocks := B.notSynchronized
  subst hsz
  have hD := hD0.self (sz := s.heap.size)
  generalize hAe : va_A (wC h cy S) s.heap.size = A at hD hs ⊢
  have hA : ∀ q : Nat, s.heap.size ≤ q → A q := fun q h => by rw [← hAe]; exact Or.inr h
  have hS : va_S A s.heap s.heap [] := va_S.rf
  have hin3 : ∀ w ∈ wsX30, w ∈ wsX3_laughing := fun _ h => List.mem_cons_of_mem _ (List.mem_append_left _ (List.mem_append_left _ (List.mem_append_right _ h)))
  have hin0 : ∀ w ∈ wsX00, w ∈ wsX3_laughing := fun _ h => List.mem_cons_of_mem _ (List.mem_append_left _ (List.mem_append_right _ h))
  have hin9 : ∀ w ∈ wsX90, w ∈ wsX3_laughing := fun _ h => List.mem_cons_of_mem _ (List.mem_append_right _ h)
  have w22 := hts (.fieldLink RX3 22 "ClownsMourn$Laws" "city" "LClownsMourn$City;") (List.mem_of_getElem? (i := 1) rfl)
  have w26 := hts (.fieldLink RX3 26 "ClownsMourn$City" "ruling" "I") (List.mem_of_getElem? (i := 2) rfl)
  have wiX11 := hts (.initialized RX11) (List.mem_of_getElem? (i := 10) rfl)
  have wstheld := hts (.static yX11_held) (List.mem_of_getElem? (i := 72) rfl)
  have hl := lv_entry ([.ref (h 6), .int p1, .int p2]) (n := 5) (Nat.le_of_ble_eq_true rfl)
  rw [lg_entry_eq]
  generalize (lg_sl ([.ref (h 6), .int p1, .int p2]) ++ List.replicate (5 - (lg_sl ([.ref (h 6), .int p1, .int p2])).length) Slot.unset).toArray = ls at hl ⊢
  have hl : lv_has ls 5 [(0, .ref (h 6)), (1, .int p1), (2, .int p2)] := hl
  unfold wC_X3_laughing at hw
  clear hD0
  refine lv_aload_n hx hb dX3_laughing_0 rfl (lv_at hl 0 rfl) ?_
  refine va_get (D := D) (ci := 3) (v := .ref (h 1)) (C := RX3) (T := TX3) (N := 4) hx hb hts hin3 hown hK hP 6 rfl rfl 0 (by decide) w22 (fun _ h9 => h9) rfl dX3_laughing_1 ?_
  refine lv_bipush (v := 29) hx hb dX3_laughing_4 (by decide) ?_
  refine lv_iload_n hx hb dX3_laughing_6 rfl (lv_at hl 1 rfl) ?_
  refine e_callVi (As := [.int 29, .int p1]) (rest := []) clE_stable hs ⟨hx, hb, hml, hown, hts⟩ (cC_X0_see l D h cy _ _ _ _ hw) (cwV 2 hts gX3_laughing_X0_see rfl rfl rfl (by decide +kernel) ⟨Nat.le_of_ble_eq_true rfl, Nat.le_of_ble_eq_true rfl⟩) (va_recv hK hP (ci := 0) (q0 := 1) rfl rfl) hK hP hD hS hA rfl hl.1 rfl (Nat.le_of_ble_eq_true rfl) dX3_laughing_7 ⟨Nat.zero_le _, Nat.zero_le _⟩ (fun r_1 S_2 H locs hw hP hD hS => ?_)
  refine lv_istore_n (lv' := [(3, .int r_1), (0, .ref (h 6)), (1, .int p1), (2, .int p2)]) hx hb dX3_laughing_10 rfl hl (by decide) rfl (fun ls hl => ?_)
  refine lv_aload_n hx hb dX3_laughing_11 rfl (lv_at hl 1 rfl) ?_
  refine va_get (D := D) (ci := 3) (v := .ref (h 1)) (C := RX3) (T := TX3) (N := 4) hx hb hts hin3 hown hK hP 6 rfl rfl 0 (by decide) w22 (fun _ h9 => h9) rfl dX3_laughing_12 ?_
  refine lv_aload_n hx hb dX3_laughing_15 rfl (lv_at hl 1 rfl) ?_
  refine va_get (D := D) (ci := 3) (v := .ref (h 1)) (C := RX3) (T := TX3) (N := 4) hx hb hts hin3 hown hK hP 6 rfl rfl 0 (by decide) w22 (fun _ h9 => h9) rfl dX3_laughing_16 ?_
  refine va_get (D := D) (ci := 0) (v := .int (cx_c_ruling S_2)) (C := RX0) (T := TX0) (N := 16) hx hb hts hin0 hown hK hP 1 rfl rfl 8 (by decide) w26 (fun _ h9 => h9) rfl dX3_laughing_19 ?_
  refine e_callVq (As := [.int (cx_c_ruling S_2)]) (rest := []) clE_stable hs ⟨hx, hb, hml, hown, hts⟩ (cC_X0_textAt l D h cy _ _ _ hw) (cwV 1 hts gX3_laughing_X0_textAt rfl rfl rfl (by decide +kernel) ⟨Nat.le_of_ble_eq_true rfl, Nat.le_of_ble_eq_true rfl⟩) (va_recv hK hP (ci := 0) (q0 := 1) rfl rfl) hK hP hD hS hA rfl hl.1 rfl (Nat.le_of_ble_eq_true rfl) dX3_laughing_22 ⟨Nat.zero_le _, Nat.zero_le _⟩ (fun r_3 S_4 H locs hw hP hD hS => ?_)
  refine k_astoreq (lv' := [(4, va_rf r_3), (3, .int r_1), (0, .ref (h 6)), (1, .int p1), (2, .int p2)]) hx hb dX3_laughing_25 hl (by decide) rfl (fun ls hl => ?_)
  refine k_aloadq hx hb dX3_laughing_27 (lv_at hl 0 rfl) ?_
  obtain ⟨hc_22t, hc_22f⟩ := hw
  refine k_ifnull (tgt := 41) hx hb dX3_laughing_29 (by decide) (fun c_22 => ?_) (fun a_5 c_22 => ?_)
  · have hw := hc_22t c_22
    clear hc_22t hc_22f
    refine lv_aload_n hx hb dX3_laughing_41 rfl (lv_at hl 2 rfl) ?_
    refine va_get (D := D) (ci := 3) (v := .ref (h 1)) (C := RX3) (T := TX3) (N := 4) hx hb hts hin3 hown hK hP 6 rfl rfl 0 (by decide) w22 (fun _ h9 => h9) rfl dX3_laughing_42 ?_
    refine lv_bipush (v := 6) hx hb dX3_laughing_45 (by decide) ?_
    refine lv_iload_n hx hb dX3_laughing_47 rfl (lv_at hl 1 rfl) ?_
    refine e_callVi (As := [.int 6, .int r_1]) (rest := []) clE_stable hs ⟨hx, hb, hml, hown, hts⟩ (cC_X0_see l D h cy _ _ _ _ hw) (cwV 2 hts gX3_laughing_X0_see rfl rfl rfl (by decide +kernel) ⟨Nat.le_of_ble_eq_true rfl, Nat.le_of_ble_eq_true rfl⟩) (va_recv hK hP (ci := 0) (q0 := 1) rfl rfl) hK hP hD hS hA rfl hl.1 rfl (Nat.le_of_ble_eq_true rfl) dX3_laughing_48 ⟨Nat.zero_le _, Nat.zero_le _⟩ (fun r_6 S_7 H locs hw hP hD hS => ?_)
    exact W.iret (v := r_6) hx hb hr (fun t ht hW => ⟨⟨r_6, S_7, rfl, hw, by rw [ht]; exact hP, va_K.moved hW.alike hK, hD⟩, hS.F ht⟩) hS.2.2 dX3_laughing_51
  · have hw := hc_22f a_5 c_22
    clear hc_22t hc_22f
    rw [c_22] at hl
    have hl : lv_has ls 5 [(4, .ref a_5), (3, .int r_1), (0, .ref (h 6)), (1, .int p1), (2, .int p2)] := hl
    refine lv_aload hx hb dX3_laughing_32 (lv_at hl 0 rfl) ?_
    refine lv_iconst (v := 1) hx hb dX3_laughing_34 (by decide) ?_
    obtain ⟨B_8, hmB_8, hw⟩ := hw
    obtain ⟨qB_8, hqB_8⟩ := px_obj (h := h) (cy := cy) hmB_8
    refine e_callVi (As := [.int 1]) (rest := []) clE_stable hs ⟨hx, hb, hml, hown, hts⟩ (cC_X9_hasLaw l D h cy _ _ _ _ hw) (cwV 1 hts gX3_laughing_X9_hasLaw rfl rfl rfl (by decide +kernel) ⟨Nat.le_of_ble_eq_true rfl, Nat.le_of_ble_eq_true rfl⟩) (va_recv hK hP (ci := 9) (q0 := qB_8) rfl hqB_8) hK hP hD hS hA rfl hl.1 rfl (Nat.le_of_ble_eq_true rfl) dX3_laughing_35 ⟨Nat.zero_le _, Nat.zero_le _⟩ (fun r_9 S_10 H locs hw hP hD hS => ?_)
    obtain ⟨hc_11t, hc_11f⟩ := hw
    refine lv_if_ne (tgt := 52) hx hb dX3_laughing_38 (by decide) (fun c_11 => ?_) (fun c_11 => ?_)
    · have hw := hc_11f c_11
      clear hc_11t hc_11f
      refine lv_aload_n hx hb dX3_laughing_52 rfl (lv_at hl 2 rfl) ?_
      refine lv_iload_n hx hb dX3_laughing_53 rfl (lv_at hl 1 rfl) ?_
      refine e_callVv (As := [.int r_1]) (rest := []) clE_stable hs ⟨hx, hb, hml, hown, hts⟩ (cC_X3_nameHouse l D h cy _ _ _ hw) (cwV 1 hts gX3_laughing_X3_nameHouse rfl rfl rfl (by decide +kernel) ⟨Nat.le_of_ble_eq_true rfl, Nat.le_of_ble_eq_true rfl⟩) (va_recv hK hP (ci := 3) (q0 := 6) rfl rfl) hK hP hD hS hA rfl hl.1 rfl (Nat.le_of_ble_eq_true rfl) dX3_laughing_54 ⟨Nat.zero_le _, Nat.zero_le _⟩ (fun S_13 H locs hw hP hD hS => ?_)
      refine lv_aload_n hx hb dX3_laughing_57 rfl (lv_at hl 2 rfl) ?_
      refine lv_iload_n hx hb dX3_laughing_58 rfl (lv_at hl 3 rfl) ?_
      refine lv_iload_n hx hb dX3_laughing_59 rfl (lv_at hl 4 rfl) ?_
      refine e_callVv (As := [.int p1, .int p2]) (rest := []) clE_stable hs ⟨hx, hb, hml, hown, hts⟩ (cC_X3_nameClown l D h cy _ _ _ _ hw) (cwV 2 hts gX3_laughing_X3_nameClown rfl rfl rfl (by decide +kernel) ⟨Nat.le_of_ble_eq_true rfl, Nat.le_of_ble_eq_true rfl⟩) (va_recv hK hP (ci := 3) (q0 := 6) rfl rfl) hK hP hD hS hA rfl hl.1 rfl (Nat.le_of_ble_eq_true rfl) dX3_laughing_60 ⟨Nat.zero_le _, Nat.zero_le _⟩ (fun S_15 H locs hw hP hD hS => ?_)
      refine lv_aload_n hx hb dX3_laughing_63 rfl (lv_at hl 2 rfl) ?_
      refine lv_aload hx hb dX3_laughing_64 (lv_at hl 0 rfl) ?_
      refine lv_iconst (v := 1) hx hb dX3_laughing_66 (by decide) ?_
      refine e_callVi (As := [.ref a_5, .int 1]) (rest := []) clE_stable hs ⟨hx, hb, hml, hown, hts⟩ (cC_X3_worked l D h cy _ _ _ _ hw) (cwV 2 hts gX3_laughing_X3_worked rfl rfl rfl (by decide +kernel) ⟨Nat.le_of_ble_eq_true rfl, Nat.le_of_ble_eq_true rfl⟩) (va_recv hK hP (ci := 3) (q0 := 6) rfl rfl) hK hP hD hS hA rfl hl.1 rfl (Nat.le_of_ble_eq_true rfl) dX3_laughing_67 ⟨Nat.zero_le _, Nat.zero_le _⟩ (fun r_16 S_17 H locs hw hP hD hS => ?_)
      refine lv_iconst (v := 0) hx hb dX3_laughing_70 (by decide) ?_
      refine lv_bipush (v := 10) hx hb dX3_laughing_71 (by decide) ?_
      refine e_callNi (As := [.int r_16, .int 0, .int 10]) (rest := []) clE_stable hs ⟨hx, hb, hml, hown, hts⟩ (cC_X11_held l D h cy _ _ _ _ _ hw) ⟨va_cnB 3 hts gX3_laughing_X11_held_n66 rfl rfl rfl hs.1.2.2.2.2.2.2.2.2.2.2.2.2.2.2.2.2.1 wiX11 (by decide +kernel) ⟨Nat.le_of_ble_eq_true rfl, Nat.le_of_ble_eq_true rfl⟩, wstheld, trivial⟩ hK hP hD hS hA rfl hl.1 rfl (Nat.le_of_ble_eq_true rfl) dX3_laughing_73 ⟨Nat.zero_le _, Nat.zero_le _⟩ (fun r_18 S_19 H locs hw hP hD hS => ?_)
      exact W.iret (v := r_18) hx hb hr (fun t ht hW => ⟨⟨r_18, S_19, rfl, hw, by rw [ht]; exact hP, va_K.moved hW.alike hK, hD⟩, hS.F ht⟩) hS.2.2 dX3_laughing_76
    · have hw := hc_11t c_11
      clear hc_11t hc_11f
      refine lv_aload_n hx hb dX3_laughing_41 rfl (lv_at hl 2 rfl) ?_
      refine va_get (D := D) (ci := 3) (v := .ref (h 1)) (C := RX3) (T := TX3) (N := 4) hx hb hts hin3 hown hK hP 6 rfl rfl 0 (by decide) w22 (fun _ h9 => h9) rfl dX3_laughing_42 ?_
      refine lv_bipush (v := 6) hx hb dX3_laughing_45 (by decide) ?_
      refine lv_iload_n hx hb dX3_laughing_47 rfl (lv_at hl 1 rfl) ?_
      refine e_callVi (As := [.int 6, .int r_1]) (rest := []) clE_stable hs ⟨hx, hb, hml, hown, hts⟩ (cC_X0_see l D h cy _ _ _ _ hw) (cwV 2 hts gX3_laughing_X0_see rfl rfl rfl (by decide +kernel) ⟨Nat.le_of_ble_eq_true rfl, Nat.le_of_ble_eq_true rfl⟩) (va_recv hK hP (ci := 0) (q0 := 1) rfl rfl) hK hP hD hS hA rfl hl.1 rfl (Nat.le_of_ble_eq_true rfl) dX3_laughing_48 ⟨Nat.zero_le _, Nat.zero_le _⟩ (fun r_20 S_21 H locs hw hP hD hS => ?_)
      exact W.iret (v := r_20) hx hb hr (fun t ht hW => ⟨⟨r_20, S_21, rfl, hw, by rw [ht]; exact hP, va_K.moved hW.alike hK, hD⟩, hS.F ht⟩) hS.2.2 dX3_laughing_51
def wC_X0_writeDown_36 (post : CS → Prop) (x1 : Int32) (x2 : Int32) (x3 : Int32) (S : CS) : Prop := wC_X0_today S (fun r_1 S_2 => wC_X0_set 42 x3 (((k_shl r_1 6) ||| (k_shl x1 3)) ||| x2) S_2 (fun S_4 => (∀ S_5 : CS, S_5 = (cx_set_c_now S_4 (k_put 74 (cx_c_now S_4) 41 (x3 + 1))) → post S_5)))
def wC_X0_writeDown (p1 : Int32) (p2 : Int32) (S : CS) (post : CS → Prop) : Prop := (((k_at 74 (cx_c_now S) 41) < 30 → wC_X0_writeDown_36 post p1 p2 (k_at 74 (cx_c_now S) 41) S) ∧ (¬ ((k_at 74 (cx_c_now S) 41) < 30) → (∀ S_2 : CS, S_2 = (cx_set_c_now S (k_copyP 74 74 (cx_c_now S) 43 (cx_c_now S) 42 29)) → wC_X0_writeDown_36 post p1 p2 29 S_2)))
set_option maxHeartbeats 4000000 in
set_option maxRecDepth 100000 in
theorem cC_X0_writeDown (l : Launch) (D : va_G) (h : Nat → Nat) (cy : Nat → ClassId) (p1 : Int32) (p2 : Int32) (S : CS) (post : CS → Prop) (hw : wC_X0_writeDown p1 p2 S post) : e_Mv clE l yX0_writeDown wsX0_writeDown { frames := 2, cells := 0, slots := 0, locals := 84 } D (tyC cy) (wC h cy) [.ref (h 1), .int p1, .int p2] S post := by
  intro sz
  refine Met.ofW (cc := cX0_writeDown) (maxL := 4) (ret := none) (by decide) rfl ?_
  intro p e s m args below meth c s₁ B hml hv
  obtain ⟨rfl, hsz, hP, hK, hD0, hs⟩ := hv
  have hx := B.exec
  have hb := B.bytes
  have hr := B.returns
  have hts := atoms_spec (ws := wsX0_writeDown) B.pre
  have hown : s.vm.findClass RX0 = some m.cls := findClass_of_methodNamed B.named
  have hlocks := B.notSynchronized
  subst hsz
  have hD := hD0.self (sz := s.heap.size)
  generalize hAe : va_A (wC h cy S) s.heap.size = A at hD hs ⊢
  have hA : ∀ q : Nat, s.heap.size ≤ q → A q := fun q h => by rw [← hAe]; exact Or.inr h
  have hS : va_S A s.heap s.heap [] := va_S.rf
  have hin0 : ∀ w ∈ wsX00, w ∈ wsX0_writeDown := fun _ h => List.mem_cons_of_mem _ (List.mem_append_right _ h)
  have w11 := hts (.fieldLink RX0 11 "ClownsMourn$City" "now" "[I") (List.mem_of_getElem? (i := 1) rfl)
  have wiX11 := hts (.initialized RX11) (List.mem_of_getElem? (i := 3) rfl)
  have wstat := hts (.static yX11_at) (List.mem_of_getElem? (i := 2) rfl)
  have wstcopyPart := hts (.static yX11_copyPart) (List.mem_of_getElem? (i := 5) rfl)
  have wstput := hts (.static yX11_put) (List.mem_of_getElem? (i := 20) rfl)
  have hl := lv_entry ([.ref (h 1), .int p1, .int p2]) (n := 4) (Nat.le_of_ble_eq_true rfl)
  rw [lg_entry_eq]
  generalize (lg_sl ([.ref (h 1), .int p1, .int p2]) ++ List.replicate (4 - (lg_sl ([.ref (h 1), .int p1, .int p2])).length) Slot.unset).toArray = ls at hl ⊢
  have hl : lv_has ls 4 [(0, .ref (h 1)), (1, .int p1), (2, .int p2)] := hl
  unfold wC_X0_writeDown at hw
  clear hD0
  have J_36 : ∀ (x1 : Int32) (x2 : Int32) (x3 : Int32) (S : CS) (H : Heap) (locs : List Loc) (ls : Array Slot), wC_X0_writeDown_36 post x1 x2 x3 S → va_P D vwCl (wC h cy S) H → va_D A (wC h cy S) → va_S A s.heap H locs → lv_has ls 4 [(0, .ref (h 1)), (1, .int x1), (2, .int x2), (3, .int x3)] → W p l e (headSpec wsX0_writeDown { frames := 2, cells := 0, slots := 0, locals := 84 }).room s m (([.ref (h 1), .int p1, .int p2] : List Value).toArray) below meth c H locs 0 0 (MQ below (va_Qv post (k_Post D (tyC cy) (wC h cy) A) A) (([.ref (h 1), .int p1, .int p2] : List Value).toArray) s 0 0 A) (F0 m 36 ls []) := by
    intro x1 x2 x3 S H locs ls hw hP hD hS hl
    unfold wC_X0_writeDown_36 at hw
    refine lv_aload_n hx hb dX0_writeDown_36 rfl (lv_at hl 0 rfl) ?_
    refine lv_bipush (v := 42) hx hb dX0_writeDown_37 (by decide) ?_
    refine lv_iload_n hx hb dX0_writeDown_39 rfl (lv_at hl 3 rfl) ?_
    refine lv_aload_n hx hb dX0_writeDown_40 rfl (lv_at hl 0 rfl) ?_
    refine e_callVi (As := []) (rest := [.int x3, .int 42, .ref (h 1)]) clE_stable hs ⟨hx, hb, hml, hown, hts⟩ (cC_X0_today l D h cy _ _ hw) (cwV 0 hts gX0_writeDown_X0_today rfl rfl rfl (by decide +kernel) ⟨Nat.le_of_ble_eq_true rfl, Nat.le_of_ble_eq_true rfl⟩) (va_recv hK hP (ci := 0) (q0 := 1) rfl rfl) hK hP hD hS hA rfl hl.1 rfl (Nat.le_of_ble_eq_true rfl) dX0_writeDown_41 ⟨Nat.zero_le _, Nat.zero_le _⟩ (fun r_1 S_2 H locs hw hP hD hS => ?_)
    refine lv_bipush (v := 6) hx hb dX0_writeDown_44 (by decide) ?_
    refine k_ishl hx hb dX0_writeDown_46 ?_
    refine lv_iload_n hx hb dX0_writeDown_47 rfl (lv_at hl 1 rfl) ?_
    refine lv_iconst (v := 3) hx hb dX0_writeDown_48 (by decide) ?_
    refine k_ishl hx hb dX0_writeDown_49 ?_
    refine lv_ior hx hb dX0_writeDown_50 ?_
    refine lv_iload_n hx hb dX0_writeDown_51 rfl (lv_at hl 2 rfl) ?_
    refine lv_ior hx hb dX0_writeDown_52 ?_
    refine e_callVv (As := [.int 42, .int x3, .int (((k_shl r_1 6) ||| (k_shl x1 3)) ||| x2)]) (rest := []) clE_stable hs ⟨hx, hb, hml, hown, hts⟩ (cC_X0_set l D h cy _ _ _ _ _ hw) (cwV 3 hts gX0_writeDown_X0_set rfl rfl rfl (by decide +kernel) ⟨Nat.le_of_ble_eq_true rfl, Nat.le_of_ble_eq_true rfl⟩) (va_recv hK hP (ci := 0) (q0 := 1) rfl rfl) hK hP hD hS hA rfl hl.1 rfl (Nat.le_of_ble_eq_true rfl) dX0_writeDown_53 ⟨Nat.zero_le _, Nat.zero_le _⟩ (fun S_4 H locs hw hP hD hS => ?_)
    refine lv_aload_n hx hb dX0_writeDown_56 rfl (lv_at hl 0 rfl) ?_
    refine va_get (D := D) (ci := 0) (v := .ref (h 12)) (C := RX0) (T := TX0) (N := 16) hx hb hts hin0 hown hK hP 1 rfl rfl 0 (by decide) w11 (fun _ h9 => h9) rfl dX0_writeDown_57 ?_
    refine lv_bipush (v := 41) hx hb dX0_writeDown_60 (by decide) ?_
    refine lv_iload_n hx hb dX0_writeDown_62 rfl (lv_at hl 3 rfl) ?_
    refine lv_iconst (v := 1) hx hb dX0_writeDown_63 (by decide) ?_
    refine lv_iadd hx hb dX0_writeDown_64 ?_
    refine e_callNv (As := [.ref (h 12), .int 41, .int (x3 + 1)]) (rest := []) clE_stable hs ⟨hx, hb, hml, hown, hts⟩ (cA_put l D clE (tyC cy) (wC h cy) cx_c_now cx_set_c_now S_4 12 0 _ _ 74 rfl (wCs_c_now h cy S_4) rfl (by decide) _ _ (fun S0 => S0 = (cx_set_c_now S_4 (k_put 74 (cx_c_now S_4) 41 (x3 + 1)))) rfl) ⟨va_cnB 3 hts gX0_writeDown_X11_put_n68 rfl rfl rfl hs.1.2.1 wiX11 (by decide +kernel) ⟨Nat.le_of_ble_eq_true rfl, Nat.le_of_ble_eq_true rfl⟩, wstput, trivial⟩ hK hP hD hS hA rfl hl.1 rfl (Nat.le_of_ble_eq_true rfl) dX0_writeDown_65 ⟨Nat.zero_le _, Nat.zero_le _⟩ (fun S_5 H locs eS_5 hP hD hS => ?_)
    replace hw := hw S_5 eS_5
    exact W.vret hx hb hr (fun t ht hW => ⟨⟨S_5, rfl, hw, by rw [ht]; exact hP, va_K.moved hW.alike hK, hD⟩, hS.F ht⟩) hS.2.2 dX0_writeDown_68
  refine lv_aload_n hx hb dX0_writeDown_0 rfl (lv_at hl 0 rfl) ?_
  refine va_get (D := D) (ci := 0) (v := .ref (h 12)) (C := RX0) (T := TX0) (N := 16) hx hb hts hin0 hown hK hP 1 rfl rfl 0 (by decide) w11 (fun _ h9 => h9) rfl dX0_writeDown_1 ?_
  refine lv_bipush (v := 41) hx hb dX0_writeDown_4 (by decide) ?_
  refine e_callNi (As := [.ref (h 12), .int 41]) (rest := []) clE_stable hs ⟨hx, hb, hml, hown, hts⟩ (cA_at l D clE (tyC cy) (wC h cy) S 12 0 _ _ 74 (cx_c_now S) rfl rfl (by decide) _ (fun r S0 => r = k_at 74 (cx_c_now S) 41 ∧ S = S0) ⟨rfl, rfl⟩) ⟨va_cnB 2 hts gX0_writeDown_X11_at_n86 rfl rfl rfl hs.1.2.2.2.2.2.2.1 wiX11 (by decide +kernel) ⟨Nat.le_of_ble_eq_true rfl, Nat.le_of_ble_eq_true rfl⟩, wstat, trivial⟩ hK hP hD hS hA rfl hl.1 rfl (Nat.le_of_ble_eq_true rfl) dX0_writeDown_6 ⟨Nat.zero_le _, Nat.zero_le _⟩ (fun r_ S_ H locs hq hP hD hS => ?_)
  obtain ⟨rfl, rfl⟩ := hq
  refine lv_istore_n (lv' := [(3, .int (k_at 74 (cx_c_now S) 41)), (0, .ref (h 1)), (1, .int p1), (2, .int p2)]) hx hb dX0_writeDown_9 rfl hl (by decide) rfl (fun ls hl => ?_)
  refine lv_iload_n hx hb dX0_writeDown_10 rfl (lv_at hl 0 rfl) ?_
  refine lv_bipush (v := 30) hx hb dX0_writeDown_11 (by decide) ?_
  obtain ⟨hc_6t, hc_6f⟩ := hw
  refine lv_icmp_lt (tgt := 36) hx hb dX0_writeDown_13 (by decide) (fun c_6 => ?_) (fun c_6 => ?_)
  · have hw := hc_6t c_6
    clear hc_6t hc_6f
    exact J_36 p1 p2 (k_at 74 (cx_c_now S) 41) S _ _ _ hw hP hD hS (lv_sub hl [1, 2, 3, 0] rfl)
  · have hw := hc_6f c_6
    clear hc_6t hc_6f
    refine lv_aload_n hx hb dX0_writeDown_16 rfl (lv_at hl 1 rfl) ?_
    refine va_get (D := D) (ci := 0) (v := .ref (h 12)) (C := RX0) (T := TX0) (N := 16) hx hb hts hin0 hown hK hP 1 rfl rfl 0 (by decide) w11 (fun _ h9 => h9) rfl dX0_writeDown_17 ?_
    refine lv_bipush (v := 43) hx hb dX0_writeDown_20 (by decide) ?_
    refine lv_aload_n hx hb dX0_writeDown_22 rfl (lv_at hl 1 rfl) ?_
    refine va_get (D := D) (ci := 0) (v := .ref (h 12)) (C := RX0) (T := TX0) (N := 16) hx hb hts hin0 hown hK hP 1 rfl rfl 0 (by decide) w11 (fun _ h9 => h9) rfl dX0_writeDown_23 ?_
    refine lv_bipush (v := 42) hx hb dX0_writeDown_26 (by decide) ?_
    refine lv_bipush (v := 29) hx hb dX0_writeDown_28 (by decide) ?_
    refine e_callNv (As := [.ref (h 12), .int 43, .ref (h 12), .int 42, .int 29]) (rest := []) clE_stable hs ⟨hx, hb, hml, hown, hts⟩ (cA_copyPart l D clE (tyC cy) (wC h cy) S 12 0 12 0 _ _ _ _ 74 74 cx_c_now cx_c_now cx_set_c_now rfl rfl (wCs_c_now h cy S) rfl rfl (by decide) (by decide) _ _ _ (fun S0 => S0 = (cx_set_c_now S (k_copyP 74 74 (cx_c_now S) 43 (cx_c_now S) 42 29))) rfl) ⟨va_cnB 5 hts gX0_writeDown_X11_copyPart_n117 rfl rfl rfl hs.1.2.2.2.2.2.2.2.2.2.2.2.2.2.2.2.2.2.1 wiX11 (by decide +kernel) ⟨Nat.le_of_ble_eq_true rfl, Nat.le_of_ble_eq_true rfl⟩, wstcopyPart, trivial⟩ hK hP hD hS hA rfl hl.1 rfl (Nat.le_of_ble_eq_true rfl) dX0_writeDown_30 ⟨Nat.zero_le _, Nat.zero_le _⟩ (fun S_7 H locs eS_7 hP hD hS => ?_)
    replace hw := hw S_7 eS_7
    refine lv_bipush (v := 29) hx hb dX0_writeDown_33 (by decide) ?_
    refine lv_istore_n (lv' := [(3, .int 29), (0, .ref (h 1)), (1, .int p1), (2, .int p2)]) hx hb dX0_writeDown_35 rfl hl (by decide) rfl (fun ls hl => ?_)
    exact J_36 p1 p2 29 S_7 _ _ _ hw hP hD hS (lv_sub hl [1, 2, 3, 0] rfl)
def wC_X2_falls_106 (post : CS → Prop) (x1 : Int32) (S : CS) : Prop := wC_X0_see 24 x1 S (fun r_1 S_2 => wC_X0_set 24 x1 (r_1 + 1) S_2 (fun S_4 => wC_X0_see 34 x1 S_4 (fun r_5 S_6 => wC_X0_set 34 x1 (if 9999 < (r_5 + 1) then 9999 else (r_5 + 1)) S_6 (fun S_8 => post S_8))))
def wC_X2_falls (p1 : Int32) (p2 : Int32) (S : CS) (post : CS → Prop) : Prop := wC_X0_see 29 p1 S (fun r_1 S_2 => wC_X3_easing p1 p2 S_2 (fun r_3 S_4 => wC_X2_moves r_1 p2 r_3 S_4 (fun S_6 => wC_X2_draws S_6 (fun r_7 S_8 => wC_X3_laughing p1 p2 S_8 (fun r_9 S_10 => ((r_9 ≤ (k_rem r_7 10) → wC_X2_falls_106 post p1 S_10) ∧ (¬ (r_9 ≤ (k_rem r_7 10)) → wC_X0_see 18 r_1 S_10 (fun r_12 S_13 => wC_X0_set 18 r_1 (if 99 < (r_12 + 1) then 99 else (r_12 + 1)) S_13 (fun S_15 => wC_X0_see 12 r_1 S_15 (fun r_16 S_17 => ((r_16 = (-1) → wC_X0_set 12 r_1 p1 S_17 (fun S_22 => wC_X0_writeDown r_1 p1 S_22 (fun S_24 => wC_X2_falls_106 post p1 S_24))) ∧ (¬ (r_16 = (-1)) → wC_X0_writeDown r_1 p1 S_17 (fun S_20 => wC_X2_falls_106 post p1 S_20)))))))))))))
set_option maxHeartbeats 4000000 in
set_option maxRecDepth 100000 in
theorem cC_X2_falls (l : Launch) (D : va_G) (h : Nat → Nat) (cy : Nat → ClassId) (p1 : Int32) (p2 : Int32) (S : CS) (post : CS → Prop) (hw : wC_X2_falls p1 p2 S post) : e_Mv clE l yX2_falls wsX2_falls { frames := 4, cells := 0, slots := 0, locals := 107 } D (tyC cy) (wC h cy) [.ref (h 7), .int p1, .int p2] S post := by
  intro sz
  refine Met.ofW (cc := cX2_falls) (maxL := 4) (ret := none) (by decide) rfl ?_
  intro p e s m args below meth c s₁ B hml hv
  obtain ⟨rfl, hsz, hP, hK, hD0, hs⟩ := hv
  have hx := B.exec
  have hb := B.bytes
  have hr := B.returns
  have hts := atoms_spec (ws := wsX2_falls) B.pre
  have hown : s.vm.findClass RX2 = some m.cls := findClass_of_methodNamed B.named
  have hlocks := B.notSynchronized
  subst hsz
  have hD := hD0.self (sz := s.heap.size)
  generalize hAe : va_A (wC h cy S) s.heap.size = A at hD hs ⊢
  have hA : ∀ q : Nat, s.heap.size ≤ q → A q := fun q h => by rw [← hAe]; exact Or.inr h
  have hS : va_S A s.heap s.heap [] := va_S.rf
  have hin2 : ∀ w ∈ wsX20, w ∈ wsX2_falls := fun _ h => List.mem_cons_of_mem _ (List.mem_append_left _ (List.mem_append_left _ (List.mem_append_left _ (List.mem_append_right _ h))))
  have hin0 : ∀ w ∈ wsX00, w ∈ wsX2_falls := fun _ h => List.mem_cons_of_mem _ (List.mem_append_left _ (List.mem_append_left _ (List.mem_append_right _ h)))
  have hin3 : ∀ w ∈ wsX30, w ∈ wsX2_falls := fun _ h => List.mem_cons_of_mem _ (List.mem_append_left _ (List.mem_append_right _ h))
  have hin9 : ∀ w ∈ wsX90, w ∈ wsX2_falls := fun _ h => List.mem_cons_of_mem _ (List.mem_append_right _ h)
  have w17 := hts (.fieldLink RX2 17 "ClownsMourn$Guild" "city" "LClownsMourn$City;") (List.mem_of_getElem? (i := 1) rfl)
  have w21 := hts (.fieldLink RX2 21 "ClownsMourn$Guild" "laws" "LClownsMourn$Laws;") (List.mem_of_getElem? (i := 2) rfl)
  have wm64 := hts (.methodLink RX2 64 Lib.Math.min.name) (List.mem_of_getElem? (i := 3) rfl)
  have wsmin := hts (.static Lib.Math.min.name) (List.mem_of_getElem? (i := 4) rfl)
  have wcdmin := hts (.code Lib.Math.min.name Lib.Math.min.code 2 (some .int)) (List.mem_of_getElem? (i := 6) rfl)
  have wiM := hts (.initialized "java/lang/Math") (List.mem_of_getElem? (i := 5) rfl)
  have hl := lv_entry ([.ref (h 7), .int p1, .int p2]) (n := 4) (Nat.le_of_ble_eq_true rfl)
  rw [lg_entry_eq]
  generalize (lg_sl ([.ref (h 7), .int p1, .int p2]) ++ List.replicate (4 - (lg_sl ([.ref (h 7), .int p1, .int p2])).length) Slot.unset).toArray = ls at hl ⊢
  have hl : lv_has ls 4 [(0, .ref (h 7)), (1, .int p1), (2, .int p2)] := hl
  unfold wC_X2_falls at hw
  clear hD0
  have J_106 : ∀ (x1 : Int32) (S : CS) (H : Heap) (locs : List Loc) (ls : Array Slot), wC_X2_falls_106 post x1 S → va_P D vwCl (wC h cy S) H → va_D A (wC h cy S) → va_S A s.heap H locs → lv_has ls 4 [(0, .ref (h 7)), (1, .int x1)] → W p l e (headSpec wsX2_falls { frames := 4, cells := 0, slots := 0, locals := 107 }).room s m (([.ref (h 7), .int p1, .int p2] : List Value).toArray) below meth c H locs 0 0 (MQ below (va_Qv post (k_Post D (tyC cy) (wC h cy) A) A) (([.ref (h 7), .int p1, .int p2] : List Value).toArray) s 0 0 A) (F0 m 106 ls []) := by
    intro x1 S H locs ls hw hP hD hS hl
    unfold wC_X2_falls_106 at hw
    refine lv_aload_n hx hb dX2_falls_106 rfl (lv_at hl 0 rfl) ?_
    refine va_get (D := D) (ci := 2) (v := .ref (h 1)) (C := RX2) (T := TX2) (N := 3) hx hb hts hin2 hown hK hP 7 rfl rfl 0 (by decide) w17 (fun _ h9 => h9) rfl dX2_falls_107 ?_
    refine lv_bipush (v := 24) hx hb dX2_falls_110 (by decide) ?_
    refine lv_iload_n hx hb dX2_falls_112 rfl (lv_at hl 1 rfl) ?_
    refine lv_aload_n hx hb dX2_falls_113 rfl (lv_at hl 0 rfl) ?_
    refine va_get (D := D) (ci := 2) (v := .ref (h 1)) (C := RX2) (T := TX2) (N := 3) hx hb hts hin2 hown hK hP 7 rfl rfl 0 (by decide) w17 (fun _ h9 => h9) rfl dX2_falls_114 ?_
    refine lv_bipush (v := 24) hx hb dX2_falls_117 (by decide) ?_
    refine lv_iload_n hx hb dX2_falls_119 rfl (lv_at hl 1 rfl) ?_
    refine e_callVi (As := [.int 24, .int x1]) (rest := [.int x1, .int 24, .ref (h 1)]) clE_stable hs ⟨hx, hb, hml, hown, hts⟩ (cC_X0_see l D h cy _ _ _ _ hw) (cwV 2 hts gX2_falls_X0_see rfl rfl rfl (by decide +kernel) ⟨Nat.le_of_ble_eq_true rfl, Nat.le_of_ble_eq_true rfl⟩) (va_recv hK hP (ci := 0) (q0 := 1) rfl rfl) hK hP hD hS hA rfl hl.1 rfl (Nat.le_of_ble_eq_true rfl) dX2_falls_120 ⟨Nat.zero_le _, Nat.zero_le _⟩ (fun r_1 S_2 H locs hw hP hD hS => ?_)
    refine lv_iconst (v := 1) hx hb dX2_falls_123 (by decide) ?_
    refine lv_iadd hx hb dX2_falls_124 ?_
    refine e_callVv (As := [.int 24, .int x1, .int (r_1 + 1)]) (rest := []) clE_stable hs ⟨hx, hb, hml, hown, hts⟩ (cC_X0_set l D h cy _ _ _ _ _ hw) (cwV 3 hts gX2_falls_X0_set rfl rfl rfl (by decide +kernel) ⟨Nat.le_of_ble_eq_true rfl, Nat.le_of_ble_eq_true rfl⟩) (va_recv hK hP (ci := 0) (q0 := 1) rfl rfl) hK hP hD hS hA rfl hl.1 rfl (Nat.le_of_ble_eq_true rfl) dX2_falls_125 ⟨Nat.zero_le _, Nat.zero_le _⟩ (fun S_4 H locs hw hP hD hS => ?_)
    refine lv_aload_n hx hb dX2_falls_128 rfl (lv_at hl 0 rfl) ?_
    refine va_get (D := D) (ci := 2) (v := .ref (h 1)) (C := RX2) (T := TX2) (N := 3) hx hb hts hin2 hown hK hP 7 rfl rfl 0 (by decide) w17 (fun _ h9 => h9) rfl dX2_falls_129 ?_
    refine lv_bipush (v := 34) hx hb dX2_falls_132 (by decide) ?_
    refine lv_iload_n hx hb dX2_falls_134 rfl (lv_at hl 1 rfl) ?_
    refine lv_aload_n hx hb dX2_falls_135 rfl (lv_at hl 0 rfl) ?_
    refine va_get (D := D) (ci := 2) (v := .ref (h 1)) (C := RX2) (T := TX2) (N := 3) hx hb hts hin2 hown hK hP 7 rfl rfl 0 (by decide) w17 (fun _ h9 => h9) rfl dX2_falls_136 ?_
    refine lv_bipush (v := 34) hx hb dX2_falls_139 (by decide) ?_
    refine lv_iload_n hx hb dX2_falls_141 rfl (lv_at hl 1 rfl) ?_
    refine e_callVi (As := [.int 34, .int x1]) (rest := [.int x1, .int 34, .ref (h 1)]) clE_stable hs ⟨hx, hb, hml, hown, hts⟩ (cC_X0_see l D h cy _ _ _ _ hw) (cwV 2 hts gX2_falls_X0_see rfl rfl rfl (by decide +kernel) ⟨Nat.le_of_ble_eq_true rfl, Nat.le_of_ble_eq_true rfl⟩) (va_recv hK hP (ci := 0) (q0 := 1) rfl rfl) hK hP hD hS hA rfl hl.1 rfl (Nat.le_of_ble_eq_true rfl) dX2_falls_142 ⟨Nat.zero_le _, Nat.zero_le _⟩ (fun r_5 S_6 H locs hw hP hD hS => ?_)
    refine lv_iconst (v := 1) hx hb dX2_falls_145 (by decide) ?_
    refine lv_iadd hx hb dX2_falls_146 ?_
    refine lv_sipush (v := 9999) hx hb dX2_falls_147 (by decide) ?_
    refine va_mmin (own := RX2) (index := 64) hx hb (hml.trans hl.1.symm) hown wm64 wsmin wiM wcdmin (Nat.le_of_ble_eq_true rfl) (Nat.le_of_ble_eq_true rfl) (Nat.zero_le _) (Nat.zero_le _) dX2_falls_150 ?_
    refine e_callVv (As := [.int 34, .int x1, .int (if 9999 < (r_5 + 1) then 9999 else (r_5 + 1))]) (rest := []) clE_stable hs ⟨hx, hb, hml, hown, hts⟩ (cC_X0_set l D h cy _ _ _ _ _ hw) (cwV 3 hts gX2_falls_X0_set rfl rfl rfl (by decide +kernel) ⟨Nat.le_of_ble_eq_true rfl, Nat.le_of_ble_eq_true rfl⟩) (va_recv hK hP (ci := 0) (q0 := 1) rfl rfl) hK hP hD hS hA rfl hl.1 rfl (Nat.le_of_ble_eq_true rfl) dX2_falls_153 ⟨Nat.zero_le _, Nat.zero_le _⟩ (fun S_8 H locs hw hP hD hS => ?_)
    exact W.vret hx hb hr (fun t ht hW => ⟨⟨S_8, rfl, hw, by rw [ht]; exact hP, va_K.moved hW.alike hK, hD⟩, hS.F ht⟩) hS.2.2 dX2_falls_156
  refine lv_aload_n hx hb dX2_falls_0 rfl (lv_at hl 0 rfl) ?_
  refine va_get (D := D) (ci := 2) (v := .ref (h 1)) (C := RX2) (T := TX2) (N := 3) hx hb hts hin2 hown hK hP 7 rfl rfl 0 (by decide) w17 (fun _ h9 => h9) rfl dX2_falls_1 ?_
  refine lv_bipush (v := 29) hx hb dX2_falls_4 (by decide) ?_
  refine lv_iload_n hx hb dX2_falls_6 rfl (lv_at hl 1 rfl) ?_
  refine e_callVi (As := [.int 29, .int p1]) (rest := []) clE_stable hs ⟨hx, hb, hml, hown, hts⟩ (cC_X0_see l D h cy _ _ _ _ hw) (cwV 2 hts gX2_falls_X0_see rfl rfl rfl (by decide +kernel) ⟨Nat.le_of_ble_eq_true rfl, Nat.le_of_ble_eq_true rfl⟩) (va_recv hK hP (ci := 0) (q0 := 1) rfl rfl) hK hP hD hS hA rfl hl.1 rfl (Nat.le_of_ble_eq_true rfl) dX2_falls_7 ⟨Nat.zero_le _, Nat.zero_le _⟩ (fun r_9 S_10 H locs hw hP hD hS => ?_)
  refine lv_istore_n (lv' := [(3, .int r_9), (0, .ref (h 7)), (1, .int p1), (2, .int p2)]) hx hb dX2_falls_10 rfl hl (by decide) rfl (fun ls hl => ?_)
  refine lv_aload_n hx hb dX2_falls_11 rfl (lv_at hl 1 rfl) ?_
  refine lv_iload_n hx hb dX2_falls_12 rfl (lv_at hl 0 rfl) ?_
  refine lv_iload_n hx hb dX2_falls_13 rfl (lv_at hl 3 rfl) ?_
  refine lv_aload_n hx hb dX2_falls_14 rfl (lv_at hl 1 rfl) ?_
  refine va_get (D := D) (ci := 2) (v := .ref (h 6)) (C := RX2) (T := TX2) (N := 3) hx hb hts hin2 hown hK hP 7 rfl rfl 1 (by decide) w21 (fun _ h9 => h9) rfl dX2_falls_15 ?_
  refine lv_iload_n hx hb dX2_falls_18 rfl (lv_at hl 2 rfl) ?_
  refine lv_iload_n hx hb dX2_falls_19 rfl (lv_at hl 3 rfl) ?_
  refine e_callVi (As := [.int p1, .int p2]) (rest := [.int p2, .int r_9, .ref (h 7)]) clE_stable hs ⟨hx, hb, hml, hown, hts⟩ (cC_X3_easing l D h cy _ _ _ _ hw) (cwV 2 hts gX2_falls_X3_easing rfl rfl rfl (by decide +kernel) ⟨Nat.le_of_ble_eq_true rfl, Nat.le_of_ble_eq_true rfl⟩) (va_recv hK hP (ci := 3) (q0 := 6) rfl rfl) hK hP hD hS hA rfl hl.1 rfl (Nat.le_of_ble_eq_true rfl) dX2_falls_20 ⟨Nat.zero_le _, Nat.zero_le _⟩ (fun r_11 S_12 H locs hw hP hD hS => ?_)
  refine e_callVv (As := [.int r_9, .int p2, .int r_11]) (rest := []) clE_stable hs ⟨hx, hb, hml, hown, hts⟩ (cC_X2_moves l D h cy _ _ _ _ _ hw) (cwV 3 hts gX2_falls_X2_moves rfl rfl rfl (by decide +kernel) ⟨Nat.le_of_ble_eq_true rfl, Nat.le_of_ble_eq_true rfl⟩) (va_recv hK hP (ci := 2) (q0 := 7) rfl rfl) hK hP hD hS hA rfl hl.1 rfl (Nat.le_of_ble_eq_true rfl) dX2_falls_23 ⟨Nat.zero_le _, Nat.zero_le _⟩ (fun S_14 H locs hw hP hD hS => ?_)
  refine lv_aload_n hx hb dX2_falls_26 rfl (lv_at hl 1 rfl) ?_
  refine e_callVi (As := []) (rest := []) clE_stable hs ⟨hx, hb, hml, hown, hts⟩ (cC_X2_draws l D h cy _ _ hw) (cwV 0 hts gX2_falls_X2_draws rfl rfl rfl (by decide +kernel) ⟨Nat.le_of_ble_eq_true rfl, Nat.le_of_ble_eq_true rfl⟩) (va_recv hK hP (ci := 2) (q0 := 7) rfl rfl) hK hP hD hS hA rfl hl.1 rfl (Nat.le_of_ble_eq_true rfl) dX2_falls_27 ⟨Nat.zero_le _, Nat.zero_le _⟩ (fun r_15 S_16 H locs hw hP hD hS => ?_)
  refine lv_bipush (v := 10) hx hb dX2_falls_30 (by decide) ?_
  refine k_irem hx hb dX2_falls_32 (by decide) ?_
  refine lv_aload_n hx hb dX2_falls_33 rfl (lv_at hl 1 rfl) ?_
  refine va_get (D := D) (ci := 2) (v := .ref (h 6)) (C := RX2) (T := TX2) (N := 3) hx hb hts hin2 hown hK hP 7 rfl rfl 1 (by decide) w21 (fun _ h9 => h9) rfl dX2_falls_34 ?_
  refine lv_iload_n hx hb dX2_falls_37 rfl (lv_at hl 2 rfl) ?_
  refine lv_iload_n hx hb dX2_falls_38 rfl (lv_at hl 3 rfl) ?_
  refine e_callVi (As := [.int p1, .int p2]) (rest := [.int (k_rem r_15 10)]) clE_stable hs ⟨hx, hb, hml, hown, hts⟩ (cC_X3_laughing l D h cy _ _ _ _ hw) (cwV 2 hts gX2_falls_X3_laughing rfl rfl rfl (by decide +kernel) ⟨Nat.le_of_ble_eq_true rfl, Nat.le_of_ble_eq_true rfl⟩) (va_recv hK hP (ci := 3) (q0 := 6) rfl rfl) hK hP hD hS hA rfl hl.1 rfl (Nat.le_of_ble_eq_true rfl) dX2_falls_39 ⟨Nat.zero_le _, Nat.zero_le _⟩ (fun r_17 S_18 H locs hw hP hD hS => ?_)
  obtain ⟨hc_19t, hc_19f⟩ := hw
  refine lv_icmp_ge (tgt := 106) hx hb dX2_falls_42 (by decide) (fun c_19 => ?_) (fun c_19 => ?_)
  · have hw := hc_19t c_19
    clear hc_19t hc_19f
    exact J_106 p1 S_18 _ _ _ hw hP hD hS (lv_sub hl [1, 2] rfl)
  · have hw := hc_19f c_19
    clear hc_19t hc_19f
    refine lv_aload_n hx hb dX2_falls_45 rfl (lv_at hl 1 rfl) ?_
    refine va_get (D := D) (ci := 2) (v := .ref (h 1)) (C := RX2) (T := TX2) (N := 3) hx hb hts hin2 hown hK hP 7 rfl rfl 0 (by decide) w17 (fun _ h9 => h9) rfl dX2_falls_46 ?_
    refine lv_bipush (v := 18) hx hb dX2_falls_49 (by decide) ?_
    refine lv_iload_n hx hb dX2_falls_51 rfl (lv_at hl 0 rfl) ?_
    refine lv_aload_n hx hb dX2_falls_52 rfl (lv_at hl 1 rfl) ?_
    refine va_get (D := D) (ci := 2) (v := .ref (h 1)) (C := RX2) (T := TX2) (N := 3) hx hb hts hin2 hown hK hP 7 rfl rfl 0 (by decide) w17 (fun _ h9 => h9) rfl dX2_falls_53 ?_
    refine lv_bipush (v := 18) hx hb dX2_falls_56 (by decide) ?_
    refine lv_iload_n hx hb dX2_falls_58 rfl (lv_at hl 0 rfl) ?_
    refine e_callVi (As := [.int 18, .int r_9]) (rest := [.int r_9, .int 18, .ref (h 1)]) clE_stable hs ⟨hx, hb, hml, hown, hts⟩ (cC_X0_see l D h cy _ _ _ _ hw) (cwV 2 hts gX2_falls_X0_see rfl rfl rfl (by decide +kernel) ⟨Nat.le_of_ble_eq_true rfl, Nat.le_of_ble_eq_true rfl⟩) (va_recv hK hP (ci := 0) (q0 := 1) rfl rfl) hK hP hD hS hA rfl hl.1 rfl (Nat.le_of_ble_eq_true rfl) dX2_falls_59 ⟨Nat.zero_le _, Nat.zero_le _⟩ (fun r_20 S_21 H locs hw hP hD hS => ?_)
    refine lv_iconst (v := 1) hx hb dX2_falls_62 (by decide) ?_
    refine lv_iadd hx hb dX2_falls_63 ?_
    refine lv_bipush (v := 99) hx hb dX2_falls_64 (by decide) ?_
    refine va_mmin (own := RX2) (index := 64) hx hb (hml.trans hl.1.symm) hown wm64 wsmin wiM wcdmin (Nat.le_of_ble_eq_true rfl) (Nat.le_of_ble_eq_true rfl) (Nat.zero_le _) (Nat.zero_le _) dX2_falls_66 ?_
    refine e_callVv (As := [.int 18, .int r_9, .int (if 99 < (r_20 + 1) then 99 else (r_20 + 1))]) (rest := []) clE_stable hs ⟨hx, hb, hml, hown, hts⟩ (cC_X0_set l D h cy _ _ _ _ _ hw) (cwV 3 hts gX2_falls_X0_set rfl rfl rfl (by decide +kernel) ⟨Nat.le_of_ble_eq_true rfl, Nat.le_of_ble_eq_true rfl⟩) (va_recv hK hP (ci := 0) (q0 := 1) rfl rfl) hK hP hD hS hA rfl hl.1 rfl (Nat.le_of_ble_eq_true rfl) dX2_falls_69 ⟨Nat.zero_le _, Nat.zero_le _⟩ (fun S_23 H locs hw hP hD hS => ?_)
    refine lv_aload_n hx hb dX2_falls_72 rfl (lv_at hl 1 rfl) ?_
    refine va_get (D := D) (ci := 2) (v := .ref (h 1)) (C := RX2) (T := TX2) (N := 3) hx hb hts hin2 hown hK hP 7 rfl rfl 0 (by decide) w17 (fun _ h9 => h9) rfl dX2_falls_73 ?_
    refine lv_bipush (v := 12) hx hb dX2_falls_76 (by decide) ?_
    refine lv_iload_n hx hb dX2_falls_78 rfl (lv_at hl 0 rfl) ?_
    refine e_callVi (As := [.int 12, .int r_9]) (rest := []) clE_stable hs ⟨hx, hb, hml, hown, hts⟩ (cC_X0_see l D h cy _ _ _ _ hw) (cwV 2 hts gX2_falls_X0_see rfl rfl rfl (by decide +kernel) ⟨Nat.le_of_ble_eq_true rfl, Nat.le_of_ble_eq_true rfl⟩) (va_recv hK hP (ci := 0) (q0 := 1) rfl rfl) hK hP hD hS hA rfl hl.1 rfl (Nat.le_of_ble_eq_true rfl) dX2_falls_79 ⟨Nat.zero_le _, Nat.zero_le _⟩ (fun r_24 S_25 H locs hw hP hD hS => ?_)
    refine lv_iconst (v := (-1)) hx hb dX2_falls_82 (by decide) ?_
    obtain ⟨hc_26t, hc_26f⟩ := hw
    refine lv_icmp_ne (tgt := 97) hx hb dX2_falls_83 (by decide) (fun c_26 => ?_) (fun c_26 => ?_)
    · have hw := hc_26f c_26
      clear hc_26t hc_26f
      refine lv_aload_n hx hb dX2_falls_97 rfl (lv_at hl 1 rfl) ?_
      refine va_get (D := D) (ci := 2) (v := .ref (h 1)) (C := RX2) (T := TX2) (N := 3) hx hb hts hin2 hown hK hP 7 rfl rfl 0 (by decide) w17 (fun _ h9 => h9) rfl dX2_falls_98 ?_
      refine lv_iload_n hx hb dX2_falls_101 rfl (lv_at hl 0 rfl) ?_
      refine lv_iload_n hx hb dX2_falls_102 rfl (lv_at hl 2 rfl) ?_
      refine e_callVv (As := [.int r_9, .int p1]) (rest := []) clE_stable hs ⟨hx, hb, hml, hown, hts⟩ (cC_X0_writeDown l D h cy _ _ _ _ hw) (cwV 2 hts gX2_falls_X0_writeDown rfl rfl rfl (by decide +kernel) ⟨Nat.le_of_ble_eq_true rfl, Nat.le_of_ble_eq_true rfl⟩) (va_recv hK hP (ci := 0) (q0 := 1) rfl rfl) hK hP hD hS hA rfl hl.1 rfl (Nat.le_of_ble_eq_true rfl) dX2_falls_103 ⟨Nat.zero_le _, Nat.zero_le _⟩ (fun S_28 H locs hw hP hD hS => ?_)
      exact J_106 p1 S_28 _ _ _ hw hP hD hS (lv_sub hl [1, 2] rfl)
    · have hw := hc_26t c_26
      clear hc_26t hc_26f
      refine lv_aload_n hx hb dX2_falls_86 rfl (lv_at hl 1 rfl) ?_
      refine va_get (D := D) (ci := 2) (v := .ref (h 1)) (C := RX2) (T := TX2) (N := 3) hx hb hts hin2 hown hK hP 7 rfl rfl 0 (by decide) w17 (fun _ h9 => h9) rfl dX2_falls_87 ?_
      refine lv_bipush (v := 12) hx hb dX2_falls_90 (by decide) ?_
      refine lv_iload_n hx hb dX2_falls_92 rfl (lv_at hl 0 rfl) ?_
      refine lv_iload_n hx hb dX2_falls_93 rfl (lv_at hl 2 rfl) ?_
      refine e_callVv (As := [.int 12, .int r_9, .int p1]) (rest := []) clE_stable hs ⟨hx, hb, hml, hown, hts⟩ (cC_X0_set l D h cy _ _ _ _ _ hw) (cwV 3 hts gX2_falls_X0_set rfl rfl rfl (by decide +kernel) ⟨Nat.le_of_ble_eq_true rfl, Nat.le_of_ble_eq_true rfl⟩) (va_recv hK hP (ci := 0) (q0 := 1) rfl rfl) hK hP hD hS hA rfl hl.1 rfl (Nat.le_of_ble_eq_true rfl) dX2_falls_94 ⟨Nat.zero_le _, Nat.zero_le _⟩ (fun S_30 H locs hw hP hD hS => ?_)
      refine lv_aload_n hx hb dX2_falls_97 rfl (lv_at hl 1 rfl) ?_
      refine va_get (D := D) (ci := 2) (v := .ref (h 1)) (C := RX2) (T := TX2) (N := 3) hx hb hts hin2 hown hK hP 7 rfl rfl 0 (by decide) w17 (fun _ h9 => h9) rfl dX2_falls_98 ?_
      refine lv_iload_n hx hb dX2_falls_101 rfl (lv_at hl 0 rfl) ?_
      refine lv_iload_n hx hb dX2_falls_102 rfl (lv_at hl 2 rfl) ?_
      refine e_callVv (As := [.int r_9, .int p1]) (rest := []) clE_stable hs ⟨hx, hb, hml, hown, hts⟩ (cC_X0_writeDown l D h cy _ _ _ _ hw) (cwV 2 hts gX2_falls_X0_writeDown rfl rfl rfl (by decide +kernel) ⟨Nat.le_of_ble_eq_true rfl, Nat.le_of_ble_eq_true rfl⟩) (va_recv hK hP (ci := 0) (q0 := 1) rfl rfl) hK hP hD hS hA rfl hl.1 rfl (Nat.le_of_ble_eq_true rfl) dX2_falls_103 ⟨Nat.zero_le _, Nat.zero_le _⟩ (fun S_32 H locs hw hP hD hS => ?_)
      exact J_106 p1 S_32 _ _ _ hw hP hD hS (lv_sub hl [1, 2] rfl)
def wC_X11_fall (p1 : Int32) (p2 : Int32) (S : CS) (post : Int32 → CS → Prop) : Prop := wC_X2_canFall p1 p2 S (fun r_1 S_2 => ((r_1 = 0 → post (-1) S_2) ∧ (¬ (r_1 = 0) → wC_X8_keepRow_city_now S_2 (fun S_5 => wC_X2_falls p1 p2 S_5 (fun S_7 => wC_X0_see 29 p1 S_7 (fun r_8 S_9 => wC_X0_see 6 r_8 S_9 (fun r_10 S_11 => post r_10 S_11)))))))
set_option maxHeartbeats 4000000 in
set_option maxRecDepth 100000 in
theorem cC_X11_fall (l : Launch) (D : va_G) (h : Nat → Nat) (cy : Nat → ClassId) (p1 : Int32) (p2 : Int32) (S : CS) (post : Int32 → CS → Prop) (hw : wC_X11_fall p1 p2 S post) : e_Mi clE l yX11_fall wsX11_fall { frames := 5, cells := 0, slots := 0, locals := 130 } D (tyC cy) (wC h cy) [.ref (h 0), .int p1, .int p2] S post := by
  intro sz
  refine Met.ofW (cc := cX11_fall) (maxL := 3) (ret := (some .int)) (by decide) rfl ?_
  intro p e s m args below meth c s₁ B hml hv
  obtain ⟨rfl, hsz, hP, hK, hD0, hs⟩ := hv
  have hx := B.exec
  have hb := B.bytes
  have hr := B.returns
  have hts := atoms_spec (ws := wsX11_fall) B.pre
  have hown : s.vm.findClass RX11 = some m.cls := findClass_of_methodNamed B.named
  have hlocks := B.notSynchronized
  subst hsz
  have hD := hD0.self (sz := s.heap.size)
  generalize hAe : va_A (wC h cy S) s.heap.size = A at hD hs ⊢
  have hA : ∀ q : Nat, s.heap.size ≤ q → A q := fun q h => by rw [← hAe]; exact Or.inr h
  have hS : va_S A s.heap s.heap [] := va_S.rf
  have hin11 : ∀ w ∈ wsX110, w ∈ wsX11_fall := fun _ h => List.mem_cons_of_mem _ (List.mem_append_left _ (List.mem_append_left _ (List.mem_append_left _ (List.mem_append_left _ (List.mem_append_left _ (List.mem_append_right _ h))))))
  have hin0 : ∀ w ∈ wsX00, w ∈ wsX11_fall := fun _ h => List.mem_cons_of_mem _ (List.mem_append_left _ (List.mem_append_left _ (List.mem_append_left _ (List.mem_append_left _ (List.mem_append_right _ h)))))
  have hin2 : ∀ w ∈ wsX20, w ∈ wsX11_fall := fun _ h => List.mem_cons_of_mem _ (List.mem_append_left _ (List.mem_append_left _ (List.mem_append_left _ (List.mem_append_right _ h))))
  have hin8 : ∀ w ∈ wsX80, w ∈ wsX11_fall := fun _ h => List.mem_cons_of_mem _ (List.mem_append_left _ (List.mem_append_left _ (List.mem_append_right _ h)))
  have hin3 : ∀ w ∈ wsX30, w ∈ wsX11_fall := fun _ h => List.mem_cons_of_mem _ (List.mem_append_left _ (List.mem_append_right _ h))
  have hin9 : ∀ w ∈ wsX90, w ∈ wsX11_fall := fun _ h => List.mem_cons_of_mem _ (List.mem_append_right _ h)
  have w10 := hts (.fieldLink RX11 10 "ClownsMourn" "city" "LClownsMourn$City;") (List.mem_of_getElem? (i := 2) rfl)
  have w134 := hts (.fieldLink RX11 134 "ClownsMourn$City" "steps" "LClownsMourn$Steps;") (List.mem_of_getElem? (i := 3) rfl)
  have w138 := hts (.fieldLink RX11 138 "ClownsMourn$City" "now" "[I") (List.mem_of_getElem? (i := 4) rfl)
  have w40 := hts (.fieldLink RX11 40 "ClownsMourn" "guild" "LClownsMourn$Guild;") (List.mem_of_getElem? (i := 1) rfl)
  have hl := lv_entry ([.ref (h 0), .int p1, .int p2]) (n := 3) (Nat.le_of_ble_eq_true rfl)
  rw [lg_entry_eq]
  generalize (lg_sl ([.ref (h 0), .int p1, .int p2]) ++ List.replicate (3 - (lg_sl ([.ref (h 0), .int p1, .int p2])).length) Slot.unset).toArray = ls at hl ⊢
  have hl : lv_has ls 3 [(0, .ref (h 0)), (1, .int p1), (2, .int p2)] := hl
  unfold wC_X11_fall at hw
  clear hD0
  refine lv_aload_n hx hb dX11_fall_0 rfl (lv_at hl 0 rfl) ?_
  refine va_get (D := D) (ci := 10) (v := .ref (h 7)) (C := RX11) (T := TX11) (N := 9) hx hb hts hin11 hown hK hP 0 rfl rfl 4 (by decide) w40 (fun _ h9 => h9) rfl dX11_fall_1 ?_
  refine lv_iload_n hx hb dX11_fall_4 rfl (lv_at hl 1 rfl) ?_
  refine lv_iload_n hx hb dX11_fall_5 rfl (lv_at hl 2 rfl) ?_
  refine e_callVi (As := [.int p1, .int p2]) (rest := []) clE_stable hs ⟨hx, hb, hml, hown, hts⟩ (cC_X2_canFall l D h cy _ _ _ _ hw) (cwV 2 hts gX11_fall_X2_canFall rfl rfl rfl (by decide +kernel) ⟨Nat.le_of_ble_eq_true rfl, Nat.le_of_ble_eq_true rfl⟩) (va_recv hK hP (ci := 2) (q0 := 7) rfl rfl) hK hP hD hS hA rfl hl.1 rfl (Nat.le_of_ble_eq_true rfl) dX11_fall_6 ⟨Nat.zero_le _, Nat.zero_le _⟩ (fun r_1 S_2 H locs hw hP hD hS => ?_)
  obtain ⟨hc_3t, hc_3f⟩ := hw
  refine lv_if_ne (tgt := 14) hx hb dX11_fall_9 (by decide) (fun c_3 => ?_) (fun c_3 => ?_)
  · have hw := hc_3f c_3
    clear hc_3t hc_3f
    refine lv_aload_n hx hb dX11_fall_14 rfl (lv_at hl 0 rfl) ?_
    refine va_get (D := D) (ci := 10) (v := .ref (h 1)) (C := RX11) (T := TX11) (N := 9) hx hb hts hin11 hown hK hP 0 rfl rfl 0 (by decide) w10 (fun _ h9 => h9) rfl dX11_fall_15 ?_
    refine va_get (D := D) (ci := 0) (v := .ref (h 2)) (C := RX0) (T := TX0) (N := 16) hx hb hts hin0 hown hK hP 1 rfl rfl 1 (by decide) w134 (fun _ h9 => h9) rfl dX11_fall_18 ?_
    refine lv_aload_n hx hb dX11_fall_21 rfl (lv_at hl 0 rfl) ?_
    refine va_get (D := D) (ci := 10) (v := .ref (h 1)) (C := RX11) (T := TX11) (N := 9) hx hb hts hin11 hown hK hP 0 rfl rfl 0 (by decide) w10 (fun _ h9 => h9) rfl dX11_fall_22 ?_
    refine va_get (D := D) (ci := 0) (v := .ref (h 12)) (C := RX0) (T := TX0) (N := 16) hx hb hts hin0 hown hK hP 1 rfl rfl 0 (by decide) w138 (fun _ h9 => h9) rfl dX11_fall_25 ?_
    refine e_callVv (As := [.ref (h 12)]) (rest := []) clE_stable hs ⟨hx, hb, hml, hown, hts⟩ (cC_X8_keepRow_city_now l D h cy _ _ hw) (cwV 1 hts gX11_fall_X8_keepRow rfl rfl rfl (by decide +kernel) ⟨Nat.le_of_ble_eq_true rfl, Nat.le_of_ble_eq_true rfl⟩) (va_recv hK hP (ci := 8) (q0 := 2) rfl rfl) hK hP hD hS hA rfl hl.1 rfl (Nat.le_of_ble_eq_true rfl) dX11_fall_28 ⟨Nat.zero_le _, Nat.zero_le _⟩ (fun S_5 H locs hw hP hD hS => ?_)
    refine lv_aload_n hx hb dX11_fall_31 rfl (lv_at hl 0 rfl) ?_
    refine va_get (D := D) (ci := 10) (v := .ref (h 7)) (C := RX11) (T := TX11) (N := 9) hx hb hts hin11 hown hK hP 0 rfl rfl 4 (by decide) w40 (fun _ h9 => h9) rfl dX11_fall_32 ?_
    refine lv_iload_n hx hb dX11_fall_35 rfl (lv_at hl 1 rfl) ?_
    refine lv_iload_n hx hb dX11_fall_36 rfl (lv_at hl 2 rfl) ?_
    refine e_callVv (As := [.int p1, .int p2]) (rest := []) clE_stable hs ⟨hx, hb, hml, hown, hts⟩ (cC_X2_falls l D h cy _ _ _ _ hw) (cwV 2 hts gX11_fall_X2_falls rfl rfl rfl (by decide +kernel) ⟨Nat.le_of_ble_eq_true rfl, Nat.le_of_ble_eq_true rfl⟩) (va_recv hK hP (ci := 2) (q0 := 7) rfl rfl) hK hP hD hS hA rfl hl.1 rfl (Nat.le_of_ble_eq_true rfl) dX11_fall_37 ⟨Nat.zero_le _, Nat.zero_le _⟩ (fun S_7 H locs hw hP hD hS => ?_)
    refine lv_aload_n hx hb dX11_fall_40 rfl (lv_at hl 0 rfl) ?_
    refine va_get (D := D) (ci := 10) (v := .ref (h 1)) (C := RX11) (T := TX11) (N := 9) hx hb hts hin11 hown hK hP 0 rfl rfl 0 (by decide) w10 (fun _ h9 => h9) rfl dX11_fall_41 ?_
    refine lv_bipush (v := 6) hx hb dX11_fall_44 (by decide) ?_
    refine lv_aload_n hx hb dX11_fall_46 rfl (lv_at hl 0 rfl) ?_
    refine va_get (D := D) (ci := 10) (v := .ref (h 1)) (C := RX11) (T := TX11) (N := 9) hx hb hts hin11 hown hK hP 0 rfl rfl 0 (by decide) w10 (fun _ h9 => h9) rfl dX11_fall_47 ?_
    refine lv_bipush (v := 29) hx hb dX11_fall_50 (by decide) ?_
    refine lv_iload_n hx hb dX11_fall_52 rfl (lv_at hl 1 rfl) ?_
    refine e_callVi (As := [.int 29, .int p1]) (rest := [.int 6, .ref (h 1)]) clE_stable hs ⟨hx, hb, hml, hown, hts⟩ (cC_X0_see l D h cy _ _ _ _ hw) (cwV 2 hts gX11_fall_X0_see rfl rfl rfl (by decide +kernel) ⟨Nat.le_of_ble_eq_true rfl, Nat.le_of_ble_eq_true rfl⟩) (va_recv hK hP (ci := 0) (q0 := 1) rfl rfl) hK hP hD hS hA rfl hl.1 rfl (Nat.le_of_ble_eq_true rfl) dX11_fall_53 ⟨Nat.zero_le _, Nat.zero_le _⟩ (fun r_8 S_9 H locs hw hP hD hS => ?_)
    refine e_callVi (As := [.int 6, .int r_8]) (rest := []) clE_stable hs ⟨hx, hb, hml, hown, hts⟩ (cC_X0_see l D h cy _ _ _ _ hw) (cwV 2 hts gX11_fall_X0_see rfl rfl rfl (by decide +kernel) ⟨Nat.le_of_ble_eq_true rfl, Nat.le_of_ble_eq_true rfl⟩) (va_recv hK hP (ci := 0) (q0 := 1) rfl rfl) hK hP hD hS hA rfl hl.1 rfl (Nat.le_of_ble_eq_true rfl) dX11_fall_56 ⟨Nat.zero_le _, Nat.zero_le _⟩ (fun r_10 S_11 H locs hw hP hD hS => ?_)
    exact W.iret (v := r_10) hx hb hr (fun t ht hW => ⟨⟨r_10, S_11, rfl, hw, by rw [ht]; exact hP, va_K.moved hW.alike hK, hD⟩, hS.F ht⟩) hS.2.2 dX11_fall_59
  · have hw := hc_3t c_3
    clear hc_3t hc_3f
    refine lv_iconst (v := (-1)) hx hb dX11_fall_12 (by decide) ?_
    exact W.iret (v := (-1)) hx hb hr (fun t ht hW => ⟨⟨(-1), S_2, rfl, hw, by rw [ht]; exact hP, va_K.moved hW.alike hK, hD⟩, hS.F ht⟩) hS.2.2 dX11_fall_13
def wC_X2_canRest (p1 : Int32) (S : CS) (post : Int32 → CS → Prop) : Prop := wC_X0_isOut p1 S (fun r_1 S_2 => (narrow .boolean (.int r_1) = .int r_1 ∧ post r_1 S_2))
set_option maxHeartbeats 4000000 in
set_option maxRecDepth 100000 in
theorem cC_X2_canRest (l : Launch) (D : va_G) (h : Nat → Nat) (cy : Nat → ClassId) (p1 : Int32) (S : CS) (post : Int32 → CS → Prop) (hw : wC_X2_canRest p1 S post) : e_Mi clE l yX2_canRest wsX2_canRest { frames := 3, cells := 0, slots := 0, locals := 64 } D (tyC cy) (wC h cy) [.ref (h 7), .int p1] S post := by
  intro sz
  refine Met.ofW (cc := cX2_canRest) (maxL := 2) (ret := (some .boolean)) (by decide) rfl ?_
  intro p e s m args below meth c s₁ B hml hv
  obtain ⟨rfl, hsz, hP, hK, hD0, hs⟩ := hv
  have hx := B.exec
  have hb := B.bytes
  have hr := B.returns
  have hts := atoms_spec (ws := wsX2_canRest) B.pre
  have hown : s.vm.findClass RX2 = some m.cls := findClass_of_methodNamed B.named
  have hlocks := B.notSynchronized
  subst hsz
  have hD := hD0.self (sz := s.heap.size)
  generalize hAe : va_A (wC h cy S) s.heap.size = A at hD hs ⊢
  have hA : ∀ q : Nat, s.heap.size ≤ q → A q := fun q h => by rw [← hAe]; exact Or.inr h
  have hS : va_S A s.heap s.heap [] := va_S.rf
  have hin2 : ∀ w ∈ wsX20, w ∈ wsX2_canRest := fun _ h => List.mem_cons_of_mem _ (List.mem_append_left _ (List.mem_append_right _ h))
  have hin0 : ∀ w ∈ wsX00, w ∈ wsX2_canRest := fun _ h => List.mem_cons_of_mem _ (List.mem_append_right _ h)
  have w17 := hts (.fieldLink RX2 17 "ClownsMourn$Guild" "city" "LClownsMourn$City;") (List.mem_of_getElem? (i := 1) rfl)
  have hl := lv_entry ([.ref (h 7), .int p1]) (n := 2) (Nat.le_of_ble_eq_true rfl)
  rw [lg_entry_eq]
  generalize (lg_sl ([.ref (h 7), .int p1]) ++ List.replicate (2 - (lg_sl ([.ref (h 7), .int p1])).length) Slot.unset).toArray = ls at hl ⊢
  have hl : lv_has ls 2 [(0, .ref (h 7)), (1, .int p1)] := hl
  unfold wC_X2_canRest at hw
  clear hD0
  refine lv_aload_n hx hb dX2_canRest_0 rfl (lv_at hl 0 rfl) ?_
  refine va_get (D := D) (ci := 2) (v := .ref (h 1)) (C := RX2) (T := TX2) (N := 3) hx hb hts hin2 hown hK hP 7 rfl rfl 0 (by decide) w17 (fun _ h9 => h9) rfl dX2_canRest_1 ?_
  refine lv_iload_n hx hb dX2_canRest_4 rfl (lv_at hl 1 rfl) ?_
  refine e_callVi (As := [.int p1]) (rest := []) clE_stable hs ⟨hx, hb, hml, hown, hts⟩ (cC_X0_isOut l D h cy _ _ _ hw) (cwV 1 hts gX2_canRest_X0_isOut rfl rfl rfl (by decide +kernel) ⟨Nat.le_of_ble_eq_true rfl, Nat.le_of_ble_eq_true rfl⟩) (va_recv hK hP (ci := 0) (q0 := 1) rfl rfl) hK hP hD hS hA rfl hl.1 rfl (Nat.le_of_ble_eq_true rfl) dX2_canRest_5 ⟨Nat.zero_le _, Nat.zero_le _⟩ (fun r_1 S_2 H locs hw hP hD hS => ?_)
  obtain ⟨hn, hw⟩ := hw
  exact W.zret (v := r_1) hx hb hr hn (fun t ht hW => ⟨⟨r_1, S_2, rfl, hw, by rw [ht]; exact hP, va_K.moved hW.alike hK, hD⟩, hS.F ht⟩) hS.2.2 dX2_canRest_8
def wC_X11_rest (p1 : Int32) (S : CS) (post : Int32 → CS → Prop) : Prop := wC_X2_canRest p1 S (fun r_1 S_2 => ((r_1 = 0 → post 0 S_2) ∧ (¬ (r_1 = 0) → wC_X8_keepRow_city_now S_2 (fun S_5 => wC_X2_goes p1 (-1) S_5 (fun S_7 => post 1 S_7)))))
set_option maxHeartbeats 4000000 in
set_option maxRecDepth 100000 in
theorem cC_X11_rest (l : Launch) (D : va_G) (h : Nat → Nat) (cy : Nat → ClassId) (p1 : Int32) (S : CS) (post : Int32 → CS → Prop) (hw : wC_X11_rest p1 S post) : e_Mi clE l yX11_rest wsX11_rest { frames := 4, cells := 0, slots := 0, locals := 105 } D (tyC cy) (wC h cy) [.ref (h 0), .int p1] S post := by
  intro sz
  refine Met.ofW (cc := cX11_rest) (maxL := 2) (ret := (some .boolean)) (by decide) rfl ?_
  intro p e s m args below meth c s₁ B hml hv
  obtain ⟨rfl, hsz, hP, hK, hD0, hs⟩ := hv
  have hx := B.exec
  have hb := B.bytes
  have hr := B.returns
  have hts := atoms_spec (ws := wsX11_rest) B.pre
  have hown : s.vm.findClass RX11 = some m.cls := findClass_of_methodNamed B.named
  have hlocks := B.notSynchronized
  subst hsz
  have hD := hD0.self (sz := s.heap.size)
  generalize hAe : va_A (wC h cy S) s.heap.size = A at hD hs ⊢
  have hA : ∀ q : Nat, s.heap.size ≤ q → A q := fun q h => by rw [← hAe]; exact Or.inr h
  have hS : va_S A s.heap s.heap [] := va_S.rf
  have hin11 : ∀ w ∈ wsX110, w ∈ wsX11_rest := fun _ h => List.mem_cons_of_mem _ (List.mem_append_left _ (List.mem_append_left _ (List.mem_append_left _ (List.mem_append_right _ h))))
  have hin0 : ∀ w ∈ wsX00, w ∈ wsX11_rest := fun _ h => List.mem_cons_of_mem _ (List.mem_append_left _ (List.mem_append_left _ (List.mem_append_right _ h)))
  have hin2 : ∀ w ∈ wsX20, w ∈ wsX11_rest := fun _ h => List.mem_cons_of_mem _ (List.mem_append_left _ (List.mem_append_right _ h))
  have hin8 : ∀ w ∈ wsX80, w ∈ wsX11_rest := fun _ h => List.mem_cons_of_mem _ (List.mem_append_right _ h)
  have w10 := hts (.fieldLink RX11 10 "ClownsMourn" "city" "LClownsMourn$City;") (List.mem_of_getElem? (i := 2) rfl)
  have w134 := hts (.fieldLink RX11 134 "ClownsMourn$City" "steps" "LClownsMourn$Steps;") (List.mem_of_getElem? (i := 3) rfl)
  have w138 := hts (.fieldLink RX11 138 "ClownsMourn$City" "now" "[I") (List.mem_of_getElem? (i := 4) rfl)
  have w40 := hts (.fieldLink RX11 40 "ClownsMourn" "guild" "LClownsMourn$Guild;") (List.mem_of_getElem? (i := 1) rfl)
  have hl := lv_entry ([.ref (h 0), .int p1]) (n := 2) (Nat.le_of_ble_eq_true rfl)
  rw [lg_entry_eq]
  generalize (lg_sl ([.ref (h 0), .int p1]) ++ List.replicate (2 - (lg_sl ([.ref (h 0), .int p1])).length) Slot.unset).toArray = ls at hl ⊢
  have hl : lv_has ls 2 [(0, .ref (h 0)), (1, .int p1)] := hl
  unfold wC_X11_rest at hw
  clear hD0
  refine lv_aload_n hx hb dX11_rest_0 rfl (lv_at hl 0 rfl) ?_
  refine va_get (D := D) (ci := 10) (v := .ref (h 7)) (C := RX11) (T := TX11) (N := 9) hx hb hts hin11 hown hK hP 0 rfl rfl 4 (by decide) w40 (fun _ h9 => h9) rfl dX11_rest_1 ?_
  refine lv_iload_n hx hb dX11_rest_4 rfl (lv_at hl 1 rfl) ?_
  refine e_callVi (As := [.int p1]) (rest := []) clE_stable hs ⟨hx, hb, hml, hown, hts⟩ (cC_X2_canRest l D h cy _ _ _ hw) (cwV 1 hts gX11_rest_X2_canRest rfl rfl rfl (by decide +kernel) ⟨Nat.le_of_ble_eq_true rfl, Nat.le_of_ble_eq_true rfl⟩) (va_recv hK hP (ci := 2) (q0 := 7) rfl rfl) hK hP hD hS hA rfl hl.1 rfl (Nat.le_of_ble_eq_true rfl) dX11_rest_5 ⟨Nat.zero_le _, Nat.zero_le _⟩ (fun r_1 S_2 H locs hw hP hD hS => ?_)
  obtain ⟨hc_3t, hc_3f⟩ := hw
  refine lv_if_ne (tgt := 13) hx hb dX11_rest_8 (by decide) (fun c_3 => ?_) (fun c_3 => ?_)
  · have hw := hc_3f c_3
    clear hc_3t hc_3f
    refine lv_aload_n hx hb dX11_rest_13 rfl (lv_at hl 0 rfl) ?_
    refine va_get (D := D) (ci := 10) (v := .ref (h 1)) (C := RX11) (T := TX11) (N := 9) hx hb hts hin11 hown hK hP 0 rfl rfl 0 (by decide) w10 (fun _ h9 => h9) rfl dX11_rest_14 ?_
    refine va_get (D := D) (ci := 0) (v := .ref (h 2)) (C := RX0) (T := TX0) (N := 16) hx hb hts hin0 hown hK hP 1 rfl rfl 1 (by decide) w134 (fun _ h9 => h9) rfl dX11_rest_17 ?_
    refine lv_aload_n hx hb dX11_rest_20 rfl (lv_at hl 0 rfl) ?_
    refine va_get (D := D) (ci := 10) (v := .ref (h 1)) (C := RX11) (T := TX11) (N := 9) hx hb hts hin11 hown hK hP 0 rfl rfl 0 (by decide) w10 (fun _ h9 => h9) rfl dX11_rest_21 ?_
    refine va_get (D := D) (ci := 0) (v := .ref (h 12)) (C := RX0) (T := TX0) (N := 16) hx hb hts hin0 hown hK hP 1 rfl rfl 0 (by decide) w138 (fun _ h9 => h9) rfl dX11_rest_24 ?_
    refine e_callVv (As := [.ref (h 12)]) (rest := []) clE_stable hs ⟨hx, hb, hml, hown, hts⟩ (cC_X8_keepRow_city_now l D h cy _ _ hw) (cwV 1 hts gX11_rest_X8_keepRow rfl rfl rfl (by decide +kernel) ⟨Nat.le_of_ble_eq_true rfl, Nat.le_of_ble_eq_true rfl⟩) (va_recv hK hP (ci := 8) (q0 := 2) rfl rfl) hK hP hD hS hA rfl hl.1 rfl (Nat.le_of_ble_eq_true rfl) dX11_rest_27 ⟨Nat.zero_le _, Nat.zero_le _⟩ (fun S_5 H locs hw hP hD hS => ?_)
    refine lv_aload_n hx hb dX11_rest_30 rfl (lv_at hl 0 rfl) ?_
    refine va_get (D := D) (ci := 10) (v := .ref (h 7)) (C := RX11) (T := TX11) (N := 9) hx hb hts hin11 hown hK hP 0 rfl rfl 4 (by decide) w40 (fun _ h9 => h9) rfl dX11_rest_31 ?_
    refine lv_iload_n hx hb dX11_rest_34 rfl (lv_at hl 1 rfl) ?_
    refine lv_iconst (v := (-1)) hx hb dX11_rest_35 (by decide) ?_
    refine e_callVv (As := [.int p1, .int (-1)]) (rest := []) clE_stable hs ⟨hx, hb, hml, hown, hts⟩ (cC_X2_goes l D h cy _ _ _ _ hw) (cwV 2 hts gX11_rest_X2_goes rfl rfl rfl (by decide +kernel) ⟨Nat.le_of_ble_eq_true rfl, Nat.le_of_ble_eq_true rfl⟩) (va_recv hK hP (ci := 2) (q0 := 7) rfl rfl) hK hP hD hS hA rfl hl.1 rfl (Nat.le_of_ble_eq_true rfl) dX11_rest_36 ⟨Nat.zero_le _, Nat.zero_le _⟩ (fun S_7 H locs hw hP hD hS => ?_)
    refine lv_iconst (v := 1) hx hb dX11_rest_39 (by decide) ?_
    exact W.zret (v := 1) hx hb hr (by decide +kernel) (fun t ht hW => ⟨⟨1, S_7, rfl, hw, by rw [ht]; exact hP, va_K.moved hW.alike hK, hD⟩, hS.F ht⟩) hS.2.2 dX11_rest_40
  · have hw := hc_3t c_3
    clear hc_3t hc_3f
    refine lv_iconst (v := 0) hx hb dX11_rest_11 (by decide) ?_
    exact W.zret (v := 0) hx hb hr (by decide +kernel) (fun t ht hW => ⟨⟨0, S_2, rfl, hw, by rw [ht]; exact hP, va_K.moved hW.alike hK, hD⟩, hS.F ht⟩) hS.2.2 dX11_rest_12
def wC_X2_canPass (S : CS) (post : Int32 → CS → Prop) : Prop := wC_X0_today S (fun r_1 S_2 => ((9999 ≤ r_1 → post 0 S_2) ∧ (¬ (9999 ≤ r_1) → post 1 S_2)))
set_option maxHeartbeats 4000000 in
set_option maxRecDepth 100000 in
theorem cC_X2_canPass (l : Launch) (D : va_G) (h : Nat → Nat) (cy : Nat → ClassId) (S : CS) (post : Int32 → CS → Prop) (hw : wC_X2_canPass S post) : e_Mi clE l yX2_canPass wsX2_canPass { frames := 2, cells := 0, slots := 0, locals := 41 } D (tyC cy) (wC h cy) [.ref (h 7)] S post := by
  intro sz
  refine Met.ofW (cc := cX2_canPass) (maxL := 1) (ret := (some .boolean)) (by decide) rfl ?_
  intro p e s m args below meth c s₁ B hml hv
  obtain ⟨rfl, hsz, hP, hK, hD0, hs⟩ := hv
  have hx := B.exec
  have hb := B.bytes
  have hr := B.returns
  have hts := atoms_spec (ws := wsX2_canPass) B.pre
  have hown : s.vm.findClass RX2 = some m.cls := findClass_of_methodNamed B.named
  have hlocks := B.notSynchronized
  subst hsz
  have hD := hD0.self (sz := s.heap.size)
  generalize hAe : va_A (wC h cy S) s.heap.size = A at hD hs ⊢
  have hA : ∀ q : Nat, s.heap.size ≤ q → A q := fun q h => by rw [← hAe]; exact Or.inr h
  have hS : va_S A s.heap s.heap [] := va_S.rf
  have hin2 : ∀ w ∈ wsX20, w ∈ wsX2_canPass := fun _ h => List.mem_cons_of_mem _ (List.mem_append_left _ (List.mem_append_right _ h))
  have hin0 : ∀ w ∈ wsX00, w ∈ wsX2_canPass := fun _ h => List.mem_cons_of_mem _ (List.mem_append_right _ h)
  have w17 := hts (.fieldLink RX2 17 "ClownsMourn$Guild" "city" "LClownsMourn$City;") (List.mem_of_getElem? (i := 1) rfl)
  have hl := lv_entry ([.ref (h 7)]) (n := 1) (Nat.le_of_ble_eq_true rfl)
  rw [lg_entry_eq]
  generalize (lg_sl ([.ref (h 7)]) ++ List.replicate (1 - (lg_sl ([.ref (h 7)])).length) Slot.unset).toArray = ls at hl ⊢
  have hl : lv_has ls 1 [(0, .ref (h 7))] := hl
  unfold wC_X2_canPass at hw
  clear hD0
  refine lv_aload_n hx hb dX2_canPass_0 rfl (lv_at hl 0 rfl) ?_
  refine va_get (D := D) (ci := 2) (v := .ref (h 1)) (C := RX2) (T := TX2) (N := 3) hx hb hts hin2 hown hK hP 7 rfl rfl 0 (by decide) w17 (fun _ h9 => h9) rfl dX2_canPass_1 ?_
  refine e_callVi (As := []) (rest := []) clE_stable hs ⟨hx, hb, hml, hown, hts⟩ (cC_X0_today l D h cy _ _ hw) (cwV 0 hts gX2_canPass_X0_today rfl rfl rfl (by decide +kernel) ⟨Nat.le_of_ble_eq_true rfl, Nat.le_of_ble_eq_true rfl⟩) (va_recv hK hP (ci := 0) (q0 := 1) rfl rfl) hK hP hD hS hA rfl hl.1 rfl (Nat.le_of_ble_eq_true rfl) dX2_canPass_4 ⟨Nat.zero_le _, Nat.zero_le _⟩ (fun r_1 S_2 H locs hw hP hD hS => ?_)
  refine lv_sipush (v := 9999) hx hb dX2_canPass_7 (by decide) ?_
  obtain ⟨hc_3t, hc_3f⟩ := hw
  refine lv_icmp_ge (tgt := 17) hx hb dX2_canPass_10 (by decide) (fun c_3 => ?_) (fun c_3 => ?_)
  · have hw := hc_3t c_3
    clear hc_3t hc_3f
    refine lv_iconst (v := 0) hx hb dX2_canPass_17 (by decide) ?_
    exact W.zret (v := 0) hx hb hr (by decide +kernel) (fun t ht hW => ⟨⟨0, S_2, rfl, hw, by rw [ht]; exact hP, va_K.moved hW.alike hK, hD⟩, hS.F ht⟩) hS.2.2 dX2_canPass_18
  · have hw := hc_3f c_3
    clear hc_3t hc_3f
    refine lv_iconst (v := 1) hx hb dX2_canPass_13 (by decide) ?_
    refine lv_goto (tgt := 18) hx hb dX2_canPass_14 (by decide) ?_
    exact W.zret (v := 1) hx hb hr (by decide +kernel) (fun t ht hW => ⟨⟨1, S_2, rfl, hw, by rw [ht]; exact hP, va_K.moved hW.alike hK, hD⟩, hS.F ht⟩) hS.2.2 dX2_canPass_18
def wC_X0_clownCount (S : CS) (post : Int32 → CS → Prop) : Prop := post (if 5 < (k_at 74 (cx_c_now S) 73) then 5 else (k_at 74 (cx_c_now S) 73)) S
set_option maxHeartbeats 4000000 in
set_option maxRecDepth 100000 in
theorem cC_X0_clownCount (l : Launch) (D : va_G) (h : Nat → Nat) (cy : Nat → ClassId) (S : CS) (post : Int32 → CS → Prop) (hw : wC_X0_clownCount S post) : e_Mi clE l yX0_clownCount wsX0_clownCount { frames := 1, cells := 0, slots := 0, locals := 21 } D (tyC cy) (wC h cy) [.ref (h 1)] S post := by
  intro sz
  refine Met.ofW (cc := cX0_clownCount) (maxL := 1) (ret := (some .int)) (by decide) rfl ?_
  intro p e s m args below meth c s₁ B hml hv
  obtain ⟨rfl, hsz, hP, hK, hD0, hs⟩ := hv
  have hx := B.exec
  have hb := B.bytes
  have hr := B.returns
  have hts := atoms_spec (ws := wsX0_clownCount) B.pre
  have hown : s.vm.findClass RX0 = some m.cls := findClass_of_methodNamed B.named
  have hlocks := B.notSynchronized
  subst hsz
  have hD := hD0.self (sz := s.heap.size)
  generalize hAe : va_A (wC h cy S) s.heap.size = A at hD hs ⊢
  have hA : ∀ q : Nat, s.heap.size ≤ q → A q := fun q h => by rw [← hAe]; exact Or.inr h
  have hS : va_S A s.heap s.heap [] := va_S.rf
  have hin0 : ∀ w ∈ wsX00, w ∈ wsX0_clownCount := fun _ h => List.mem_cons_of_mem _ (List.mem_append_right _ h)
  have w11 := hts (.fieldLink RX0 11 "ClownsMourn$City" "now" "[I") (List.mem_of_getElem? (i := 1) rfl)
  have wm90 := hts (.methodLink RX0 90 Lib.Math.min.name) (List.mem_of_getElem? (i := 2) rfl)
  have wsmin := hts (.static Lib.Math.min.name) (List.mem_of_getElem? (i := 3) rfl)
  have wcdmin := hts (.code Lib.Math.min.name Lib.Math.min.code 2 (some .int)) (List.mem_of_getElem? (i := 5) rfl)
  have wiM := hts (.initialized "java/lang/Math") (List.mem_of_getElem? (i := 4) rfl)
  have wiX11 := hts (.initialized RX11) (List.mem_of_getElem? (i := 7) rfl)
  have wstat := hts (.static yX11_at) (List.mem_of_getElem? (i := 6) rfl)
  have hl := lv_entry ([.ref (h 1)]) (n := 1) (Nat.le_of_ble_eq_true rfl)
  rw [lg_entry_eq]
  generalize (lg_sl ([.ref (h 1)]) ++ List.replicate (1 - (lg_sl ([.ref (h 1)])).length) Slot.unset).toArray = ls at hl ⊢
  have hl : lv_has ls 1 [(0, .ref (h 1))] := hl
  unfold wC_X0_clownCount at hw
  clear hD0
  refine lv_aload_n hx hb dX0_clownCount_0 rfl (lv_at hl 0 rfl) ?_
  refine va_get (D := D) (ci := 0) (v := .ref (h 12)) (C := RX0) (T := TX0) (N := 16) hx hb hts hin0 hown hK hP 1 rfl rfl 0 (by decide) w11 (fun _ h9 => h9) rfl dX0_clownCount_1 ?_
  refine lv_bipush (v := 73) hx hb dX0_clownCount_4 (by decide) ?_
  refine e_callNi (As := [.ref (h 12), .int 73]) (rest := []) clE_stable hs ⟨hx, hb, hml, hown, hts⟩ (cA_at l D clE (tyC cy) (wC h cy) S 12 0 _ _ 74 (cx_c_now S) rfl rfl (by decide) _ (fun r S0 => r = k_at 74 (cx_c_now S) 73 ∧ S = S0) ⟨rfl, rfl⟩) ⟨va_cnB 2 hts gX0_clownCount_X11_at_n86 rfl rfl rfl hs.1.2.2.2.2.2.2.1 wiX11 (by decide +kernel) ⟨Nat.le_of_ble_eq_true rfl, Nat.le_of_ble_eq_true rfl⟩, wstat, trivial⟩ hK hP hD hS hA rfl hl.1 rfl (Nat.le_of_ble_eq_true rfl) dX0_clownCount_6 ⟨Nat.zero_le _, Nat.zero_le _⟩ (fun r_ S_ H locs hq hP hD hS => ?_)
  obtain ⟨rfl, rfl⟩ := hq
  refine lv_iconst (v := 5) hx hb dX0_clownCount_9 (by decide) ?_
  refine va_mmin (own := RX0) (index := 90) hx hb (hml.trans hl.1.symm) hown wm90 wsmin wiM wcdmin (Nat.le_of_ble_eq_true rfl) (Nat.le_of_ble_eq_true rfl) (Nat.zero_le _) (Nat.zero_le _) dX0_clownCount_10 ?_
  exact W.iret (v := (if 5 < (k_at 74 (cx_c_now S) 73) then 5 else (k_at 74 (cx_c_now S) 73))) hx hb hr (fun t ht hW => ⟨⟨(if 5 < (k_at 74 (cx_c_now S) 73) then 5 else (k_at 74 (cx_c_now S) 73)), S, rfl, hw, by rw [ht]; exact hP, va_K.moved hW.alike hK, hD⟩, hS.F ht⟩) hS.2.2 dX0_clownCount_13
def wC_X0_houseCount (S : CS) (post : Int32 → CS → Prop) : Prop := post (if 6 < (k_at 74 (cx_c_now S) 72) then 6 else (k_at 74 (cx_c_now S) 72)) S
set_option maxHeartbeats 4000000 in
set_option maxRecDepth 100000 in
theorem cC_X0_houseCount (l : Launch) (D : va_G) (h : Nat → Nat) (cy : Nat → ClassId) (S : CS) (post : Int32 → CS → Prop) (hw : wC_X0_houseCount S post) : e_Mi clE l yX0_houseCount wsX0_houseCount { frames := 1, cells := 0, slots := 0, locals := 21 } D (tyC cy) (wC h cy) [.ref (h 1)] S post := by
  intro sz
  refine Met.ofW (cc := cX0_houseCount) (maxL := 1) (ret := (some .int)) (by decide) rfl ?_
  intro p e s m args below meth c s₁ B hml hv
  obtain ⟨rfl, hsz, hP, hK, hD0, hs⟩ := hv
  have hx := B.exec
  have hb := B.bytes
  have hr := B.returns
  have hts := atoms_spec (ws := wsX0_houseCount) B.pre
  have hown : s.vm.findClass RX0 = some m.cls := findClass_of_methodNamed B.named
  have hlocks := B.notSynchronized
  subst hsz
  have hD := hD0.self (sz := s.heap.size)
  generalize hAe : va_A (wC h cy S) s.heap.size = A at hD hs ⊢
  have hA : ∀ q : Nat, s.heap.size ≤ q → A q := fun q h => by rw [← hAe]; exact Or.inr h
  have hS : va_S A s.heap s.heap [] := va_S.rf
  have hin0 : ∀ w ∈ wsX00, w ∈ wsX0_houseCount := fun _ h => List.mem_cons_of_mem _ (List.mem_append_right _ h)
  have w11 := hts (.fieldLink RX0 11 "ClownsMourn$City" "now" "[I") (List.mem_of_getElem? (i := 1) rfl)
  have wm90 := hts (.methodLink RX0 90 Lib.Math.min.name) (List.mem_of_getElem? (i := 2) rfl)
  have wsmin := hts (.static Lib.Math.min.name) (List.mem_of_getElem? (i := 3) rfl)
  have wcdmin := hts (.code Lib.Math.min.name Lib.Math.min.code 2 (some .int)) (List.mem_of_getElem? (i := 5) rfl)
  have wiM := hts (.initialized "java/lang/Math") (List.mem_of_getElem? (i := 4) rfl)
  have wiX11 := hts (.initialized RX11) (List.mem_of_getElem? (i := 7) rfl)
  have wstat := hts (.static yX11_at) (List.mem_of_getElem? (i := 6) rfl)
  have hl := lv_entry ([.ref (h 1)]) (n := 1) (Nat.le_of_ble_eq_true rfl)
  rw [lg_entry_eq]
  generalize (lg_sl ([.ref (h 1)]) ++ List.replicate (1 - (lg_sl ([.ref (h 1)])).length) Slot.unset).toArray = ls at hl ⊢
  have hl : lv_has ls 1 [(0, .ref (h 1))] := hl
  unfold wC_X0_houseCount at hw
  clear hD0
  refine lv_aload_n hx hb dX0_houseCount_0 rfl (lv_at hl 0 rfl) ?_
  refine va_get (D := D) (ci := 0) (v := .ref (h 12)) (C := RX0) (T := TX0) (N := 16) hx hb hts hin0 hown hK hP 1 rfl rfl 0 (by decide) w11 (fun _ h9 => h9) rfl dX0_houseCount_1 ?_
  refine lv_bipush (v := 72) hx hb dX0_houseCount_4 (by decide) ?_
  refine e_callNi (As := [.ref (h 12), .int 72]) (rest := []) clE_stable hs ⟨hx, hb, hml, hown, hts⟩ (cA_at l D clE (tyC cy) (wC h cy) S 12 0 _ _ 74 (cx_c_now S) rfl rfl (by decide) _ (fun r S0 => r = k_at 74 (cx_c_now S) 72 ∧ S = S0) ⟨rfl, rfl⟩) ⟨va_cnB 2 hts gX0_houseCount_X11_at_n86 rfl rfl rfl hs.1.2.2.2.2.2.2.1 wiX11 (by decide +kernel) ⟨Nat.le_of_ble_eq_true rfl, Nat.le_of_ble_eq_true rfl⟩, wstat, trivial⟩ hK hP hD hS hA rfl hl.1 rfl (Nat.le_of_ble_eq_true rfl) dX0_houseCount_6 ⟨Nat.zero_le _, Nat.zero_le _⟩ (fun r_ S_ H locs hq hP hD hS => ?_)
  obtain ⟨rfl, rfl⟩ := hq
  refine lv_bipush (v := 6) hx hb dX0_houseCount_9 (by decide) ?_
  refine va_mmin (own := RX0) (index := 90) hx hb (hml.trans hl.1.symm) hown wm90 wsmin wiM wcdmin (Nat.le_of_ble_eq_true rfl) (Nat.le_of_ble_eq_true rfl) (Nat.zero_le _) (Nat.zero_le _) dX0_houseCount_11 ?_
  exact W.iret (v := (if 6 < (k_at 74 (cx_c_now S) 72) then 6 else (k_at 74 (cx_c_now S) 72))) hx hb hr (fun t ht hW => ⟨⟨(if 6 < (k_at 74 (cx_c_now S) 72) then 6 else (k_at 74 (cx_c_now S) 72)), S, rfl, hw, by rw [ht]; exact hP, va_K.moved hW.alike hK, hD⟩, hS.F ht⟩) hS.2.2 dX0_houseCount_14
def wC_X0_clownsAt_4 (post : Int32 → CS → Prop) : Nat → Int32 → Int32 → Int32 → CS → Prop
  | 0, _, _, _, _ => False
  | n + 1, x1, x2, x3, S => wC_X0_clownCount S (fun r_1 S_2 => ((r_1 ≤ x3 → post x2 S_2) ∧ (¬ (r_1 ≤ x3) → wC_X0_see 29 x3 S_2 (fun r_4 S_5 => ((r_4 = x1 → wC_X0_clownsAt_4 post n x1 (x2 ||| (k_shl 1 x3)) (x3 + 1) S_5) ∧ (¬ (r_4 = x1) → wC_X0_clownsAt_4 post n x1 x2 (x3 + 1) S_5))))))
def wC_X0_clownsAt (p1 : Int32) (S : CS) (post : Int32 → CS → Prop) : Prop := ∃ k_ : Nat, wC_X0_clownsAt_4 post k_ p1 0 0 S
set_option maxHeartbeats 4000000 in
set_option maxRecDepth 100000 in
theorem cC_X0_clownsAt (l : Launch) (D : va_G) (h : Nat → Nat) (cy : Nat → ClassId) (p1 : Int32) (S : CS) (post : Int32 → CS → Prop) (hw : wC_X0_clownsAt p1 S post) : e_Mi clE l yX0_clownsAt wsX0_clownsAt { frames := 2, cells := 0, slots := 0, locals := 43 } D (tyC cy) (wC h cy) [.ref (h 1), .int p1] S post := by
  intro sz
  refine Met.ofW (cc := cX0_clownsAt) (maxL := 4) (ret := (some .int)) (by decide) rfl ?_
  intro p e s m args below meth c s₁ B hml hv
  obtain ⟨rfl, hsz, hP, hK, hD0, hs⟩ := hv
  have hx := B.exec
  have hb := B.bytes
  have hr := B.returns
  have hts := atoms_spec (ws := wsX0_clownsAt) B.pre
  have hown : s.vm.findClass RX0 = some m.cls := findClass_of_methodNamed B.named
  have hlocks := B.notSynchronized
  subst hsz
  have hD := hD0.self (sz := s.heap.size)
  generalize hAe : va_A (wC h cy S) s.heap.size = A at hD hs ⊢
  have hA : ∀ q : Nat, s.heap.size ≤ q → A q := fun q h => by rw [← hAe]; exact Or.inr h
  have hS : va_S A s.heap s.heap [] := va_S.rf
  have hl := lv_entry ([.ref (h 1), .int p1]) (n := 4) (Nat.le_of_ble_eq_true rfl)
  rw [lg_entry_eq]
  generalize (lg_sl ([.ref (h 1), .int p1]) ++ List.replicate (4 - (lg_sl ([.ref (h 1), .int p1])).length) Slot.unset).toArray = ls at hl ⊢
  have hl : lv_has ls 4 [(0, .ref (h 1)), (1, .int p1)] := hl
  unfold wC_X0_clownsAt at hw
  clear hD0
  have L_4 : ∀ (n4 : Nat) (x1 : Int32) (x2 : Int32) (x3 : Int32) (S : CS) (H : Heap) (locs : List Loc) (ls : Array Slot), wC_X0_clownsAt_4 post n4 x1 x2 x3 S → va_P D vwCl (wC h cy S) H → va_D A (wC h cy S) → va_S A s.heap H locs → lv_has ls 4 [(0, .ref (h 1)), (1, .int x1), (2, .int x2), (3, .int x3)] → W p l e (headSpec wsX0_clownsAt { frames := 2, cells := 0, slots := 0, locals := 43 }).room s m (([.ref (h 1), .int p1] : List Value).toArray) below meth c H locs 0 0 (MQ below (va_Qi post (k_Post D (tyC cy) (wC h cy) A) A) (([.ref (h 1), .int p1] : List Value).toArray) s 0 0 A) (F0 m 4 ls []) := by
    intro n4
    induction n4 with
    | zero => intro x1 x2 x3 S H locs ls hw; exact False.elim hw
    | succ n4 ih_4 =>
      intro x1 x2 x3 S H locs ls hw hP hD hS hl
      unfold wC_X0_clownsAt_4 at hw
      refine lv_iload_n hx hb dX0_clownsAt_4 rfl (lv_at hl 3 rfl) ?_
      refine lv_aload_n hx hb dX0_clownsAt_5 rfl (lv_at hl 0 rfl) ?_
      refine e_callVi (As := []) (rest := [.int x3]) clE_stable hs ⟨hx, hb, hml, hown, hts⟩ (cC_X0_clownCount l D h cy _ _ hw) (cwV 0 hts gX0_clownsAt_X0_clownCount rfl rfl rfl (by decide +kernel) ⟨Nat.le_of_ble_eq_true rfl, Nat.le_of_ble_eq_true rfl⟩) (va_recv hK hP (ci := 0) (q0 := 1) rfl rfl) hK hP hD hS hA rfl hl.1 rfl (Nat.le_of_ble_eq_true rfl) dX0_clownsAt_6 ⟨Nat.zero_le _, Nat.zero_le _⟩ (fun r_1 S_2 H locs hw hP hD hS => ?_)
      obtain ⟨hc_3t, hc_3f⟩ := hw
      refine lv_icmp_ge (tgt := 35) hx hb dX0_clownsAt_9 (by decide) (fun c_3 => ?_) (fun c_3 => ?_)
      · have hw := hc_3t c_3
        clear hc_3t hc_3f
        refine lv_iload_n hx hb dX0_clownsAt_35 rfl (lv_at hl 2 rfl) ?_
        exact W.iret (v := x2) hx hb hr (fun t ht hW => ⟨⟨x2, S_2, rfl, hw, by rw [ht]; exact hP, va_K.moved hW.alike hK, hD⟩, hS.F ht⟩) hS.2.2 dX0_clownsAt_36
      · have hw := hc_3f c_3
        clear hc_3t hc_3f
        refine lv_aload_n hx hb dX0_clownsAt_12 rfl (lv_at hl 0 rfl) ?_
        refine lv_bipush (v := 29) hx hb dX0_clownsAt_13 (by decide) ?_
        refine lv_iload_n hx hb dX0_clownsAt_15 rfl (lv_at hl 3 rfl) ?_
        refine e_callVi (As := [.int 29, .int x3]) (rest := []) clE_stable hs ⟨hx, hb, hml, hown, hts⟩ (cC_X0_see l D h cy _ _ _ _ hw) (cwV 2 hts gX0_clownsAt_X0_see rfl rfl rfl (by decide +kernel) ⟨Nat.le_of_ble_eq_true rfl, Nat.le_of_ble_eq_true rfl⟩) (va_recv hK hP (ci := 0) (q0 := 1) rfl rfl) hK hP hD hS hA rfl hl.1 rfl (Nat.le_of_ble_eq_true rfl) dX0_clownsAt_16 ⟨Nat.zero_le _, Nat.zero_le _⟩ (fun r_4 S_5 H locs hw hP hD hS => ?_)
        refine lv_iload_n hx hb dX0_clownsAt_19 rfl (lv_at hl 1 rfl) ?_
        obtain ⟨hc_6t, hc_6f⟩ := hw
        refine lv_icmp_ne (tgt := 29) hx hb dX0_clownsAt_20 (by decide) (fun c_6 => ?_) (fun c_6 => ?_)
        · have hw := hc_6f c_6
          clear hc_6t hc_6f
          refine lv_iinc (v := x3 + 1) (lv' := [(3, .int (x3 + 1)), (0, .ref (h 1)), (1, .int x1), (2, .int x2)]) hx hb dX0_clownsAt_29 hl (k := 3) rfl (k_inc (by decide)) (by decide) rfl (fun ls hl => ?_)
          refine lv_goto (tgt := 4) hx hb dX0_clownsAt_32 (by decide) ?_
          exact ih_4 x1 x2 (x3 + 1) S_5 _ _ _ hw hP hD hS (lv_sub hl [1, 2, 3, 0] rfl)
        · have hw := hc_6t c_6
          clear hc_6t hc_6f
          refine lv_iload_n hx hb dX0_clownsAt_23 rfl (lv_at hl 2 rfl) ?_
          refine lv_iconst (v := 1) hx hb dX0_clownsAt_24 (by decide) ?_
          refine lv_iload_n hx hb dX0_clownsAt_25 rfl (lv_at hl 3 rfl) ?_
          refine k_ishl hx hb dX0_clownsAt_26 ?_
          refine lv_ior hx hb dX0_clownsAt_27 ?_
          refine lv_istore_n (lv' := [(2, .int (x2 ||| (k_shl 1 x3))), (0, .ref (h 1)), (1, .int x1), (3, .int x3)]) hx hb dX0_clownsAt_28 rfl hl (by decide) rfl (fun ls hl => ?_)
          refine lv_iinc (v := x3 + 1) (lv' := [(3, .int (x3 + 1)), (2, .int (x2 ||| (k_shl 1 x3))), (0, .ref (h 1)), (1, .int x1)]) hx hb dX0_clownsAt_29 hl (k := 3) rfl (k_inc (by decide)) (by decide) rfl (fun ls hl => ?_)
          refine lv_goto (tgt := 4) hx hb dX0_clownsAt_32 (by decide) ?_
          exact ih_4 x1 (x2 ||| (k_shl 1 x3)) (x3 + 1) S_5 _ _ _ hw hP hD hS (lv_sub hl [2, 3, 1, 0] rfl)
  refine lv_iconst (v := 0) hx hb dX0_clownsAt_0 (by decide) ?_
  refine lv_istore_n (lv' := [(2, .int 0), (0, .ref (h 1)), (1, .int p1)]) hx hb dX0_clownsAt_1 rfl hl (by decide) rfl (fun ls hl => ?_)
  refine lv_iconst (v := 0) hx hb dX0_clownsAt_2 (by decide) ?_
  refine lv_istore_n (lv' := [(3, .int 0), (2, .int 0), (0, .ref (h 1)), (1, .int p1)]) hx hb dX0_clownsAt_3 rfl hl (by decide) rfl (fun ls hl => ?_)
  obtain ⟨n_4, hw⟩ := hw
  exact L_4 n_4 p1 0 0 S _ _ _ hw hP hD hS (lv_sub hl [2, 3, 1, 0] rfl)
def wC_J6_bitCount_0f7a4 (p1 : Int32) (S : CS) (post : Int32 → CS → Prop) : Prop := post ((((((((p1 - ((k_ushr p1 1) &&& 1431655765)) &&& 858993459) + ((k_ushr (p1 - ((k_ushr p1 1) &&& 1431655765)) 2) &&& 858993459)) + (k_ushr (((p1 - ((k_ushr p1 1) &&& 1431655765)) &&& 858993459) + ((k_ushr (p1 - ((k_ushr p1 1) &&& 1431655765)) 2) &&& 858993459)) 4)) &&& 252645135) + (k_ushr (((((p1 - ((k_ushr p1 1) &&& 1431655765)) &&& 858993459) + ((k_ushr (p1 - ((k_ushr p1 1) &&& 1431655765)) 2) &&& 858993459)) + (k_ushr (((p1 - ((k_ushr p1 1) &&& 1431655765)) &&& 858993459) + ((k_ushr (p1 - ((k_ushr p1 1) &&& 1431655765)) 2) &&& 858993459)) 4)) &&& 252645135) 8)) + (k_ushr ((((((p1 - ((k_ushr p1 1) &&& 1431655765)) &&& 858993459) + ((k_ushr (p1 - ((k_ushr p1 1) &&& 1431655765)) 2) &&& 858993459)) + (k_ushr (((p1 - ((k_ushr p1 1) &&& 1431655765)) &&& 858993459) + ((k_ushr (p1 - ((k_ushr p1 1) &&& 1431655765)) 2) &&& 858993459)) 4)) &&& 252645135) + (k_ushr (((((p1 - ((k_ushr p1 1) &&& 1431655765)) &&& 858993459) + ((k_ushr (p1 - ((k_ushr p1 1) &&& 1431655765)) 2) &&& 858993459)) + (k_ushr (((p1 - ((k_ushr p1 1) &&& 1431655765)) &&& 858993459) + ((k_ushr (p1 - ((k_ushr p1 1) &&& 1431655765)) 2) &&& 858993459)) 4)) &&& 252645135) 8)) 16)) &&& 63) S
set_option maxHeartbeats 4000000 in
set_option maxRecDepth 100000 in
theorem cC_J6_bitCount_0f7a4 (l : Launch) (D : va_G) (h : Nat → Nat) (cy : Nat → ClassId) (p1 : Int32) (S : CS) (post : Int32 → CS → Prop) (hw : wC_J6_bitCount_0f7a4 p1 S post) : e_Mi clE l yJ6_bitCount_0f7a4 wsJ6_bitCount_0f7a4 { frames := 0, cells := 0, slots := 0, locals := 0 } D (tyC cy) (wC h cy) [.int p1] S post := by
  intro sz
  refine Met.ofW (cc := cJ6_bitCount_0f7a4) (maxL := 1) (ret := (some .int)) (by decide) rfl ?_
  intro p e s m args below meth c s₁ B hml hv
  obtain ⟨rfl, hsz, hP, hK, hD0, hs⟩ := hv
  have hx := B.exec
  have hb := B.bytes
  have hr := B.returns
  have hts := atoms_spec (ws := wsJ6_bitCount_0f7a4) B.pre
  have hown : s.vm.findClass RJ6 = some m.cls := findClass_of_methodNamed B.named
  have hlocks := B.notSynchronized
  subst hsz
  have hD := hD0.self (sz := s.heap.size)
  generalize hAe : va_A (wC h cy S) s.heap.size = A at hD hs ⊢
  have hA : ∀ q : Nat, s.heap.size ≤ q → A q := fun q h => by rw [← hAe]; exact Or.inr h
  have hS : va_S A s.heap s.heap [] := va_S.rf
  have wc265 := hts (.constant RJ6 265 (1431655765)) (List.mem_of_getElem? (i := 1) rfl)
  have wc266 := hts (.constant RJ6 266 (858993459)) (List.mem_of_getElem? (i := 2) rfl)
  have wc267 := hts (.constant RJ6 267 (252645135)) (List.mem_of_getElem? (i := 3) rfl)
  have hl := lv_entry ([.int p1]) (n := 1) (Nat.le_of_ble_eq_true rfl)
  rw [lg_entry_eq]
  generalize (lg_sl ([.int p1]) ++ List.replicate (1 - (lg_sl ([.int p1])).length) Slot.unset).toArray = ls at hl ⊢
  have hl : lv_has ls 1 [(0, .int p1)] := hl
  unfold wC_J6_bitCount_0f7a4 at hw
  clear hD0
  refine lv_iload_n hx hb dJ6_bitCount_0f7a4_0 rfl (lv_at hl 0 rfl) ?_
  refine lv_iload_n hx hb dJ6_bitCount_0f7a4_1 rfl (lv_at hl 0 rfl) ?_
  refine lv_iconst (v := 1) hx hb dJ6_bitCount_0f7a4_2 (by decide) ?_
  refine k_iushr hx hb dJ6_bitCount_0f7a4_3 ?_
  refine lv_ldcw (v := 1431655765) hx hb hown wc265 dJ6_bitCount_0f7a4_4 ?_
  refine lv_iand hx hb dJ6_bitCount_0f7a4_7 ?_
  refine lv_isub hx hb dJ6_bitCount_0f7a4_8 ?_
  refine lv_istore_n (lv' := [(0, .int (p1 - ((k_ushr p1 1) &&& 1431655765)))]) hx hb dJ6_bitCount_0f7a4_9 rfl hl (by decide) rfl (fun ls hl => ?_)
  refine lv_iload_n hx hb dJ6_bitCount_0f7a4_10 rfl (lv_at hl 0 rfl) ?_
  refine lv_ldcw (v := 858993459) hx hb hown wc266 dJ6_bitCount_0f7a4_11 ?_
  refine lv_iand hx hb dJ6_bitCount_0f7a4_14 ?_
  refine lv_iload_n hx hb dJ6_bitCount_0f7a4_15 rfl (lv_at hl 0 rfl) ?_
  refine lv_iconst (v := 2) hx hb dJ6_bitCount_0f7a4_16 (by decide) ?_
  refine k_iushr hx hb dJ6_bitCount_0f7a4_17 ?_
  refine lv_ldcw (v := 858993459) hx hb hown wc266 dJ6_bitCount_0f7a4_18 ?_
  refine lv_iand hx hb dJ6_bitCount_0f7a4_21 ?_
  refine lv_iadd hx hb dJ6_bitCount_0f7a4_22 ?_
  refine lv_istore_n (lv' := [(0, .int (((p1 - ((k_ushr p1 1) &&& 1431655765)) &&& 858993459) + ((k_ushr (p1 - ((k_ushr p1 1) &&& 1431655765)) 2) &&& 858993459)))]) hx hb dJ6_bitCount_0f7a4_23 rfl hl (by decide) rfl (fun ls hl => ?_)
  refine lv_iload_n hx hb dJ6_bitCount_0f7a4_24 rfl (lv_at hl 0 rfl) ?_
  refine lv_iload_n hx hb dJ6_bitCount_0f7a4_25 rfl (lv_at hl 0 rfl) ?_
  refine lv_iconst (v := 4) hx hb dJ6_bitCount_0f7a4_26 (by decide) ?_
  refine k_iushr hx hb dJ6_bitCount_0f7a4_27 ?_
  refine lv_iadd hx hb dJ6_bitCount_0f7a4_28 ?_
  refine lv_ldcw (v := 252645135) hx hb hown wc267 dJ6_bitCount_0f7a4_29 ?_
  refine lv_iand hx hb dJ6_bitCount_0f7a4_32 ?_
  refine lv_istore_n (lv' := [(0, .int (((((p1 - ((k_ushr p1 1) &&& 1431655765)) &&& 858993459) + ((k_ushr (p1 - ((k_ushr p1 1) &&& 1431655765)) 2) &&& 858993459)) + (k_ushr (((p1 - ((k_ushr p1 1) &&& 1431655765)) &&& 858993459) + ((k_ushr (p1 - ((k_ushr p1 1) &&& 1431655765)) 2) &&& 858993459)) 4)) &&& 252645135))]) hx hb dJ6_bitCount_0f7a4_33 rfl hl (by decide) rfl (fun ls hl => ?_)
  refine lv_iload_n hx hb dJ6_bitCount_0f7a4_34 rfl (lv_at hl 0 rfl) ?_
  refine lv_iload_n hx hb dJ6_bitCount_0f7a4_35 rfl (lv_at hl 0 rfl) ?_
  refine lv_bipush (v := 8) hx hb dJ6_bitCount_0f7a4_36 (by decide) ?_
  refine k_iushr hx hb dJ6_bitCount_0f7a4_38 ?_
  refine lv_iadd hx hb dJ6_bitCount_0f7a4_39 ?_
  refine lv_istore_n (lv' := [(0, .int ((((((p1 - ((k_ushr p1 1) &&& 1431655765)) &&& 858993459) + ((k_ushr (p1 - ((k_ushr p1 1) &&& 1431655765)) 2) &&& 858993459)) + (k_ushr (((p1 - ((k_ushr p1 1) &&& 1431655765)) &&& 858993459) + ((k_ushr (p1 - ((k_ushr p1 1) &&& 1431655765)) 2) &&& 858993459)) 4)) &&& 252645135) + (k_ushr (((((p1 - ((k_ushr p1 1) &&& 1431655765)) &&& 858993459) + ((k_ushr (p1 - ((k_ushr p1 1) &&& 1431655765)) 2) &&& 858993459)) + (k_ushr (((p1 - ((k_ushr p1 1) &&& 1431655765)) &&& 858993459) + ((k_ushr (p1 - ((k_ushr p1 1) &&& 1431655765)) 2) &&& 858993459)) 4)) &&& 252645135) 8)))]) hx hb dJ6_bitCount_0f7a4_40 rfl hl (by decide) rfl (fun ls hl => ?_)
  refine lv_iload_n hx hb dJ6_bitCount_0f7a4_41 rfl (lv_at hl 0 rfl) ?_
  refine lv_iload_n hx hb dJ6_bitCount_0f7a4_42 rfl (lv_at hl 0 rfl) ?_
  refine lv_bipush (v := 16) hx hb dJ6_bitCount_0f7a4_43 (by decide) ?_
  refine k_iushr hx hb dJ6_bitCount_0f7a4_45 ?_
  refine lv_iadd hx hb dJ6_bitCount_0f7a4_46 ?_
  refine lv_istore_n (lv' := [(0, .int (((((((p1 - ((k_ushr p1 1) &&& 1431655765)) &&& 858993459) + ((k_ushr (p1 - ((k_ushr p1 1) &&& 1431655765)) 2) &&& 858993459)) + (k_ushr (((p1 - ((k_ushr p1 1) &&& 1431655765)) &&& 858993459) + ((k_ushr (p1 - ((k_ushr p1 1) &&& 1431655765)) 2) &&& 858993459)) 4)) &&& 252645135) + (k_ushr (((((p1 - ((k_ushr p1 1) &&& 1431655765)) &&& 858993459) + ((k_ushr (p1 - ((k_ushr p1 1) &&& 1431655765)) 2) &&& 858993459)) + (k_ushr (((p1 - ((k_ushr p1 1) &&& 1431655765)) &&& 858993459) + ((k_ushr (p1 - ((k_ushr p1 1) &&& 1431655765)) 2) &&& 858993459)) 4)) &&& 252645135) 8)) + (k_ushr ((((((p1 - ((k_ushr p1 1) &&& 1431655765)) &&& 858993459) + ((k_ushr (p1 - ((k_ushr p1 1) &&& 1431655765)) 2) &&& 858993459)) + (k_ushr (((p1 - ((k_ushr p1 1) &&& 1431655765)) &&& 858993459) + ((k_ushr (p1 - ((k_ushr p1 1) &&& 1431655765)) 2) &&& 858993459)) 4)) &&& 252645135) + (k_ushr (((((p1 - ((k_ushr p1 1) &&& 1431655765)) &&& 858993459) + ((k_ushr (p1 - ((k_ushr p1 1) &&& 1431655765)) 2) &&& 858993459)) + (k_ushr (((p1 - ((k_ushr p1 1) &&& 1431655765)) &&& 858993459) + ((k_ushr (p1 - ((k_ushr p1 1) &&& 1431655765)) 2) &&& 858993459)) 4)) &&& 252645135) 8)) 16)))]) hx hb dJ6_bitCount_0f7a4_47 rfl hl (by decide) rfl (fun ls hl => ?_)
  refine lv_iload_n hx hb dJ6_bitCount_0f7a4_48 rfl (lv_at hl 0 rfl) ?_
  refine lv_bipush (v := 63) hx hb dJ6_bitCount_0f7a4_49 (by decide) ?_
  refine lv_iand hx hb dJ6_bitCount_0f7a4_51 ?_
  exact W.iret (v := (((((((p1 - ((k_ushr p1 1) &&& 1431655765)) &&& 858993459) + ((k_ushr (p1 - ((k_ushr p1 1) &&& 1431655765)) 2) &&& 858993459)) + (k_ushr (((p1 - ((k_ushr p1 1) &&& 1431655765)) &&& 858993459) + ((k_ushr (p1 - ((k_ushr p1 1) &&& 1431655765)) 2) &&& 858993459)) 4)) &&& 252645135) + (k_ushr (((((p1 - ((k_ushr p1 1) &&& 1431655765)) &&& 858993459) + ((k_ushr (p1 - ((k_ushr p1 1) &&& 1431655765)) 2) &&& 858993459)) + (k_ushr (((p1 - ((k_ushr p1 1) &&& 1431655765)) &&& 858993459) + ((k_ushr (p1 - ((k_ushr p1 1) &&& 1431655765)) 2) &&& 858993459)) 4)) &&& 252645135) 8)) + (k_ushr ((((((p1 - ((k_ushr p1 1) &&& 1431655765)) &&& 858993459) + ((k_ushr (p1 - ((k_ushr p1 1) &&& 1431655765)) 2) &&& 858993459)) + (k_ushr (((p1 - ((k_ushr p1 1) &&& 1431655765)) &&& 858993459) + ((k_ushr (p1 - ((k_ushr p1 1) &&& 1431655765)) 2) &&& 858993459)) 4)) &&& 252645135) + (k_ushr (((((p1 - ((k_ushr p1 1) &&& 1431655765)) &&& 858993459) + ((k_ushr (p1 - ((k_ushr p1 1) &&& 1431655765)) 2) &&& 858993459)) + (k_ushr (((p1 - ((k_ushr p1 1) &&& 1431655765)) &&& 858993459) + ((k_ushr (p1 - ((k_ushr p1 1) &&& 1431655765)) 2) &&& 858993459)) 4)) &&& 252645135) 8)) 16)) &&& 63) hx hb hr (fun t ht hW => ⟨⟨(((((((p1 - ((k_ushr p1 1) &&& 1431655765)) &&& 858993459) + ((k_ushr (p1 - ((k_ushr p1 1) &&& 1431655765)) 2) &&& 858993459)) + (k_ushr (((p1 - ((k_ushr p1 1) &&& 1431655765)) &&& 858993459) + ((k_ushr (p1 - ((k_ushr p1 1) &&& 1431655765)) 2) &&& 858993459)) 4)) &&& 252645135) + (k_ushr (((((p1 - ((k_ushr p1 1) &&& 1431655765)) &&& 858993459) + ((k_ushr (p1 - ((k_ushr p1 1) &&& 1431655765)) 2) &&& 858993459)) + (k_ushr (((p1 - ((k_ushr p1 1) &&& 1431655765)) &&& 858993459) + ((k_ushr (p1 - ((k_ushr p1 1) &&& 1431655765)) 2) &&& 858993459)) 4)) &&& 252645135) 8)) + (k_ushr ((((((p1 - ((k_ushr p1 1) &&& 1431655765)) &&& 858993459) + ((k_ushr (p1 - ((k_ushr p1 1) &&& 1431655765)) 2) &&& 858993459)) + (k_ushr (((p1 - ((k_ushr p1 1) &&& 1431655765)) &&& 858993459) + ((k_ushr (p1 - ((k_ushr p1 1) &&& 1431655765)) 2) &&& 858993459)) 4)) &&& 252645135) + (k_ushr (((((p1 - ((k_ushr p1 1) &&& 1431655765)) &&& 858993459) + ((k_ushr (p1 - ((k_ushr p1 1) &&& 1431655765)) 2) &&& 858993459)) + (k_ushr (((p1 - ((k_ushr p1 1) &&& 1431655765)) &&& 858993459) + ((k_ushr (p1 - ((k_ushr p1 1) &&& 1431655765)) 2) &&& 858993459)) 4)) &&& 252645135) 8)) 16)) &&& 63, S, rfl, hw, by rw [ht]; exact hP, va_K.moved hW.alike hK, hD⟩, hS.F ht⟩) hS.2.2 dJ6_bitCount_0f7a4_52
def wC_X3_growing (p1 : Option Nat) (p2 : Int32) (S : CS) (post : Int32 → CS → Prop) : Prop := wC_X0_clownsAt p2 S (fun r_1 S_2 => wC_J6_bitCount_0f7a4 r_1 S_2 (fun r_3 S_4 => ((p1 = none → ((r_3 = 0 → post 1 S_4) ∧ (¬ (r_3 = 0) → post 0 S_4))) ∧ (∀ a_5 : Nat, p1 = some a_5 → (∃ B_7 : TB, (a_5, B_7) ∈ cx_px S_4 ∧ wC_X9_hasLaw a_5 2 S_4 (fun r_8 S_9 => ((r_8 = 0 → ((r_3 = 0 → post 1 S_9) ∧ (¬ (r_3 = 0) → post 0 S_9))) ∧ (¬ (r_8 = 0) → wC_X3_nameHouse p2 S_9 (fun S_12 => (∀ S_13 : CS, S_13 = (cx_set_l_named S_12 (k_put 12 (cx_l_named S_12) 11 r_3)) → wC_X3_worked (some a_5) 2 S_13 (fun r_14 S_15 => wC_X11_held r_14 0 9 S_15 (fun r_16 S_17 => post r_16 S_17))))))))))))
set_option maxHeartbeats 4000000 in
set_option maxRecDepth 100000 in
theorem cC_X3_growing (l : Launch) (D : va_G) (h : Nat → Nat) (cy : Nat → ClassId) (p1 : Option Nat) (p2 : Int32) (S : CS) (post : Int32 → CS → Prop) (hw : wC_X3_growing p1 p2 S post) : e_Mi clE l yX3_growing wsX3_growing { frames := 3, cells := 0, slots := 0, locals := 76 } D (tyC cy) (wC h cy) [.ref (h 6), va_rf p1, .int p2] S post := by
  intro sz
  refine Met.ofW (cc := cX3_growing) (maxL := 4) (ret := (some .int)) (by decide) rfl ?_
  intro p e s m args below meth c s₁ B hml hv
  obtain ⟨rfl, hsz, hP, hK, hD0, hs⟩ := hv
  have hx := B.exec
  have hb := B.bytes
  have hr := B.returns
  have hts := atoms_spec (ws := wsX3_growing) B.pre
  have hown : s.vm.findClass RX3 = some m.cls := findClass_of_methodNamed B.named
  have hlocks := B.notSynchronized
  subst hsz
  have hD := hD0.self (sz := s.heap.size)
  generalize hAe : va_A (wC h cy S) s.heap.size = A at hD hs ⊢
  have hA : ∀ q : Nat, s.heap.size ≤ q → A q := fun q h => by rw [← hAe]; exact Or.inr h
  have hS : va_S A s.heap s.heap [] := va_S.rf
  have hin3 : ∀ w ∈ wsX30, w ∈ wsX3_growing := fun _ h => List.mem_cons_of_mem _ (List.mem_append_left _ (List.mem_append_left _ (List.mem_append_right _ h)))
  have hin0 : ∀ w ∈ wsX00, w ∈ wsX3_growing := fun _ h => List.mem_cons_of_mem _ (List.mem_append_left _ (List.mem_append_right _ h))
  have hin9 : ∀ w ∈ wsX90, w ∈ wsX3_growing := fun _ h => List.mem_cons_of_mem _ (List.mem_append_right _ h)
  have w22 := hts (.fieldLink RX3 22 "ClownsMourn$Laws" "city" "LClownsMourn$City;") (List.mem_of_getElem? (i := 1) rfl)
  have w9 := hts (.fieldLink RX3 9 "ClownsMourn$Laws" "named" "[I") (List.mem_of_getElem? (i := 2) rfl)
  have wiX11 := hts (.initialized RX11) (List.mem_of_getElem? (i := 18) rfl)
  have wstheld := hts (.static yX11_held) (List.mem_of_getElem? (i := 79) rfl)
  have wstput := hts (.static yX11_put) (List.mem_of_getElem? (i := 55) rfl)
  have hl := lv_entry ([.ref (h 6), va_rf p1, .int p2]) (n := 4) (by cases p1 <;> exact Nat.le_of_ble_eq_true rfl)
  rw [lg_entry_eq]
  generalize (lg_sl ([.ref (h 6), va_rf p1, .int p2]) ++ List.replicate (4 - (lg_sl ([.ref (h 6), va_rf p1, .int p2])).length) Slot.unset).toArray = ls at hl ⊢
  have hl : lv_has ls 4 [(0, .ref (h 6)), (1, va_rf p1), (2, .int p2)] := by cases p1 <;> exact hl
  unfold wC_X3_growing at hw
  clear hD0
  refine lv_aload_n hx hb dX3_growing_0 rfl (lv_at hl 0 rfl) ?_
  refine va_get (D := D) (ci := 3) (v := .ref (h 1)) (C := RX3) (T := TX3) (N := 4) hx hb hts hin3 hown hK hP 6 rfl rfl 0 (by decide) w22 (fun _ h9 => h9) rfl dX3_growing_1 ?_
  refine lv_iload_n hx hb dX3_growing_4 rfl (lv_at hl 2 rfl) ?_
  refine e_callVi (As := [.int p2]) (rest := []) clE_stable hs ⟨hx, hb, hml, hown, hts⟩ (cC_X0_clownsAt l D h cy _ _ _ hw) (cwV 1 hts gX3_growing_X0_clownsAt rfl rfl rfl (by decide +kernel) ⟨Nat.le_of_ble_eq_true rfl, Nat.le_of_ble_eq_true rfl⟩) (va_recv hK hP (ci := 0) (q0 := 1) rfl rfl) hK hP hD hS hA rfl hl.1 rfl (Nat.le_of_ble_eq_true rfl) dX3_growing_5 ⟨Nat.zero_le _, Nat.zero_le _⟩ (fun r_1 S_2 H locs hw hP hD hS => ?_)
  refine e_callSi (As := [.int r_1]) (rest := []) clE_stable hs ⟨hx, hb, hml, hown, hts⟩ (cC_J6_bitCount_0f7a4 l D h cy _ _ _ hw) (va_cwS 1 hts gX3_growing_J6_bitCount_0f7a4 rfl rfl rfl (by decide +kernel) ⟨Nat.le_of_ble_eq_true rfl, Nat.le_of_ble_eq_true rfl⟩) hK hP hD hS hA rfl hl.1 rfl (Nat.le_of_ble_eq_true rfl) dX3_growing_8 ⟨Nat.zero_le _, Nat.zero_le _⟩ (fun r_3 S_4 H locs hw hP hD hS => ?_)
  refine lv_istore_n (lv' := [(3, .int r_3), (0, .ref (h 6)), (1, va_rf p1), (2, .int p2)]) hx hb dX3_growing_11 rfl hl (by decide) rfl (fun ls hl => ?_)
  refine k_aload_nq hx hb dX3_growing_12 rfl (lv_at hl 2 rfl) ?_
  obtain ⟨hc_19t, hc_19f⟩ := hw
  refine k_ifnull (tgt := 24) hx hb dX3_growing_13 (by decide) (fun c_19 => ?_) (fun a_5 c_19 => ?_)
  · have hw := hc_19t c_19
    clear hc_19t hc_19f
    refine lv_iload_n hx hb dX3_growing_24 rfl (lv_at hl 0 rfl) ?_
    obtain ⟨hc_6t, hc_6f⟩ := hw
    refine lv_if_ne (tgt := 32) hx hb dX3_growing_25 (by decide) (fun c_6 => ?_) (fun c_6 => ?_)
    · have hw := hc_6f c_6
      clear hc_6t hc_6f
      refine lv_iconst (v := 0) hx hb dX3_growing_32 (by decide) ?_
      exact W.iret (v := 0) hx hb hr (fun t ht hW => ⟨⟨0, S_4, rfl, hw, by rw [ht]; exact hP, va_K.moved hW.alike hK, hD⟩, hS.F ht⟩) hS.2.2 dX3_growing_33
    · have hw := hc_6t c_6
      clear hc_6t hc_6f
      refine lv_iconst (v := 1) hx hb dX3_growing_28 (by decide) ?_
      refine lv_goto (tgt := 33) hx hb dX3_growing_29 (by decide) ?_
      exact W.iret (v := 1) hx hb hr (fun t ht hW => ⟨⟨1, S_4, rfl, hw, by rw [ht]; exact hP, va_K.moved hW.alike hK, hD⟩, hS.F ht⟩) hS.2.2 dX3_growing_33
  · have hw := hc_19f a_5 c_19
    clear hc_19t hc_19f
    rw [c_19] at hl
    have hl : lv_has ls 4 [(3, .int r_3), (0, .ref (h 6)), (1, .ref a_5), (2, .int p2)] := hl
    refine lv_aload_n hx hb dX3_growing_16 rfl (lv_at hl 2 rfl) ?_
    refine lv_iconst (v := 2) hx hb dX3_growing_17 (by decide) ?_
    obtain ⟨B_7, hmB_7, hw⟩ := hw
    obtain ⟨qB_7, hqB_7⟩ := px_obj (h := h) (cy := cy) hmB_7
    refine e_callVi (As := [.int 2]) (rest := []) clE_stable hs ⟨hx, hb, hml, hown, hts⟩ (cC_X9_hasLaw l D h cy _ _ _ _ hw) (cwV 1 hts gX3_growing_X9_hasLaw rfl rfl rfl (by decide +kernel) ⟨Nat.le_of_ble_eq_true rfl, Nat.le_of_ble_eq_true rfl⟩) (va_recv hK hP (ci := 9) (q0 := qB_7) rfl hqB_7) hK hP hD hS hA rfl hl.1 rfl (Nat.le_of_ble_eq_true rfl) dX3_growing_18 ⟨Nat.zero_le _, Nat.zero_le _⟩ (fun r_8 S_9 H locs hw hP hD hS => ?_)
    obtain ⟨hc_10t, hc_10f⟩ := hw
    refine lv_if_ne (tgt := 34) hx hb dX3_growing_21 (by decide) (fun c_10 => ?_) (fun c_10 => ?_)
    · have hw := hc_10f c_10
      clear hc_10t hc_10f
      refine lv_aload_n hx hb dX3_growing_34 rfl (lv_at hl 1 rfl) ?_
      refine lv_iload_n hx hb dX3_growing_35 rfl (lv_at hl 3 rfl) ?_
      refine e_callVv (As := [.int p2]) (rest := []) clE_stable hs ⟨hx, hb, hml, hown, hts⟩ (cC_X3_nameHouse l D h cy _ _ _ hw) (cwV 1 hts gX3_growing_X3_nameHouse rfl rfl rfl (by decide +kernel) ⟨Nat.le_of_ble_eq_true rfl, Nat.le_of_ble_eq_true rfl⟩) (va_recv hK hP (ci := 3) (q0 := 6) rfl rfl) hK hP hD hS hA rfl hl.1 rfl (Nat.le_of_ble_eq_true rfl) dX3_growing_36 ⟨Nat.zero_le _, Nat.zero_le _⟩ (fun S_12 H locs hw hP hD hS => ?_)
      refine lv_aload_n hx hb dX3_growing_39 rfl (lv_at hl 1 rfl) ?_
      refine va_get (D := D) (ci := 3) (v := .ref (h 40)) (C := RX3) (T := TX3) (N := 4) hx hb hts hin3 hown hK hP 6 rfl rfl 1 (by decide) w9 (fun _ h9 => h9) rfl dX3_growing_40 ?_
      refine lv_bipush (v := 11) hx hb dX3_growing_43 (by decide) ?_
      refine lv_iload_n hx hb dX3_growing_45 rfl (lv_at hl 0 rfl) ?_
      refine e_callNv (As := [.ref (h 40), .int 11, .int r_3]) (rest := []) clE_stable hs ⟨hx, hb, hml, hown, hts⟩ (cA_put l D clE (tyC cy) (wC h cy) cx_l_named cx_set_l_named S_12 40 28 _ _ 12 rfl (wCs_l_named h cy S_12) rfl (by decide) _ _ (fun S0 => S0 = (cx_set_l_named S_12 (k_put 12 (cx_l_named S_12) 11 r_3))) rfl) ⟨va_cnB 3 hts gX3_growing_X11_put_n79 rfl rfl rfl hs.1.2.2.2.2.2.2.2.2.2.2.2.2.2.2.2.1 wiX11 (by decide +kernel) ⟨Nat.le_of_ble_eq_true rfl, Nat.le_of_ble_eq_true rfl⟩, wstput, trivial⟩ hK hP hD hS hA rfl hl.1 rfl (Nat.le_of_ble_eq_true rfl) dX3_growing_46 ⟨Nat.zero_le _, Nat.zero_le _⟩ (fun S_13 H locs eS_13 hP hD hS => ?_)
      replace hw := hw S_13 eS_13
      refine lv_aload_n hx hb dX3_growing_49 rfl (lv_at hl 1 rfl) ?_
      refine lv_aload_n hx hb dX3_growing_50 rfl (lv_at hl 2 rfl) ?_
      refine lv_iconst (v := 2) hx hb dX3_growing_51 (by decide) ?_
      refine e_callVi (As := [.ref a_5, .int 2]) (rest := []) clE_stable hs ⟨hx, hb, hml, hown, hts⟩ (cC_X3_worked l D h cy _ _ _ _ hw) (cwV 2 hts gX3_growing_X3_worked rfl rfl rfl (by decide +kernel) ⟨Nat.le_of_ble_eq_true rfl, Nat.le_of_ble_eq_true rfl⟩) (va_recv hK hP (ci := 3) (q0 := 6) rfl rfl) hK hP hD hS hA rfl hl.1 rfl (Nat.le_of_ble_eq_true rfl) dX3_growing_52 ⟨Nat.zero_le _, Nat.zero_le _⟩ (fun r_14 S_15 H locs hw hP hD hS => ?_)
      refine lv_iconst (v := 0) hx hb dX3_growing_55 (by decide) ?_
      refine lv_bipush (v := 9) hx hb dX3_growing_56 (by decide) ?_
      refine e_callNi (As := [.int r_14, .int 0, .int 9]) (rest := []) clE_stable hs ⟨hx, hb, hml, hown, hts⟩ (cC_X11_held l D h cy _ _ _ _ _ hw) ⟨va_cnB 3 hts gX3_growing_X11_held_n66 rfl rfl rfl hs.1.2.2.2.2.2.2.2.2.2.2.2.2.2.2.2.2.1 wiX11 (by decide +kernel) ⟨Nat.le_of_ble_eq_true rfl, Nat.le_of_ble_eq_true rfl⟩, wstheld, trivial⟩ hK hP hD hS hA rfl hl.1 rfl (Nat.le_of_ble_eq_true rfl) dX3_growing_58 ⟨Nat.zero_le _, Nat.zero_le _⟩ (fun r_16 S_17 H locs hw hP hD hS => ?_)
      exact W.iret (v := r_16) hx hb hr (fun t ht hW => ⟨⟨r_16, S_17, rfl, hw, by rw [ht]; exact hP, va_K.moved hW.alike hK, hD⟩, hS.F ht⟩) hS.2.2 dX3_growing_61
    · have hw := hc_10t c_10
      clear hc_10t hc_10f
      refine lv_iload_n hx hb dX3_growing_24 rfl (lv_at hl 0 rfl) ?_
      obtain ⟨hc_18t, hc_18f⟩ := hw
      refine lv_if_ne (tgt := 32) hx hb dX3_growing_25 (by decide) (fun c_18 => ?_) (fun c_18 => ?_)
      · have hw := hc_18f c_18
        clear hc_18t hc_18f
        refine lv_iconst (v := 0) hx hb dX3_growing_32 (by decide) ?_
        exact W.iret (v := 0) hx hb hr (fun t ht hW => ⟨⟨0, S_9, rfl, hw, by rw [ht]; exact hP, va_K.moved hW.alike hK, hD⟩, hS.F ht⟩) hS.2.2 dX3_growing_33
      · have hw := hc_18t c_18
        clear hc_18t hc_18f
        refine lv_iconst (v := 1) hx hb dX3_growing_28 (by decide) ?_
        refine lv_goto (tgt := 33) hx hb dX3_growing_29 (by decide) ?_
        exact W.iret (v := 1) hx hb hr (fun t ht hW => ⟨⟨1, S_9, rfl, hw, by rw [ht]; exact hP, va_K.moved hW.alike hK, hD⟩, hS.F ht⟩) hS.2.2 dX3_growing_33
def wC_X2_passes_96 (post : CS → Prop) (K69 : Int32 → CS → Prop) (x1 : Int32) (t0 : Int32) (S : CS) : Prop := wC_X0_see 24 x1 S (fun r_1 S_2 => wC_X0_set 24 x1 (if (r_1 - t0) < 0 then 0 else (r_1 - t0)) S_2 (fun S_4 => K69 (x1 + 1) S_4))
def wC_X2_passes_69 (post : CS → Prop) : Nat → Int32 → CS → Prop
  | 0, _, _ => False
  | n + 1, x1, S => wC_X0_clownCount S (fun r_1 S_2 => ((r_1 ≤ x1 → wC_X0_today S_2 (fun r_4 S_5 => wC_X0_set 39 0 (r_4 + 1) S_5 (fun S_7 => post S_7))) ∧ (¬ (r_1 ≤ x1) → wC_X0_isOut x1 S_2 (fun r_8 S_9 => ((r_8 = 0 → wC_X2_passes_96 post (wC_X2_passes_69 post n) x1 3 S_9) ∧ (¬ (r_8 = 0) → wC_X2_passes_96 post (wC_X2_passes_69 post n) x1 1 S_9))))))
def wC_X2_passes_2 (post : CS → Prop) : Nat → Int32 → CS → Prop
  | 0, _, _ => False
  | n + 1, x1, S => wC_X0_houseCount S (fun r_1 S_2 => ((r_1 ≤ x1 → ∃ k_ : Nat, wC_X2_passes_69 post k_ 0 S_2) ∧ (¬ (r_1 ≤ x1) → wC_X0_textAt (cx_c_ruling S_2) S_2 (fun r_4 S_5 => wC_X3_growing r_4 x1 S_5 (fun r_6 S_7 => wC_X0_see 0 x1 S_7 (fun r_8 S_9 => wC_X0_set 0 x1 (if 99 < (r_8 + r_6) then 99 else (r_8 + r_6)) S_9 (fun S_11 => wC_X2_passes_2 post n (x1 + 1) S_11)))))))
def wC_X2_passes (S : CS) (post : CS → Prop) : Prop := ∃ k_ : Nat, wC_X2_passes_2 post k_ 0 S
set_option maxHeartbeats 4000000 in
set_option maxRecDepth 100000 in
theorem cC_X2_passes (l : Launch) (D : va_G) (h : Nat → Nat) (cy : Nat → ClassId) (S : CS) (post : CS → Prop) (hw : wC_X2_passes S post) : e_Mv clE l yX2_passes wsX2_passes { frames := 4, cells := 0, slots := 0, locals := 99 } D (tyC cy) (wC h cy) [.ref (h 7)] S post := by
  intro sz
  refine Met.ofW (cc := cX2_passes) (maxL := 3) (ret := none) (by decide) rfl ?_
  intro p e s m args below meth c s₁ B hml hv
  obtain ⟨rfl, hsz, hP, hK, hD0, hs⟩ := hv
  have hx := B.exec
  have hb := B.bytes
  have hr := B.returns
  have hts := atoms_spec (ws := wsX2_passes) B.pre
  have hown : s.vm.findClass RX2 = some m.cls := findClass_of_methodNamed B.named
  have hlocks := B.notSynchronized
  subst hsz
  have hD := hD0.self (sz := s.heap.size)
  generalize hAe : va_A (wC h cy S) s.heap.size = A at hD hs ⊢
  have hA : ∀ q : Nat, s.heap.size ≤ q → A q := fun q h => by rw [← hAe]; exact Or.inr h
  have hS : va_S A s.heap s.heap [] := va_S.rf
  have hin2 : ∀ w ∈ wsX20, w ∈ wsX2_passes := fun _ h => List.mem_cons_of_mem _ (List.mem_append_left _ (List.mem_append_left _ (List.mem_append_left _ (List.mem_append_right _ h))))
  have hin0 : ∀ w ∈ wsX00, w ∈ wsX2_passes := fun _ h => List.mem_cons_of_mem _ (List.mem_append_left _ (List.mem_append_left _ (List.mem_append_right _ h)))
  have hin3 : ∀ w ∈ wsX30, w ∈ wsX2_passes := fun _ h => List.mem_cons_of_mem _ (List.mem_append_left _ (List.mem_append_right _ h))
  have hin9 : ∀ w ∈ wsX90, w ∈ wsX2_passes := fun _ h => List.mem_cons_of_mem _ (List.mem_append_right _ h)
  have w17 := hts (.fieldLink RX2 17 "ClownsMourn$Guild" "city" "LClownsMourn$City;") (List.mem_of_getElem? (i := 1) rfl)
  have w21 := hts (.fieldLink RX2 21 "ClownsMourn$Guild" "laws" "LClownsMourn$Laws;") (List.mem_of_getElem? (i := 2) rfl)
  have w82 := hts (.fieldLink RX2 82 "ClownsMourn$City" "ruling" "I") (List.mem_of_getElem? (i := 3) rfl)
  have wm64 := hts (.methodLink RX2 64 Lib.Math.min.name) (List.mem_of_getElem? (i := 4) rfl)
  have wsmin := hts (.static Lib.Math.min.name) (List.mem_of_getElem? (i := 5) rfl)
  have wcdmin := hts (.code Lib.Math.min.name Lib.Math.min.code 2 (some .int)) (List.mem_of_getElem? (i := 7) rfl)
  have wiM := hts (.initialized "java/lang/Math") (List.mem_of_getElem? (i := 6) rfl)
  have wm73 := hts (.methodLink RX2 73 Lib.Math.max.name) (List.mem_of_getElem? (i := 8) rfl)
  have wsmax := hts (.static Lib.Math.max.name) (List.mem_of_getElem? (i := 9) rfl)
  have wcdmax := hts (.code Lib.Math.max.name Lib.Math.max.code 2 (some .int)) (List.mem_of_getElem? (i := 10) rfl)
  have hl := lv_entry ([.ref (h 7)]) (n := 3) (Nat.le_of_ble_eq_true rfl)
  rw [lg_entry_eq]
  generalize (lg_sl ([.ref (h 7)]) ++ List.replicate (3 - (lg_sl ([.ref (h 7)])).length) Slot.unset).toArray = ls at hl ⊢
  have hl : lv_has ls 3 [(0, .ref (h 7))] := hl
  unfold wC_X2_passes at hw
  clear hD0
  have L_69 : ∀ (n69 : Nat) (x1 : Int32) (S : CS) (H : Heap) (locs : List Loc) (ls : Array Slot), wC_X2_passes_69 post n69 x1 S → va_P D vwCl (wC h cy S) H → va_D A (wC h cy S) → va_S A s.heap H locs → lv_has ls 3 [(0, .ref (h 7)), (1, .int x1)] → W p l e (headSpec wsX2_passes { frames := 4, cells := 0, slots := 0, locals := 99 }).room s m (([.ref (h 7)] : List Value).toArray) below meth c H locs 0 0 (MQ below (va_Qv post (k_Post D (tyC cy) (wC h cy) A) A) (([.ref (h 7)] : List Value).toArray) s 0 0 A) (F0 m 69 ls []) := by
    intro n69
    induction n69 with
    | zero => intro x1 S H locs ls hw; exact False.elim hw
    | succ n69 ih_69 =>
      have J_96 : ∀ (x1 : Int32) (t0 : Int32) (S : CS) (H : Heap) (locs : List Loc) (ls : Array Slot), wC_X2_passes_96 post (wC_X2_passes_69 post n69) x1 t0 S → va_P D vwCl (wC h cy S) H → va_D A (wC h cy S) → va_S A s.heap H locs → lv_has ls 3 [(0, .ref (h 7)), (1, .int x1)] → W p l e (headSpec wsX2_passes { frames := 4, cells := 0, slots := 0, locals := 99 }).room s m (([.ref (h 7)] : List Value).toArray) below meth c H locs 0 0 (MQ below (va_Qv post (k_Post D (tyC cy) (wC h cy) A) A) (([.ref (h 7)] : List Value).toArray) s 0 0 A) (F0 m 96 ls [.int t0]) := by
        intro x1 t0 S H locs ls hw hP hD hS hl
        unfold wC_X2_passes_96 at hw
        refine lv_istore_n (lv' := [(2, .int t0), (0, .ref (h 7)), (1, .int x1)]) hx hb dX2_passes_96 rfl hl (by decide) rfl (fun ls hl => ?_)
        refine lv_aload_n hx hb dX2_passes_97 rfl (lv_at hl 1 rfl) ?_
        refine va_get (D := D) (ci := 2) (v := .ref (h 1)) (C := RX2) (T := TX2) (N := 3) hx hb hts hin2 hown hK hP 7 rfl rfl 0 (by decide) w17 (fun _ h9 => h9) rfl dX2_passes_98 ?_
        refine lv_bipush (v := 24) hx hb dX2_passes_101 (by decide) ?_
        refine lv_iload_n hx hb dX2_passes_103 rfl (lv_at hl 2 rfl) ?_
        refine lv_aload_n hx hb dX2_passes_104 rfl (lv_at hl 1 rfl) ?_
        refine va_get (D := D) (ci := 2) (v := .ref (h 1)) (C := RX2) (T := TX2) (N := 3) hx hb hts hin2 hown hK hP 7 rfl rfl 0 (by decide) w17 (fun _ h9 => h9) rfl dX2_passes_105 ?_
        refine lv_bipush (v := 24) hx hb dX2_passes_108 (by decide) ?_
        refine lv_iload_n hx hb dX2_passes_110 rfl (lv_at hl 2 rfl) ?_
        refine e_callVi (As := [.int 24, .int x1]) (rest := [.int x1, .int 24, .ref (h 1)]) clE_stable hs ⟨hx, hb, hml, hown, hts⟩ (cC_X0_see l D h cy _ _ _ _ hw) (cwV 2 hts gX2_passes_X0_see rfl rfl rfl (by decide +kernel) ⟨Nat.le_of_ble_eq_true rfl, Nat.le_of_ble_eq_true rfl⟩) (va_recv hK hP (ci := 0) (q0 := 1) rfl rfl) hK hP hD hS hA rfl hl.1 rfl (Nat.le_of_ble_eq_true rfl) dX2_passes_111 ⟨Nat.zero_le _, Nat.zero_le _⟩ (fun r_1 S_2 H locs hw hP hD hS => ?_)
        refine lv_iload_n hx hb dX2_passes_114 rfl (lv_at hl 0 rfl) ?_
        refine lv_isub hx hb dX2_passes_115 ?_
        refine lv_iconst (v := 0) hx hb dX2_passes_116 (by decide) ?_
        refine va_mmax (own := RX2) (index := 73) hx hb (hml.trans hl.1.symm) hown wm73 wsmax wiM wcdmax (Nat.le_of_ble_eq_true rfl) (Nat.le_of_ble_eq_true rfl) (Nat.zero_le _) (Nat.zero_le _) dX2_passes_117 ?_
        refine e_callVv (As := [.int 24, .int x1, .int (if (r_1 - t0) < 0 then 0 else (r_1 - t0))]) (rest := []) clE_stable hs ⟨hx, hb, hml, hown, hts⟩ (cC_X0_set l D h cy _ _ _ _ _ hw) (cwV 3 hts gX2_passes_X0_set rfl rfl rfl (by decide +kernel) ⟨Nat.le_of_ble_eq_true rfl, Nat.le_of_ble_eq_true rfl⟩) (va_recv hK hP (ci := 0) (q0 := 1) rfl rfl) hK hP hD hS hA rfl hl.1 rfl (Nat.le_of_ble_eq_true rfl) dX2_passes_120 ⟨Nat.zero_le _, Nat.zero_le _⟩ (fun S_4 H locs hw hP hD hS => ?_)
        refine lv_iinc (v := x1 + 1) (lv' := [(1, .int (x1 + 1)), (2, .int t0), (0, .ref (h 7))]) hx hb dX2_passes_123 hl (k := 2) rfl (k_inc (by decide)) (by decide) rfl (fun ls hl => ?_)
        refine lv_goto (tgt := 69) hx hb dX2_passes_126 (by decide) ?_
        exact ih_69 (x1 + 1) S_4 _ _ _ hw hP hD hS (lv_sub hl [2, 0] rfl)
      intro x1 S H locs ls hw hP hD hS hl
      unfold wC_X2_passes_69 at hw
      refine lv_iload_n hx hb dX2_passes_69 rfl (lv_at hl 1 rfl) ?_
      refine lv_aload_n hx hb dX2_passes_70 rfl (lv_at hl 0 rfl) ?_
      refine va_get (D := D) (ci := 2) (v := .ref (h 1)) (C := RX2) (T := TX2) (N := 3) hx hb hts hin2 hown hK hP 7 rfl rfl 0 (by decide) w17 (fun _ h9 => h9) rfl dX2_passes_71 ?_
      refine e_callVi (As := []) (rest := [.int x1]) clE_stable hs ⟨hx, hb, hml, hown, hts⟩ (cC_X0_clownCount l D h cy _ _ hw) (cwV 0 hts gX2_passes_X0_clownCount rfl rfl rfl (by decide +kernel) ⟨Nat.le_of_ble_eq_true rfl, Nat.le_of_ble_eq_true rfl⟩) (va_recv hK hP (ci := 0) (q0 := 1) rfl rfl) hK hP hD hS hA rfl hl.1 rfl (Nat.le_of_ble_eq_true rfl) dX2_passes_74 ⟨Nat.zero_le _, Nat.zero_le _⟩ (fun r_5 S_6 H locs hw hP hD hS => ?_)
      obtain ⟨hc_7t, hc_7f⟩ := hw
      refine lv_icmp_ge (tgt := 129) hx hb dX2_passes_77 (by decide) (fun c_7 => ?_) (fun c_7 => ?_)
      · have hw := hc_7t c_7
        clear hc_7t hc_7f
        refine lv_aload_n hx hb dX2_passes_129 rfl (lv_at hl 0 rfl) ?_
        refine va_get (D := D) (ci := 2) (v := .ref (h 1)) (C := RX2) (T := TX2) (N := 3) hx hb hts hin2 hown hK hP 7 rfl rfl 0 (by decide) w17 (fun _ h9 => h9) rfl dX2_passes_130 ?_
        refine lv_bipush (v := 39) hx hb dX2_passes_133 (by decide) ?_
        refine lv_iconst (v := 0) hx hb dX2_passes_135 (by decide) ?_
        refine lv_aload_n hx hb dX2_passes_136 rfl (lv_at hl 0 rfl) ?_
        refine va_get (D := D) (ci := 2) (v := .ref (h 1)) (C := RX2) (T := TX2) (N := 3) hx hb hts hin2 hown hK hP 7 rfl rfl 0 (by decide) w17 (fun _ h9 => h9) rfl dX2_passes_137 ?_
        refine e_callVi (As := []) (rest := [.int 0, .int 39, .ref (h 1)]) clE_stable hs ⟨hx, hb, hml, hown, hts⟩ (cC_X0_today l D h cy _ _ hw) (cwV 0 hts gX2_passes_X0_today rfl rfl rfl (by decide +kernel) ⟨Nat.le_of_ble_eq_true rfl, Nat.le_of_ble_eq_true rfl⟩) (va_recv hK hP (ci := 0) (q0 := 1) rfl rfl) hK hP hD hS hA rfl hl.1 rfl (Nat.le_of_ble_eq_true rfl) dX2_passes_140 ⟨Nat.zero_le _, Nat.zero_le _⟩ (fun r_8 S_9 H locs hw hP hD hS => ?_)
        refine lv_iconst (v := 1) hx hb dX2_passes_143 (by decide) ?_
        refine lv_iadd hx hb dX2_passes_144 ?_
        refine e_callVv (As := [.int 39, .int 0, .int (r_8 + 1)]) (rest := []) clE_stable hs ⟨hx, hb, hml, hown, hts⟩ (cC_X0_set l D h cy _ _ _ _ _ hw) (cwV 3 hts gX2_passes_X0_set rfl rfl rfl (by decide +kernel) ⟨Nat.le_of_ble_eq_true rfl, Nat.le_of_ble_eq_true rfl⟩) (va_recv hK hP (ci := 0) (q0 := 1) rfl rfl) hK hP hD hS hA rfl hl.1 rfl (Nat.le_of_ble_eq_true rfl) dX2_passes_145 ⟨Nat.zero_le _, Nat.zero_le _⟩ (fun S_11 H locs hw hP hD hS => ?_)
        exact W.vret hx hb hr (fun t ht hW => ⟨⟨S_11, rfl, hw, by rw [ht]; exact hP, va_K.moved hW.alike hK, hD⟩, hS.F ht⟩) hS.2.2 dX2_passes_148
      · have hw := hc_7f c_7
        clear hc_7t hc_7f
        refine lv_aload_n hx hb dX2_passes_80 rfl (lv_at hl 0 rfl) ?_
        refine va_get (D := D) (ci := 2) (v := .ref (h 1)) (C := RX2) (T := TX2) (N := 3) hx hb hts hin2 hown hK hP 7 rfl rfl 0 (by decide) w17 (fun _ h9 => h9) rfl dX2_passes_81 ?_
        refine lv_iload_n hx hb dX2_passes_84 rfl (lv_at hl 1 rfl) ?_
        refine e_callVi (As := [.int x1]) (rest := []) clE_stable hs ⟨hx, hb, hml, hown, hts⟩ (cC_X0_isOut l D h cy _ _ _ hw) (cwV 1 hts gX2_passes_X0_isOut rfl rfl rfl (by decide +kernel) ⟨Nat.le_of_ble_eq_true rfl, Nat.le_of_ble_eq_true rfl⟩) (va_recv hK hP (ci := 0) (q0 := 1) rfl rfl) hK hP hD hS hA rfl hl.1 rfl (Nat.le_of_ble_eq_true rfl) dX2_passes_85 ⟨Nat.zero_le _, Nat.zero_le _⟩ (fun r_12 S_13 H locs hw hP hD hS => ?_)
        obtain ⟨hc_14t, hc_14f⟩ := hw
        refine lv_if_eq (tgt := 95) hx hb dX2_passes_88 (by decide) (fun c_14 => ?_) (fun c_14 => ?_)
        · have hw := hc_14t c_14
          clear hc_14t hc_14f
          refine lv_iconst (v := 3) hx hb dX2_passes_95 (by decide) ?_
          exact J_96 x1 3 S_13 _ _ _ hw hP hD hS (lv_sub hl [0, 1] rfl)
        · have hw := hc_14f c_14
          clear hc_14t hc_14f
          refine lv_iconst (v := 1) hx hb dX2_passes_91 (by decide) ?_
          refine lv_goto (tgt := 96) hx hb dX2_passes_92 (by decide) ?_
          exact J_96 x1 1 S_13 _ _ _ hw hP hD hS (lv_sub hl [0, 1] rfl)
  have L_2 : ∀ (n2 : Nat) (x1 : Int32) (S : CS) (H : Heap) (locs : List Loc) (ls : Array Slot), wC_X2_passes_2 post n2 x1 S → va_P D vwCl (wC h cy S) H → va_D A (wC h cy S) → va_S A s.heap H locs → lv_has ls 3 [(0, .ref (h 7)), (1, .int x1)] → W p l e (headSpec wsX2_passes { frames := 4, cells := 0, slots := 0, locals := 99 }).room s m (([.ref (h 7)] : List Value).toArray) below meth c H locs 0 0 (MQ below (va_Qv post (k_Post D (tyC cy) (wC h cy) A) A) (([.ref (h 7)] : List Value).toArray) s 0 0 A) (F0 m 2 ls []) := by
    intro n2
    induction n2 with
    | zero => intro x1 S H locs ls hw; exact False.elim hw
    | succ n2 ih_2 =>
      intro x1 S H locs ls hw hP hD hS hl
      unfold wC_X2_passes_2 at hw
      refine lv_iload_n hx hb dX2_passes_2 rfl (lv_at hl 1 rfl) ?_
      refine lv_aload_n hx hb dX2_passes_3 rfl (lv_at hl 0 rfl) ?_
      refine va_get (D := D) (ci := 2) (v := .ref (h 1)) (C := RX2) (T := TX2) (N := 3) hx hb hts hin2 hown hK hP 7 rfl rfl 0 (by decide) w17 (fun _ h9 => h9) rfl dX2_passes_4 ?_
      refine e_callVi (As := []) (rest := [.int x1]) clE_stable hs ⟨hx, hb, hml, hown, hts⟩ (cC_X0_houseCount l D h cy _ _ hw) (cwV 0 hts gX2_passes_X0_houseCount rfl rfl rfl (by decide +kernel) ⟨Nat.le_of_ble_eq_true rfl, Nat.le_of_ble_eq_true rfl⟩) (va_recv hK hP (ci := 0) (q0 := 1) rfl rfl) hK hP hD hS hA rfl hl.1 rfl (Nat.le_of_ble_eq_true rfl) dX2_passes_7 ⟨Nat.zero_le _, Nat.zero_le _⟩ (fun r_15 S_16 H locs hw hP hD hS => ?_)
      obtain ⟨hc_17t, hc_17f⟩ := hw
      refine lv_icmp_ge (tgt := 67) hx hb dX2_passes_10 (by decide) (fun c_17 => ?_) (fun c_17 => ?_)
      · have hw := hc_17t c_17
        clear hc_17t hc_17f
        refine lv_iconst (v := 0) hx hb dX2_passes_67 (by decide) ?_
        refine lv_istore_n (lv' := [(1, .int 0), (0, .ref (h 7))]) hx hb dX2_passes_68 rfl hl (by decide) rfl (fun ls hl => ?_)
        obtain ⟨n_69, hw⟩ := hw
        exact L_69 n_69 0 S_16 _ _ _ hw hP hD hS (lv_sub hl [1, 0] rfl)
      · have hw := hc_17f c_17
        clear hc_17t hc_17f
        refine lv_aload_n hx hb dX2_passes_13 rfl (lv_at hl 0 rfl) ?_
        refine va_get (D := D) (ci := 2) (v := .ref (h 6)) (C := RX2) (T := TX2) (N := 3) hx hb hts hin2 hown hK hP 7 rfl rfl 1 (by decide) w21 (fun _ h9 => h9) rfl dX2_passes_14 ?_
        refine lv_aload_n hx hb dX2_passes_17 rfl (lv_at hl 0 rfl) ?_
        refine va_get (D := D) (ci := 2) (v := .ref (h 1)) (C := RX2) (T := TX2) (N := 3) hx hb hts hin2 hown hK hP 7 rfl rfl 0 (by decide) w17 (fun _ h9 => h9) rfl dX2_passes_18 ?_
        refine lv_aload_n hx hb dX2_passes_21 rfl (lv_at hl 0 rfl) ?_
        refine va_get (D := D) (ci := 2) (v := .ref (h 1)) (C := RX2) (T := TX2) (N := 3) hx hb hts hin2 hown hK hP 7 rfl rfl 0 (by decide) w17 (fun _ h9 => h9) rfl dX2_passes_22 ?_
        refine va_get (D := D) (ci := 0) (v := .int (cx_c_ruling S_16)) (C := RX0) (T := TX0) (N := 16) hx hb hts hin0 hown hK hP 1 rfl rfl 8 (by decide) w82 (fun _ h9 => h9) rfl dX2_passes_25 ?_
        refine e_callVq (As := [.int (cx_c_ruling S_16)]) (rest := [.ref (h 6)]) clE_stable hs ⟨hx, hb, hml, hown, hts⟩ (cC_X0_textAt l D h cy _ _ _ hw) (cwV 1 hts gX2_passes_X0_textAt rfl rfl rfl (by decide +kernel) ⟨Nat.le_of_ble_eq_true rfl, Nat.le_of_ble_eq_true rfl⟩) (va_recv hK hP (ci := 0) (q0 := 1) rfl rfl) hK hP hD hS hA rfl hl.1 rfl (Nat.le_of_ble_eq_true rfl) dX2_passes_28 ⟨Nat.zero_le _, Nat.zero_le _⟩ (fun r_18 S_19 H locs hw hP hD hS => ?_)
        refine lv_iload_n hx hb dX2_passes_31 rfl (lv_at hl 1 rfl) ?_
        refine e_callVi (As := [va_rf r_18, .int x1]) (rest := []) clE_stable hs ⟨hx, hb, hml, hown, hts⟩ (cC_X3_growing l D h cy _ _ _ _ hw) (cwV 2 hts gX2_passes_X3_growing rfl rfl rfl (by decide +kernel) ⟨Nat.le_of_ble_eq_true rfl, Nat.le_of_ble_eq_true rfl⟩) (va_recv hK hP (ci := 3) (q0 := 6) rfl rfl) hK hP hD hS hA rfl hl.1 rfl (Nat.le_of_ble_eq_true rfl) dX2_passes_32 ⟨Nat.zero_le _, Nat.zero_le _⟩ (fun r_20 S_21 H locs hw hP hD hS => ?_)
        refine lv_istore_n (lv' := [(2, .int r_20), (0, .ref (h 7)), (1, .int x1)]) hx hb dX2_passes_35 rfl hl (by decide) rfl (fun ls hl => ?_)
        refine lv_aload_n hx hb dX2_passes_36 rfl (lv_at hl 1 rfl) ?_
        refine va_get (D := D) (ci := 2) (v := .ref (h 1)) (C := RX2) (T := TX2) (N := 3) hx hb hts hin2 hown hK hP 7 rfl rfl 0 (by decide) w17 (fun _ h9 => h9) rfl dX2_passes_37 ?_
        refine lv_iconst (v := 0) hx hb dX2_passes_40 (by decide) ?_
        refine lv_iload_n hx hb dX2_passes_41 rfl (lv_at hl 2 rfl) ?_
        refine lv_aload_n hx hb dX2_passes_42 rfl (lv_at hl 1 rfl) ?_
        refine va_get (D := D) (ci := 2) (v := .ref (h 1)) (C := RX2) (T := TX2) (N := 3) hx hb hts hin2 hown hK hP 7 rfl rfl 0 (by decide) w17 (fun _ h9 => h9) rfl dX2_passes_43 ?_
        refine lv_iconst (v := 0) hx hb dX2_passes_46 (by decide) ?_
        refine lv_iload_n hx hb dX2_passes_47 rfl (lv_at hl 2 rfl) ?_
        refine e_callVi (As := [.int 0, .int x1]) (rest := [.int x1, .int 0, .ref (h 1)]) clE_stable hs ⟨hx, hb, hml, hown, hts⟩ (cC_X0_see l D h cy _ _ _ _ hw) (cwV 2 hts gX2_passes_X0_see rfl rfl rfl (by decide +kernel) ⟨Nat.le_of_ble_eq_true rfl, Nat.le_of_ble_eq_true rfl⟩) (va_recv hK hP (ci := 0) (q0 := 1) rfl rfl) hK hP hD hS hA rfl hl.1 rfl (Nat.le_of_ble_eq_true rfl) dX2_passes_48 ⟨Nat.zero_le _, Nat.zero_le _⟩ (fun r_22 S_23 H locs hw hP hD hS => ?_)
        refine lv_iload_n hx hb dX2_passes_51 rfl (lv_at hl 0 rfl) ?_
        refine lv_iadd hx hb dX2_passes_52 ?_
        refine lv_bipush (v := 99) hx hb dX2_passes_53 (by decide) ?_
        refine va_mmin (own := RX2) (index := 64) hx hb (hml.trans hl.1.symm) hown wm64 wsmin wiM wcdmin (Nat.le_of_ble_eq_true rfl) (Nat.le_of_ble_eq_true rfl) (Nat.zero_le _) (Nat.zero_le _) dX2_passes_55 ?_
        refine e_callVv (As := [.int 0, .int x1, .int (if 99 < (r_22 + r_20) then 99 else (r_22 + r_20))]) (rest := []) clE_stable hs ⟨hx, hb, hml, hown, hts⟩ (cC_X0_set l D h cy _ _ _ _ _ hw) (cwV 3 hts gX2_passes_X0_set rfl rfl rfl (by decide +kernel) ⟨Nat.le_of_ble_eq_true rfl, Nat.le_of_ble_eq_true rfl⟩) (va_recv hK hP (ci := 0) (q0 := 1) rfl rfl) hK hP hD hS hA rfl hl.1 rfl (Nat.le_of_ble_eq_true rfl) dX2_passes_58 ⟨Nat.zero_le _, Nat.zero_le _⟩ (fun S_25 H locs hw hP hD hS => ?_)
        refine lv_iinc (v := x1 + 1) (lv' := [(1, .int (x1 + 1)), (2, .int r_20), (0, .ref (h 7))]) hx hb dX2_passes_61 hl (k := 2) rfl (k_inc (by decide)) (by decide) rfl (fun ls hl => ?_)
        refine lv_goto (tgt := 2) hx hb dX2_passes_64 (by decide) ?_
        exact ih_2 (x1 + 1) S_25 _ _ _ hw hP hD hS (lv_sub hl [2, 0] rfl)
  refine lv_iconst (v := 0) hx hb dX2_passes_0 (by decide) ?_
  refine lv_istore_n (lv' := [(1, .int 0), (0, .ref (h 7))]) hx hb dX2_passes_1 rfl hl (by decide) rfl (fun ls hl => ?_)
  obtain ⟨n_2, hw⟩ := hw
  exact L_2 n_2 0 S _ _ _ hw hP hD hS (lv_sub hl [1, 0] rfl)
def wC_X11_passDays_2 (post : Int32 → CS → Prop) : Nat → Int32 → Int32 → CS → Prop
  | 0, _, _, _ => False
  | n + 1, x1, x2, S => ((x1 ≤ x2 → post x2 S) ∧ (¬ (x1 ≤ x2) → wC_X2_canPass S (fun r_2 S_3 => ((r_2 = 0 → post x2 S_3) ∧ (¬ (r_2 = 0) → wC_X8_keepRow_city_now S_3 (fun S_6 => wC_X2_passes S_6 (fun S_8 => wC_X11_passDays_2 post n x1 (x2 + 1) S_8)))))))
def wC_X11_passDays (p1 : Int32) (S : CS) (post : Int32 → CS → Prop) : Prop := ∃ k_ : Nat, wC_X11_passDays_2 post k_ p1 0 S
set_option maxHeartbeats 4000000 in
set_option maxRecDepth 100000 in
theorem cC_X11_passDays (l : Launch) (D : va_G) (h : Nat → Nat) (cy : Nat → ClassId) (p1 : Int32) (S : CS) (post : Int32 → CS → Prop) (hw : wC_X11_passDays p1 S post) : e_Mi clE l yX11_passDays wsX11_passDays { frames := 5, cells := 0, slots := 0, locals := 121 } D (tyC cy) (wC h cy) [.ref (h 0), .int p1] S post := by
  intro sz
  refine Met.ofW (cc := cX11_passDays) (maxL := 3) (ret := (some .int)) (by decide) rfl ?_
  intro p e s m args below meth c s₁ B hml hv
  obtain ⟨rfl, hsz, hP, hK, hD0, hs⟩ := hv
  have hx := B.exec
  have hb := B.bytes
  have hr := B.returns
  have hts := atoms_spec (ws := wsX11_passDays) B.pre
  have hown : s.vm.findClass RX11 = some m.cls := findClass_of_methodNamed B.named
  have hlocks := B.notSynchronized
  subst hsz
  have hD := hD0.self (sz := s.heap.size)
  generalize hAe : va_A (wC h cy S) s.heap.size = A at hD hs ⊢
  have hA : ∀ q : Nat, s.heap.size ≤ q → A q := fun q h => by rw [← hAe]; exact Or.inr h
  have hS : va_S A s.heap s.heap [] := va_S.rf
  have hin11 : ∀ w ∈ wsX110, w ∈ wsX11_passDays := fun _ h => List.mem_cons_of_mem _ (List.mem_append_left _ (List.mem_append_left _ (List.mem_append_left _ (List.mem_append_left _ (List.mem_append_left _ (List.mem_append_right _ h))))))
  have hin0 : ∀ w ∈ wsX00, w ∈ wsX11_passDays := fun _ h => List.mem_cons_of_mem _ (List.mem_append_left _ (List.mem_append_left _ (List.mem_append_left _ (List.mem_append_left _ (List.mem_append_right _ h)))))
  have hin2 : ∀ w ∈ wsX20, w ∈ wsX11_passDays := fun _ h => List.mem_cons_of_mem _ (List.mem_append_left _ (List.mem_append_left _ (List.mem_append_left _ (List.mem_append_right _ h))))
  have hin8 : ∀ w ∈ wsX80, w ∈ wsX11_passDays := fun _ h => List.mem_cons_of_mem _ (List.mem_append_left _ (List.mem_append_left _ (List.mem_append_right _ h)))
  have hin3 : ∀ w ∈ wsX30, w ∈ wsX11_passDays := fun _ h => List.mem_cons_of_mem _ (List.mem_append_left _ (List.mem_append_right _ h))
  have hin9 : ∀ w ∈ wsX90, w ∈ wsX11_passDays := fun _ h => List.mem_cons_of_mem _ (List.mem_append_right _ h)
  have w10 := hts (.fieldLink RX11 10 "ClownsMourn" "city" "LClownsMourn$City;") (List.mem_of_getElem? (i := 2) rfl)
  have w134 := hts (.fieldLink RX11 134 "ClownsMourn$City" "steps" "LClownsMourn$Steps;") (List.mem_of_getElem? (i := 3) rfl)
  have w138 := hts (.fieldLink RX11 138 "ClownsMourn$City" "now" "[I") (List.mem_of_getElem? (i := 4) rfl)
  have w40 := hts (.fieldLink RX11 40 "ClownsMourn" "guild" "LClownsMourn$Guild;") (List.mem_of_getElem? (i := 1) rfl)
  have hl := lv_entry ([.ref (h 0), .int p1]) (n := 3) (Nat.le_of_ble_eq_true rfl)
  rw [lg_entry_eq]
  generalize (lg_sl ([.ref (h 0), .int p1]) ++ List.replicate (3 - (lg_sl ([.ref (h 0), .int p1])).length) Slot.unset).toArray = ls at hl ⊢
  have hl : lv_has ls 3 [(0, .ref (h 0)), (1, .int p1)] := hl
  unfold wC_X11_passDays at hw
  clear hD0
  have L_2 : ∀ (n2 : Nat) (x1 : Int32) (x2 : Int32) (S : CS) (H : Heap) (locs : List Loc) (ls : Array Slot), wC_X11_passDays_2 post n2 x1 x2 S → va_P D vwCl (wC h cy S) H → va_D A (wC h cy S) → va_S A s.heap H locs → lv_has ls 3 [(0, .ref (h 0)), (1, .int x1), (2, .int x2)] → W p l e (headSpec wsX11_passDays { frames := 5, cells := 0, slots := 0, locals := 121 }).room s m (([.ref (h 0), .int p1] : List Value).toArray) below meth c H locs 0 0 (MQ below (va_Qi post (k_Post D (tyC cy) (wC h cy) A) A) (([.ref (h 0), .int p1] : List Value).toArray) s 0 0 A) (F0 m 2 ls []) := by
    intro n2
    induction n2 with
    | zero => intro x1 x2 S H locs ls hw; exact False.elim hw
    | succ n2 ih_2 =>
      intro x1 x2 S H locs ls hw hP hD hS hl
      unfold wC_X11_passDays_2 at hw
      refine lv_iload_n hx hb dX11_passDays_2 rfl (lv_at hl 2 rfl) ?_
      refine lv_iload_n hx hb dX11_passDays_3 rfl (lv_at hl 1 rfl) ?_
      obtain ⟨hc_1t, hc_1f⟩ := hw
      refine lv_icmp_ge (tgt := 47) hx hb dX11_passDays_4 (by decide) (fun c_1 => ?_) (fun c_1 => ?_)
      · have hw := hc_1t c_1
        clear hc_1t hc_1f
        refine lv_iload_n hx hb dX11_passDays_47 rfl (lv_at hl 2 rfl) ?_
        exact W.iret (v := x2) hx hb hr (fun t ht hW => ⟨⟨x2, S, rfl, hw, by rw [ht]; exact hP, va_K.moved hW.alike hK, hD⟩, hS.F ht⟩) hS.2.2 dX11_passDays_48
      · have hw := hc_1f c_1
        clear hc_1t hc_1f
        refine lv_aload_n hx hb dX11_passDays_7 rfl (lv_at hl 0 rfl) ?_
        refine va_get (D := D) (ci := 10) (v := .ref (h 7)) (C := RX11) (T := TX11) (N := 9) hx hb hts hin11 hown hK hP 0 rfl rfl 4 (by decide) w40 (fun _ h9 => h9) rfl dX11_passDays_8 ?_
        refine e_callVi (As := []) (rest := []) clE_stable hs ⟨hx, hb, hml, hown, hts⟩ (cC_X2_canPass l D h cy _ _ hw) (cwV 0 hts gX11_passDays_X2_canPass rfl rfl rfl (by decide +kernel) ⟨Nat.le_of_ble_eq_true rfl, Nat.le_of_ble_eq_true rfl⟩) (va_recv hK hP (ci := 2) (q0 := 7) rfl rfl) hK hP hD hS hA rfl hl.1 rfl (Nat.le_of_ble_eq_true rfl) dX11_passDays_11 ⟨Nat.zero_le _, Nat.zero_le _⟩ (fun r_2 S_3 H locs hw hP hD hS => ?_)
        obtain ⟨hc_4t, hc_4f⟩ := hw
        refine lv_if_eq (tgt := 47) hx hb dX11_passDays_14 (by decide) (fun c_4 => ?_) (fun c_4 => ?_)
        · have hw := hc_4t c_4
          clear hc_4t hc_4f
          refine lv_iload_n hx hb dX11_passDays_47 rfl (lv_at hl 2 rfl) ?_
          exact W.iret (v := x2) hx hb hr (fun t ht hW => ⟨⟨x2, S_3, rfl, hw, by rw [ht]; exact hP, va_K.moved hW.alike hK, hD⟩, hS.F ht⟩) hS.2.2 dX11_passDays_48
        · have hw := hc_4f c_4
          clear hc_4t hc_4f
          refine lv_aload_n hx hb dX11_passDays_17 rfl (lv_at hl 0 rfl) ?_
          refine va_get (D := D) (ci := 10) (v := .ref (h 1)) (C := RX11) (T := TX11) (N := 9) hx hb hts hin11 hown hK hP 0 rfl rfl 0 (by decide) w10 (fun _ h9 => h9) rfl dX11_passDays_18 ?_
          refine va_get (D := D) (ci := 0) (v := .ref (h 2)) (C := RX0) (T := TX0) (N := 16) hx hb hts hin0 hown hK hP 1 rfl rfl 1 (by decide) w134 (fun _ h9 => h9) rfl dX11_passDays_21 ?_
          refine lv_aload_n hx hb dX11_passDays_24 rfl (lv_at hl 0 rfl) ?_
          refine va_get (D := D) (ci := 10) (v := .ref (h 1)) (C := RX11) (T := TX11) (N := 9) hx hb hts hin11 hown hK hP 0 rfl rfl 0 (by decide) w10 (fun _ h9 => h9) rfl dX11_passDays_25 ?_
          refine va_get (D := D) (ci := 0) (v := .ref (h 12)) (C := RX0) (T := TX0) (N := 16) hx hb hts hin0 hown hK hP 1 rfl rfl 0 (by decide) w138 (fun _ h9 => h9) rfl dX11_passDays_28 ?_
          refine e_callVv (As := [.ref (h 12)]) (rest := []) clE_stable hs ⟨hx, hb, hml, hown, hts⟩ (cC_X8_keepRow_city_now l D h cy _ _ hw) (cwV 1 hts gX11_passDays_X8_keepRow rfl rfl rfl (by decide +kernel) ⟨Nat.le_of_ble_eq_true rfl, Nat.le_of_ble_eq_true rfl⟩) (va_recv hK hP (ci := 8) (q0 := 2) rfl rfl) hK hP hD hS hA rfl hl.1 rfl (Nat.le_of_ble_eq_true rfl) dX11_passDays_31 ⟨Nat.zero_le _, Nat.zero_le _⟩ (fun S_6 H locs hw hP hD hS => ?_)
          refine lv_aload_n hx hb dX11_passDays_34 rfl (lv_at hl 0 rfl) ?_
          refine va_get (D := D) (ci := 10) (v := .ref (h 7)) (C := RX11) (T := TX11) (N := 9) hx hb hts hin11 hown hK hP 0 rfl rfl 4 (by decide) w40 (fun _ h9 => h9) rfl dX11_passDays_35 ?_
          refine e_callVv (As := []) (rest := []) clE_stable hs ⟨hx, hb, hml, hown, hts⟩ (cC_X2_passes l D h cy _ _ hw) (cwV 0 hts gX11_passDays_X2_passes rfl rfl rfl (by decide +kernel) ⟨Nat.le_of_ble_eq_true rfl, Nat.le_of_ble_eq_true rfl⟩) (va_recv hK hP (ci := 2) (q0 := 7) rfl rfl) hK hP hD hS hA rfl hl.1 rfl (Nat.le_of_ble_eq_true rfl) dX11_passDays_38 ⟨Nat.zero_le _, Nat.zero_le _⟩ (fun S_8 H locs hw hP hD hS => ?_)
          refine lv_iinc (v := x2 + 1) (lv' := [(2, .int (x2 + 1)), (0, .ref (h 0)), (1, .int x1)]) hx hb dX11_passDays_41 hl (k := 2) rfl (k_inc (by decide)) (by decide) rfl (fun ls hl => ?_)
          refine lv_goto (tgt := 2) hx hb dX11_passDays_44 (by decide) ?_
          exact ih_2 x1 (x2 + 1) S_8 _ _ _ hw hP hD hS (lv_sub hl [1, 2, 0] rfl)
  refine lv_iconst (v := 0) hx hb dX11_passDays_0 (by decide) ?_
  refine lv_istore_n (lv' := [(2, .int 0), (0, .ref (h 0)), (1, .int p1)]) hx hb dX11_passDays_1 rfl hl (by decide) rfl (fun ls hl => ?_)
  obtain ⟨n_2, hw⟩ := hw
  exact L_2 n_2 p1 0 S _ _ _ hw hP hD hS (lv_sub hl [1, 2, 0] rfl)
def wC_X11_day (p1 : Int32) (S : CS) (post : Int32 → CS → Prop) : Prop := wC_X11_within p1 1 60 S (fun r_1 S_2 => ((r_1 = 0 → post (-1) S_2) ∧ (¬ (r_1 = 0) → wC_X0_today S_2 (fun r_4 S_5 => (((r_4 + p1) ≤ 9999 → wC_X11_passDays p1 S_5 (fun r_7 S_8 => wC_X0_today S_8 (fun r_9 S_10 => post r_9 S_10))) ∧ (¬ ((r_4 + p1) ≤ 9999) → post (-1) S_5))))))
set_option maxHeartbeats 4000000 in
set_option maxRecDepth 100000 in
theorem cC_X11_day (l : Launch) (D : va_G) (h : Nat → Nat) (cy : Nat → ClassId) (p1 : Int32) (S : CS) (post : Int32 → CS → Prop) (hw : wC_X11_day p1 S post) : e_Mi clE l yX11_day wsX11_day { frames := 6, cells := 0, slots := 0, locals := 143 } D (tyC cy) (wC h cy) [.ref (h 0), .int p1] S post := by
  intro sz
  refine Met.ofW (cc := cX11_day) (maxL := 2) (ret := (some .int)) (by decide) rfl ?_
  intro p e s m args below meth c s₁ B hml hv
  obtain ⟨rfl, hsz, hP, hK, hD0, hs⟩ := hv
  have hx := B.exec
  have hb := B.bytes
  have hr := B.returns
  have hts := atoms_spec (ws := wsX11_day) B.pre
  have hown : s.vm.findClass RX11 = some m.cls := findClass_of_methodNamed B.named
  have hlocks := B.notSynchronized
  subst hsz
  have hD := hD0.self (sz := s.heap.size)
  generalize hAe : va_A (wC h cy S) s.heap.size = A at hD hs ⊢
  have hA : ∀ q : Nat, s.heap.size ≤ q → A q := fun q h => by rw [← hAe]; exact Or.inr h
  have hS : va_S A s.heap s.heap [] := va_S.rf
  have hin11 : ∀ w ∈ wsX110, w ∈ wsX11_day := fun _ h => List.mem_cons_of_mem _ (List.mem_append_left _ (List.mem_append_left _ (List.mem_append_left _ (List.mem_append_left _ (List.mem_append_left _ (List.mem_append_right _ h))))))
  have hin0 : ∀ w ∈ wsX00, w ∈ wsX11_day := fun _ h => List.mem_cons_of_mem _ (List.mem_append_left _ (List.mem_append_left _ (List.mem_append_left _ (List.mem_append_left _ (List.mem_append_right _ h)))))
  have hin2 : ∀ w ∈ wsX20, w ∈ wsX11_day := fun _ h => List.mem_cons_of_mem _ (List.mem_append_left _ (List.mem_append_left _ (List.mem_append_left _ (List.mem_append_right _ h))))
  have hin8 : ∀ w ∈ wsX80, w ∈ wsX11_day := fun _ h => List.mem_cons_of_mem _ (List.mem_append_left _ (List.mem_append_left _ (List.mem_append_right _ h)))
  have hin3 : ∀ w ∈ wsX30, w ∈ wsX11_day := fun _ h => List.mem_cons_of_mem _ (List.mem_append_left _ (List.mem_append_right _ h))
  have hin9 : ∀ w ∈ wsX90, w ∈ wsX11_day := fun _ h => List.mem_cons_of_mem _ (List.mem_append_right _ h)
  have w10 := hts (.fieldLink RX11 10 "ClownsMourn" "city" "LClownsMourn$City;") (List.mem_of_getElem? (i := 1) rfl)
  have hl := lv_entry ([.ref (h 0), .int p1]) (n := 2) (Nat.le_of_ble_eq_true rfl)
  rw [lg_entry_eq]
  generalize (lg_sl ([.ref (h 0), .int p1]) ++ List.replicate (2 - (lg_sl ([.ref (h 0), .int p1])).length) Slot.unset).toArray = ls at hl ⊢
  have hl : lv_has ls 2 [(0, .ref (h 0)), (1, .int p1)] := hl
  unfold wC_X11_day at hw
  clear hD0
  refine lv_iload_n hx hb dX11_day_0 rfl (lv_at hl 1 rfl) ?_
  refine lv_iconst (v := 1) hx hb dX11_day_1 (by decide) ?_
  refine lv_bipush (v := 60) hx hb dX11_day_2 (by decide) ?_
  refine e_callSi (As := [.int p1, .int 1, .int 60]) (rest := []) clE_stable hs ⟨hx, hb, hml, hown, hts⟩ (cC_X11_within l D h cy _ _ _ _ _ hw) (va_cwS 3 hts gX11_day_X11_within rfl rfl rfl (by decide +kernel) ⟨Nat.le_of_ble_eq_true rfl, Nat.le_of_ble_eq_true rfl⟩) hK hP hD hS hA rfl hl.1 rfl (Nat.le_of_ble_eq_true rfl) dX11_day_4 ⟨Nat.zero_le _, Nat.zero_le _⟩ (fun r_1 S_2 H locs hw hP hD hS => ?_)
  obtain ⟨hc_3t, hc_3f⟩ := hw
  refine lv_if_eq (tgt := 25) hx hb dX11_day_7 (by decide) (fun c_3 => ?_) (fun c_3 => ?_)
  · have hw := hc_3t c_3
    clear hc_3t hc_3f
    refine lv_iconst (v := (-1)) hx hb dX11_day_25 (by decide) ?_
    exact W.iret (v := (-1)) hx hb hr (fun t ht hW => ⟨⟨(-1), S_2, rfl, hw, by rw [ht]; exact hP, va_K.moved hW.alike hK, hD⟩, hS.F ht⟩) hS.2.2 dX11_day_26
  · have hw := hc_3f c_3
    clear hc_3t hc_3f
    refine lv_aload_n hx hb dX11_day_10 rfl (lv_at hl 0 rfl) ?_
    refine va_get (D := D) (ci := 10) (v := .ref (h 1)) (C := RX11) (T := TX11) (N := 9) hx hb hts hin11 hown hK hP 0 rfl rfl 0 (by decide) w10 (fun _ h9 => h9) rfl dX11_day_11 ?_
    refine e_callVi (As := []) (rest := []) clE_stable hs ⟨hx, hb, hml, hown, hts⟩ (cC_X0_today l D h cy _ _ hw) (cwV 0 hts gX11_day_X0_today rfl rfl rfl (by decide +kernel) ⟨Nat.le_of_ble_eq_true rfl, Nat.le_of_ble_eq_true rfl⟩) (va_recv hK hP (ci := 0) (q0 := 1) rfl rfl) hK hP hD hS hA rfl hl.1 rfl (Nat.le_of_ble_eq_true rfl) dX11_day_14 ⟨Nat.zero_le _, Nat.zero_le _⟩ (fun r_4 S_5 H locs hw hP hD hS => ?_)
    refine lv_iload_n hx hb dX11_day_17 rfl (lv_at hl 1 rfl) ?_
    refine lv_iadd hx hb dX11_day_18 ?_
    refine lv_sipush (v := 9999) hx hb dX11_day_19 (by decide) ?_
    obtain ⟨hc_6t, hc_6f⟩ := hw
    refine lv_icmp_le (tgt := 27) hx hb dX11_day_22 (by decide) (fun c_6 => ?_) (fun c_6 => ?_)
    · have hw := hc_6t c_6
      clear hc_6t hc_6f
      refine lv_aload_n hx hb dX11_day_27 rfl (lv_at hl 0 rfl) ?_
      refine lv_iload_n hx hb dX11_day_28 rfl (lv_at hl 1 rfl) ?_
      refine e_callVi (As := [.int p1]) (rest := []) clE_stable hs ⟨hx, hb, hml, hown, hts⟩ (cC_X11_passDays l D h cy _ _ _ hw) (cwV 1 hts gX11_day_X11_passDays rfl rfl rfl (by decide +kernel) ⟨Nat.le_of_ble_eq_true rfl, Nat.le_of_ble_eq_true rfl⟩) (va_recv hK hP (ci := 10) (q0 := 0) rfl rfl) hK hP hD hS hA rfl hl.1 rfl (Nat.le_of_ble_eq_true rfl) dX11_day_29 ⟨Nat.zero_le _, Nat.zero_le _⟩ (fun r_7 S_8 H locs hw hP hD hS => ?_)
      refine lv_pop hx hb dX11_day_32 rfl ?_
      refine lv_aload_n hx hb dX11_day_33 rfl (lv_at hl 0 rfl) ?_
      refine va_get (D := D) (ci := 10) (v := .ref (h 1)) (C := RX11) (T := TX11) (N := 9) hx hb hts hin11 hown hK hP 0 rfl rfl 0 (by decide) w10 (fun _ h9 => h9) rfl dX11_day_34 ?_
      refine e_callVi (As := []) (rest := []) clE_stable hs ⟨hx, hb, hml, hown, hts⟩ (cC_X0_today l D h cy _ _ hw) (cwV 0 hts gX11_day_X0_today rfl rfl rfl (by decide +kernel) ⟨Nat.le_of_ble_eq_true rfl, Nat.le_of_ble_eq_true rfl⟩) (va_recv hK hP (ci := 0) (q0 := 1) rfl rfl) hK hP hD hS hA rfl hl.1 rfl (Nat.le_of_ble_eq_true rfl) dX11_day_37 ⟨Nat.zero_le _, Nat.zero_le _⟩ (fun r_9 S_10 H locs hw hP hD hS => ?_)
      exact W.iret (v := r_9) hx hb hr (fun t ht hW => ⟨⟨r_9, S_10, rfl, hw, by rw [ht]; exact hP, va_K.moved hW.alike hK, hD⟩, hS.F ht⟩) hS.2.2 dX11_day_40
    · have hw := hc_6f c_6
      clear hc_6t hc_6f
      refine lv_iconst (v := (-1)) hx hb dX11_day_25 (by decide) ?_
      exact W.iret (v := (-1)) hx hb hr (fun t ht hW => ⟨⟨(-1), S_5, rfl, hw, by rw [ht]; exact hP, va_K.moved hW.alike hK, hD⟩, hS.F ht⟩) hS.2.2 dX11_day_26
def wC_X9_numberOf (t0 : Nat) (p1 : Int32) (p2 : Int32) (S : CS) (post : Int32 → CS → Prop) : Prop := (∃ B_1 : TB, (t0, B_1) ∈ cx_px S ∧ (B_1.2.2.1.1 < 2 ^ 31 ∧ post (k_at B_1.2.2.1.1 B_1.2.2.1.2 ((p1 * 4) + p2)) S))
set_option maxHeartbeats 4000000 in
set_option maxRecDepth 100000 in
theorem cC_X9_numberOf (l : Launch) (D : va_G) (h : Nat → Nat) (cy : Nat → ClassId) (t0 : Nat) (p1 : Int32) (p2 : Int32) (S : CS) (post : Int32 → CS → Prop) (hw : wC_X9_numberOf t0 p1 p2 S post) : e_Mi clE l yX9_numberOf wsX9_numberOf { frames := 1, cells := 0, slots := 0, locals := 21 } D (tyC cy) (wC h cy) [.ref t0, .int p1, .int p2] S post := by
  intro sz
  refine Met.ofW (cc := cX9_numberOf) (maxL := 3) (ret := (some .int)) (by decide) rfl ?_
  intro p e s m args below meth c s₁ B hml hv
  obtain ⟨rfl, hsz, hP, hK, hD0, hs⟩ := hv
  have hx := B.exec
  have hb := B.bytes
  have hr := B.returns
  have hts := atoms_spec (ws := wsX9_numberOf) B.pre
  have hown : s.vm.findClass RX9 = some m.cls := findClass_of_methodNamed B.named
  have hlocks := B.notSynchronized
  subst hsz
  have hD := hD0.self (sz := s.heap.size)
  generalize hAe : va_A (wC h cy S) s.heap.size = A at hD hs ⊢
  have hA : ∀ q : Nat, s.heap.size ≤ q → A q := fun q h => by rw [← hAe]; exact Or.inr h
  have hS : va_S A s.heap s.heap [] := va_S.rf
  have hin9 : ∀ w ∈ wsX90, w ∈ wsX9_numberOf := fun _ h => List.mem_cons_of_mem _ (List.mem_append_right _ h)
  have w13 := hts (.fieldLink RX9 13 "ClownsMourn$Text" "clauses" "[I") (List.mem_of_getElem? (i := 1) rfl)
  have wiX11 := hts (.initialized RX11) (List.mem_of_getElem? (i := 3) rfl)
  have wstat := hts (.static yX11_at) (List.mem_of_getElem? (i := 2) rfl)
  have hl := lv_entry ([.ref t0, .int p1, .int p2]) (n := 3) (Nat.le_of_ble_eq_true rfl)
  rw [lg_entry_eq]
  generalize (lg_sl ([.ref t0, .int p1, .int p2]) ++ List.replicate (3 - (lg_sl ([.ref t0, .int p1, .int p2])).length) Slot.unset).toArray = ls at hl ⊢
  have hl : lv_has ls 3 [(0, .ref t0), (1, .int p1), (2, .int p2)] := hl
  unfold wC_X9_numberOf at hw
  clear hD0
  refine lv_aload_n hx hb dX9_numberOf_0 rfl (lv_at hl 0 rfl) ?_
  obtain ⟨B_1, hmB_1, hw⟩ := hw
  obtain ⟨qB_1, hqB_1⟩ := px_obj (h := h) (cy := cy) hmB_1
  refine va_get (D := D) (ci := 9) (v := .ref B_1.2.1.1) (C := RX9) (T := TX9) (N := 4) hx hb hts hin9 hown hK hP qB_1 hqB_1 rfl 1 (by decide) w13 (fun _ h9 => h9) rfl dX9_numberOf_1 ?_
  refine lv_iload_n hx hb dX9_numberOf_4 rfl (lv_at hl 1 rfl) ?_
  refine lv_iconst (v := 4) hx hb dX9_numberOf_5 (by decide) ?_
  refine lv_imul hx hb dX9_numberOf_6 ?_
  refine lv_iload_n hx hb dX9_numberOf_7 rfl (lv_at hl 2 rfl) ?_
  refine lv_iadd hx hb dX9_numberOf_8 ?_
  obtain ⟨hnq_2, hw⟩ := hw
  obtain ⟨q_2, hq_2⟩ := px_r1 (h := h) (cy := cy) hmB_1
  refine e_callNi (As := [.ref B_1.2.1.1, .int ((p1 * 4) + p2)]) (rest := []) clE_stable hs ⟨hx, hb, hml, hown, hts⟩ (cA_at l D clE (tyC cy) (wC h cy) S q_2 24 _ _ B_1.2.2.1.1 B_1.2.2.1.2 hq_2 rfl hnq_2 _ (fun r S0 => r = k_at B_1.2.2.1.1 B_1.2.2.1.2 ((p1 * 4) + p2) ∧ S = S0) ⟨rfl, rfl⟩) ⟨va_cnB 2 hts gX9_numberOf_X11_at_n25 rfl rfl rfl hs.1.2.2.2.2.2.2.2.2.2.2.2.2.2.1 wiX11 (by decide +kernel) ⟨Nat.le_of_ble_eq_true rfl, Nat.le_of_ble_eq_true rfl⟩, wstat, trivial⟩ hK hP hD hS hA rfl hl.1 rfl (Nat.le_of_ble_eq_true rfl) dX9_numberOf_9 ⟨Nat.zero_le _, Nat.zero_le _⟩ (fun r_ S_ H locs hq hP hD hS => ?_)
  obtain ⟨rfl, rfl⟩ := hq
  exact W.iret (v := k_at B_1.2.2.1.1 B_1.2.2.1.2 ((p1 * 4) + p2)) hx hb hr (fun t ht hW => ⟨⟨k_at B_1.2.2.1.1 B_1.2.2.1.2 ((p1 * 4) + p2), S, rfl, hw, by rw [ht]; exact hP, va_K.moved hW.alike hK, hD⟩, hS.F ht⟩) hS.2.2 dX9_numberOf_12
def wC_X11_playClause (p1 : Option Nat) (p2 : Int32) (S : CS) (post : Int32 → CS → Prop) : Prop := (∃ a_1 : Nat, p1 = some a_1 ∧ (∃ B_2 : TB, (a_1, B_2) ∈ cx_px S ∧ wC_X9_numberOf a_1 p2 1 S (fun r_3 S_4 => (∃ B_5 : TB, (a_1, B_5) ∈ cx_px S_4 ∧ wC_X9_numberOf a_1 p2 2 S_4 (fun r_6 S_7 => (∃ B_8 : TB, (a_1, B_8) ∈ cx_px S_7 ∧ wC_X9_numberOf a_1 p2 3 S_7 (fun r_9 S_10 => (∃ B_11 : TB, (a_1, B_11) ∈ cx_px S_10 ∧ wC_X9_numberOf a_1 p2 0 S_10 (fun r_12 S_13 => ((r_12 = 0 → wC_X11_passDays r_3 S_13 (fun r_14 S_15 => ((r_14 = r_3 → post 1 S_15) ∧ (¬ (r_14 = r_3) → post 0 S_15)))) ∧ (r_12 = 3 → wC_X11_mood r_6 r_3 r_9 S_13 (fun r_18 S_19 => (narrow .boolean (.int r_18) = .int r_18 ∧ post r_18 S_19))) ∧ (r_12 = 5 → wC_X11_house r_3 r_6 S_13 (fun r_21 S_22 => ((r_21 = (-1) → post 0 S_22) ∧ (¬ (r_21 = (-1)) → post 1 S_22)))) ∧ (r_12 = 9 → wC_X11_fall r_6 r_3 S_13 (fun r_25 S_26 => ((r_25 = (-1) → post 0 S_26) ∧ (¬ (r_25 = (-1)) → post 1 S_26)))) ∧ (r_12 = 15 → wC_X11_clown r_3 r_6 S_13 (fun r_29 S_30 => ((r_29 = (-1) → post 0 S_30) ∧ (¬ (r_29 = (-1)) → post 1 S_30)))) ∧ (r_12 = 16 → wC_X11_send r_3 r_6 S_13 (fun r_33 S_34 => (narrow .boolean (.int r_33) = .int r_33 ∧ post r_33 S_34))) ∧ (r_12 = 17 → wC_X11_rest r_3 S_13 (fun r_36 S_37 => (narrow .boolean (.int r_36) = .int r_36 ∧ post r_36 S_37))) ∧ (¬ r_12 = 0 → ¬ r_12 = 3 → ¬ r_12 = 5 → ¬ r_12 = 9 → ¬ r_12 = 15 → ¬ r_12 = 16 → ¬ r_12 = 17 → post 1 S_13)))))))))))
set_option maxHeartbeats 4000000 in
set_option maxRecDepth 100000 in
theorem cC_X11_playClause (l : Launch) (D : va_G) (h : Nat → Nat) (cy : Nat → ClassId) (p1 : Option Nat) (p2 : Int32) (S : CS) (post : Int32 → CS → Prop) (hw : wC_X11_playClause p1 p2 S post) : e_Mi clE l yX11_playClause wsX11_playClause { frames := 6, cells := 0, slots := 0, locals := 152 } D (tyC cy) (wC h cy) [.ref (h 0), va_rf p1, .int p2] S post := by
  intro sz
  refine Met.ofW (cc := cX11_playClause) (maxL := 6) (ret := (some .boolean)) (by decide) rfl ?_
  intro p e s m args below meth c s₁ B hml hv
  obtain ⟨rfl, hsz, hP, hK, hD0, hs⟩ := hv
  have hx := B.exec
  have hb := B.bytes
  have hr := B.returns
  have hts := atoms_spec (ws := wsX11_playClause) B.pre
  have hown : s.vm.findClass RX11 = some m.cls := findClass_of_methodNamed B.named
  have hlocks := B.notSynchronized
  subst hsz
  have hD := hD0.self (sz := s.heap.size)
  generalize hAe : va_A (wC h cy S) s.heap.size = A at hD hs ⊢
  have hA : ∀ q : Nat, s.heap.size ≤ q → A q := fun q h => by rw [← hAe]; exact Or.inr h
  have hS : va_S A s.heap s.heap [] := va_S.rf
  have hl := lv_entry ([.ref (h 0), va_rf p1, .int p2]) (n := 6) (by cases p1 <;> exact Nat.le_of_ble_eq_true rfl)
  rw [lg_entry_eq]
  generalize (lg_sl ([.ref (h 0), va_rf p1, .int p2]) ++ List.replicate (6 - (lg_sl ([.ref (h 0), va_rf p1, .int p2])).length) Slot.unset).toArray = ls at hl ⊢
  have hl : lv_has ls 6 [(0, .ref (h 0)), (1, va_rf p1), (2, .int p2)] := by cases p1 <;> exact hl
  unfold wC_X11_playClause at hw
  clear hD0
  refine k_aload_nq hx hb dX11_playClause_0 rfl (lv_at hl 1 rfl) ?_
  refine lv_iload_n hx hb dX11_playClause_1 rfl (lv_at hl 2 rfl) ?_
  refine lv_iconst (v := 1) hx hb dX11_playClause_2 (by decide) ?_
  obtain ⟨a_1, ha_1, hw⟩ := hw
  subst ha_1
  have hl : lv_has ls 6 [(0, .ref (h 0)), (1, .ref a_1), (2, .int p2)] := hl
  obtain ⟨B_2, hmB_2, hw⟩ := hw
  obtain ⟨qB_2, hqB_2⟩ := px_obj (h := h) (cy := cy) hmB_2
  refine e_callVi (As := [.int p2, .int 1]) (rest := []) clE_stable hs ⟨hx, hb, hml, hown, hts⟩ (cC_X9_numberOf l D h cy _ _ _ _ _ hw) (cwV 2 hts gX11_playClause_X9_numberOf rfl rfl rfl (by decide +kernel) ⟨Nat.le_of_ble_eq_true rfl, Nat.le_of_ble_eq_true rfl⟩) (va_recv hK hP (ci := 9) (q0 := qB_2) rfl hqB_2) hK hP hD hS hA rfl hl.1 rfl (Nat.le_of_ble_eq_true rfl) dX11_playClause_3 ⟨Nat.zero_le _, Nat.zero_le _⟩ (fun r_3 S_4 H locs hw hP hD hS => ?_)
  refine lv_istore_n (lv' := [(3, .int r_3), (0, .ref (h 0)), (1, .ref a_1), (2, .int p2)]) hx hb dX11_playClause_6 rfl hl (by decide) rfl (fun ls hl => ?_)
  refine lv_aload_n hx hb dX11_playClause_7 rfl (lv_at hl 2 rfl) ?_
  refine lv_iload_n hx hb dX11_playClause_8 rfl (lv_at hl 3 rfl) ?_
  refine lv_iconst (v := 2) hx hb dX11_playClause_9 (by decide) ?_
  obtain ⟨B_5, hmB_5, hw⟩ := hw
  obtain ⟨qB_5, hqB_5⟩ := px_obj (h := h) (cy := cy) hmB_5
  refine e_callVi (As := [.int p2, .int 2]) (rest := []) clE_stable hs ⟨hx, hb, hml, hown, hts⟩ (cC_X9_numberOf l D h cy _ _ _ _ _ hw) (cwV 2 hts gX11_playClause_X9_numberOf rfl rfl rfl (by decide +kernel) ⟨Nat.le_of_ble_eq_true rfl, Nat.le_of_ble_eq_true rfl⟩) (va_recv hK hP (ci := 9) (q0 := qB_5) rfl hqB_5) hK hP hD hS hA rfl hl.1 rfl (Nat.le_of_ble_eq_true rfl) dX11_playClause_10 ⟨Nat.zero_le _, Nat.zero_le _⟩ (fun r_6 S_7 H locs hw hP hD hS => ?_)
  refine lv_istore (lv' := [(4, .int r_6), (3, .int r_3), (0, .ref (h 0)), (1, .ref a_1), (2, .int p2)]) hx hb dX11_playClause_13 hl (by decide) rfl (fun ls hl => ?_)
  refine lv_aload_n hx hb dX11_playClause_15 rfl (lv_at hl 3 rfl) ?_
  refine lv_iload_n hx hb dX11_playClause_16 rfl (lv_at hl 4 rfl) ?_
  refine lv_iconst (v := 3) hx hb dX11_playClause_17 (by decide) ?_
  obtain ⟨B_8, hmB_8, hw⟩ := hw
  obtain ⟨qB_8, hqB_8⟩ := px_obj (h := h) (cy := cy) hmB_8
  refine e_callVi (As := [.int p2, .int 3]) (rest := []) clE_stable hs ⟨hx, hb, hml, hown, hts⟩ (cC_X9_numberOf l D h cy _ _ _ _ _ hw) (cwV 2 hts gX11_playClause_X9_numberOf rfl rfl rfl (by decide +kernel) ⟨Nat.le_of_ble_eq_true rfl, Nat.le_of_ble_eq_true rfl⟩) (va_recv hK hP (ci := 9) (q0 := qB_8) rfl hqB_8) hK hP hD hS hA rfl hl.1 rfl (Nat.le_of_ble_eq_true rfl) dX11_playClause_18 ⟨Nat.zero_le _, Nat.zero_le _⟩ (fun r_9 S_10 H locs hw hP hD hS => ?_)
  refine lv_istore (lv' := [(5, .int r_9), (4, .int r_6), (3, .int r_3), (0, .ref (h 0)), (1, .ref a_1), (2, .int p2)]) hx hb dX11_playClause_21 hl (by decide) rfl (fun ls hl => ?_)
  refine lv_aload_n hx hb dX11_playClause_23 rfl (lv_at hl 4 rfl) ?_
  refine lv_iload_n hx hb dX11_playClause_24 rfl (lv_at hl 5 rfl) ?_
  refine lv_iconst (v := 0) hx hb dX11_playClause_25 (by decide) ?_
  obtain ⟨B_11, hmB_11, hw⟩ := hw
  obtain ⟨qB_11, hqB_11⟩ := px_obj (h := h) (cy := cy) hmB_11
  refine e_callVi (As := [.int p2, .int 0]) (rest := []) clE_stable hs ⟨hx, hb, hml, hown, hts⟩ (cC_X9_numberOf l D h cy _ _ _ _ _ hw) (cwV 2 hts gX11_playClause_X9_numberOf rfl rfl rfl (by decide +kernel) ⟨Nat.le_of_ble_eq_true rfl, Nat.le_of_ble_eq_true rfl⟩) (va_recv hK hP (ci := 9) (q0 := qB_11) rfl hqB_11) hK hP hD hS hA rfl hl.1 rfl (Nat.le_of_ble_eq_true rfl) dX11_playClause_26 ⟨Nat.zero_le _, Nat.zero_le _⟩ (fun r_12 S_13 H locs hw hP hD hS => ?_)
  obtain ⟨hc_17, hw⟩ := hw
  by_cases c_17 : r_12 = 0
  · have hw := hc_17 c_17
    refine lv_tableIn (off := 162) (tgt := 191) hx hb dX11_playClause_29 (by rw [c_17]; decide) (by rw [c_17]; decide) (by rw [c_17]; rfl) (by decide) ?_
    refine lv_aload_n hx hb dX11_playClause_191 rfl (lv_at hl 3 rfl) ?_
    refine lv_iload_n hx hb dX11_playClause_192 rfl (lv_at hl 2 rfl) ?_
    refine e_callVi (As := [.int r_3]) (rest := []) clE_stable hs ⟨hx, hb, hml, hown, hts⟩ (cC_X11_passDays l D h cy _ _ _ hw) (cwV 1 hts gX11_playClause_X11_passDays rfl rfl rfl (by decide +kernel) ⟨Nat.le_of_ble_eq_true rfl, Nat.le_of_ble_eq_true rfl⟩) (va_recv hK hP (ci := 10) (q0 := 0) rfl rfl) hK hP hD hS hA rfl hl.1 rfl (Nat.le_of_ble_eq_true rfl) dX11_playClause_193 ⟨Nat.zero_le _, Nat.zero_le _⟩ (fun r_14 S_15 H locs hw hP hD hS => ?_)
    refine lv_iload_n hx hb dX11_playClause_196 rfl (lv_at hl 2 rfl) ?_
    obtain ⟨hc_16t, hc_16f⟩ := hw
    refine lv_icmp_ne (tgt := 204) hx hb dX11_playClause_197 (by decide) (fun c_16 => ?_) (fun c_16 => ?_)
    · have hw := hc_16f c_16
      clear hc_16t hc_16f
      refine lv_iconst (v := 0) hx hb dX11_playClause_204 (by decide) ?_
      exact W.zret (v := 0) hx hb hr (by decide +kernel) (fun t ht hW => ⟨⟨0, S_15, rfl, hw, by rw [ht]; exact hP, va_K.moved hW.alike hK, hD⟩, hS.F ht⟩) hS.2.2 dX11_playClause_205
    · have hw := hc_16t c_16
      clear hc_16t hc_16f
      refine lv_iconst (v := 1) hx hb dX11_playClause_200 (by decide) ?_
      refine lv_goto (tgt := 205) hx hb dX11_playClause_201 (by decide) ?_
      exact W.zret (v := 1) hx hb hr (by decide +kernel) (fun t ht hW => ⟨⟨1, S_15, rfl, hw, by rw [ht]; exact hP, va_K.moved hW.alike hK, hD⟩, hS.F ht⟩) hS.2.2 dX11_playClause_205
  obtain ⟨hc_20, hw⟩ := hw
  by_cases c_20 : r_12 = 3
  · have hw := hc_20 c_20
    refine lv_tableIn (off := 121) (tgt := 150) hx hb dX11_playClause_29 (by rw [c_20]; decide) (by rw [c_20]; decide) (by rw [c_20]; rfl) (by decide) ?_
    refine lv_aload_n hx hb dX11_playClause_150 rfl (lv_at hl 3 rfl) ?_
    refine lv_iload hx hb dX11_playClause_151 (lv_at hl 1 rfl) ?_
    refine lv_iload_n hx hb dX11_playClause_153 rfl (lv_at hl 2 rfl) ?_
    refine lv_iload hx hb dX11_playClause_154 (lv_at hl 0 rfl) ?_
    refine e_callVi (As := [.int r_6, .int r_3, .int r_9]) (rest := []) clE_stable hs ⟨hx, hb, hml, hown, hts⟩ (cC_X11_mood l D h cy _ _ _ _ _ hw) (cwV 3 hts gX11_playClause_X11_mood rfl rfl rfl (by decide +kernel) ⟨Nat.le_of_ble_eq_true rfl, Nat.le_of_ble_eq_true rfl⟩) (va_recv hK hP (ci := 10) (q0 := 0) rfl rfl) hK hP hD hS hA rfl hl.1 rfl (Nat.le_of_ble_eq_true rfl) dX11_playClause_156 ⟨Nat.zero_le _, Nat.zero_le _⟩ (fun r_18 S_19 H locs hw hP hD hS => ?_)
    obtain ⟨hn, hw⟩ := hw
    exact W.zret (v := r_18) hx hb hr hn (fun t ht hW => ⟨⟨r_18, S_19, rfl, hw, by rw [ht]; exact hP, va_K.moved hW.alike hK, hD⟩, hS.F ht⟩) hS.2.2 dX11_playClause_159
  obtain ⟨hc_24, hw⟩ := hw
  by_cases c_24 : r_12 = 5
  · have hw := hc_24 c_24
    refine lv_tableIn (off := 87) (tgt := 116) hx hb dX11_playClause_29 (by rw [c_24]; decide) (by rw [c_24]; decide) (by rw [c_24]; rfl) (by decide) ?_
    refine lv_aload_n hx hb dX11_playClause_116 rfl (lv_at hl 3 rfl) ?_
    refine lv_iload_n hx hb dX11_playClause_117 rfl (lv_at hl 2 rfl) ?_
    refine lv_iload hx hb dX11_playClause_118 (lv_at hl 1 rfl) ?_
    refine e_callVi (As := [.int r_3, .int r_6]) (rest := []) clE_stable hs ⟨hx, hb, hml, hown, hts⟩ (cC_X11_house l D h cy _ _ _ _ hw) (cwV 2 hts gX11_playClause_X11_house rfl rfl rfl (by decide +kernel) ⟨Nat.le_of_ble_eq_true rfl, Nat.le_of_ble_eq_true rfl⟩) (va_recv hK hP (ci := 10) (q0 := 0) rfl rfl) hK hP hD hS hA rfl hl.1 rfl (Nat.le_of_ble_eq_true rfl) dX11_playClause_120 ⟨Nat.zero_le _, Nat.zero_le _⟩ (fun r_21 S_22 H locs hw hP hD hS => ?_)
    refine lv_iconst (v := (-1)) hx hb dX11_playClause_123 (by decide) ?_
    obtain ⟨hc_23t, hc_23f⟩ := hw
    refine lv_icmp_eq (tgt := 131) hx hb dX11_playClause_124 (by decide) (fun c_23 => ?_) (fun c_23 => ?_)
    · have hw := hc_23t c_23
      clear hc_23t hc_23f
      refine lv_iconst (v := 0) hx hb dX11_playClause_131 (by decide) ?_
      exact W.zret (v := 0) hx hb hr (by decide +kernel) (fun t ht hW => ⟨⟨0, S_22, rfl, hw, by rw [ht]; exact hP, va_K.moved hW.alike hK, hD⟩, hS.F ht⟩) hS.2.2 dX11_playClause_132
    · have hw := hc_23f c_23
      clear hc_23t hc_23f
      refine lv_iconst (v := 1) hx hb dX11_playClause_127 (by decide) ?_
      refine lv_goto (tgt := 132) hx hb dX11_playClause_128 (by decide) ?_
      exact W.zret (v := 1) hx hb hr (by decide +kernel) (fun t ht hW => ⟨⟨1, S_22, rfl, hw, by rw [ht]; exact hP, va_K.moved hW.alike hK, hD⟩, hS.F ht⟩) hS.2.2 dX11_playClause_132
  obtain ⟨hc_28, hw⟩ := hw
  by_cases c_28 : r_12 = 9
  · have hw := hc_28 c_28
    refine lv_tableIn (off := 139) (tgt := 168) hx hb dX11_playClause_29 (by rw [c_28]; decide) (by rw [c_28]; decide) (by rw [c_28]; rfl) (by decide) ?_
    refine lv_aload_n hx hb dX11_playClause_168 rfl (lv_at hl 3 rfl) ?_
    refine lv_iload hx hb dX11_playClause_169 (lv_at hl 1 rfl) ?_
    refine lv_iload_n hx hb dX11_playClause_171 rfl (lv_at hl 2 rfl) ?_
    refine e_callVi (As := [.int r_6, .int r_3]) (rest := []) clE_stable hs ⟨hx, hb, hml, hown, hts⟩ (cC_X11_fall l D h cy _ _ _ _ hw) (cwV 2 hts gX11_playClause_X11_fall rfl rfl rfl (by decide +kernel) ⟨Nat.le_of_ble_eq_true rfl, Nat.le_of_ble_eq_true rfl⟩) (va_recv hK hP (ci := 10) (q0 := 0) rfl rfl) hK hP hD hS hA rfl hl.1 rfl (Nat.le_of_ble_eq_true rfl) dX11_playClause_172 ⟨Nat.zero_le _, Nat.zero_le _⟩ (fun r_25 S_26 H locs hw hP hD hS => ?_)
    refine lv_iconst (v := (-1)) hx hb dX11_playClause_175 (by decide) ?_
    obtain ⟨hc_27t, hc_27f⟩ := hw
    refine lv_icmp_eq (tgt := 183) hx hb dX11_playClause_176 (by decide) (fun c_27 => ?_) (fun c_27 => ?_)
    · have hw := hc_27t c_27
      clear hc_27t hc_27f
      refine lv_iconst (v := 0) hx hb dX11_playClause_183 (by decide) ?_
      exact W.zret (v := 0) hx hb hr (by decide +kernel) (fun t ht hW => ⟨⟨0, S_26, rfl, hw, by rw [ht]; exact hP, va_K.moved hW.alike hK, hD⟩, hS.F ht⟩) hS.2.2 dX11_playClause_184
    · have hw := hc_27f c_27
      clear hc_27t hc_27f
      refine lv_iconst (v := 1) hx hb dX11_playClause_179 (by decide) ?_
      refine lv_goto (tgt := 184) hx hb dX11_playClause_180 (by decide) ?_
      exact W.zret (v := 1) hx hb hr (by decide +kernel) (fun t ht hW => ⟨⟨1, S_26, rfl, hw, by rw [ht]; exact hP, va_K.moved hW.alike hK, hD⟩, hS.F ht⟩) hS.2.2 dX11_playClause_184
  obtain ⟨hc_32, hw⟩ := hw
  by_cases c_32 : r_12 = 15
  · have hw := hc_32 c_32
    refine lv_tableIn (off := 104) (tgt := 133) hx hb dX11_playClause_29 (by rw [c_32]; decide) (by rw [c_32]; decide) (by rw [c_32]; rfl) (by decide) ?_
    refine lv_aload_n hx hb dX11_playClause_133 rfl (lv_at hl 3 rfl) ?_
    refine lv_iload_n hx hb dX11_playClause_134 rfl (lv_at hl 2 rfl) ?_
    refine lv_iload hx hb dX11_playClause_135 (lv_at hl 1 rfl) ?_
    refine e_callVi (As := [.int r_3, .int r_6]) (rest := []) clE_stable hs ⟨hx, hb, hml, hown, hts⟩ (cC_X11_clown l D h cy _ _ _ _ hw) (cwV 2 hts gX11_playClause_X11_clown rfl rfl rfl (by decide +kernel) ⟨Nat.le_of_ble_eq_true rfl, Nat.le_of_ble_eq_true rfl⟩) (va_recv hK hP (ci := 10) (q0 := 0) rfl rfl) hK hP hD hS hA rfl hl.1 rfl (Nat.le_of_ble_eq_true rfl) dX11_playClause_137 ⟨Nat.zero_le _, Nat.zero_le _⟩ (fun r_29 S_30 H locs hw hP hD hS => ?_)
    refine lv_iconst (v := (-1)) hx hb dX11_playClause_140 (by decide) ?_
    obtain ⟨hc_31t, hc_31f⟩ := hw
    refine lv_icmp_eq (tgt := 148) hx hb dX11_playClause_141 (by decide) (fun c_31 => ?_) (fun c_31 => ?_)
    · have hw := hc_31t c_31
      clear hc_31t hc_31f
      refine lv_iconst (v := 0) hx hb dX11_playClause_148 (by decide) ?_
      exact W.zret (v := 0) hx hb hr (by decide +kernel) (fun t ht hW => ⟨⟨0, S_30, rfl, hw, by rw [ht]; exact hP, va_K.moved hW.alike hK, hD⟩, hS.F ht⟩) hS.2.2 dX11_playClause_149
    · have hw := hc_31f c_31
      clear hc_31t hc_31f
      refine lv_iconst (v := 1) hx hb dX11_playClause_144 (by decide) ?_
      refine lv_goto (tgt := 149) hx hb dX11_playClause_145 (by decide) ?_
      exact W.zret (v := 1) hx hb hr (by decide +kernel) (fun t ht hW => ⟨⟨1, S_30, rfl, hw, by rw [ht]; exact hP, va_K.moved hW.alike hK, hD⟩, hS.F ht⟩) hS.2.2 dX11_playClause_149
  obtain ⟨hc_35, hw⟩ := hw
  by_cases c_35 : r_12 = 16
  · have hw := hc_35 c_35
    refine lv_tableIn (off := 131) (tgt := 160) hx hb dX11_playClause_29 (by rw [c_35]; decide) (by rw [c_35]; decide) (by rw [c_35]; rfl) (by decide) ?_
    refine lv_aload_n hx hb dX11_playClause_160 rfl (lv_at hl 3 rfl) ?_
    refine lv_iload_n hx hb dX11_playClause_161 rfl (lv_at hl 2 rfl) ?_
    refine lv_iload hx hb dX11_playClause_162 (lv_at hl 1 rfl) ?_
    refine e_callVi (As := [.int r_3, .int r_6]) (rest := []) clE_stable hs ⟨hx, hb, hml, hown, hts⟩ (cC_X11_send l D h cy _ _ _ _ hw) (cwV 2 hts gX11_playClause_X11_send rfl rfl rfl (by decide +kernel) ⟨Nat.le_of_ble_eq_true rfl, Nat.le_of_ble_eq_true rfl⟩) (va_recv hK hP (ci := 10) (q0 := 0) rfl rfl) hK hP hD hS hA rfl hl.1 rfl (Nat.le_of_ble_eq_true rfl) dX11_playClause_164 ⟨Nat.zero_le _, Nat.zero_le _⟩ (fun r_33 S_34 H locs hw hP hD hS => ?_)
    obtain ⟨hn, hw⟩ := hw
    exact W.zret (v := r_33) hx hb hr hn (fun t ht hW => ⟨⟨r_33, S_34, rfl, hw, by rw [ht]; exact hP, va_K.moved hW.alike hK, hD⟩, hS.F ht⟩) hS.2.2 dX11_playClause_167
  obtain ⟨hc_38, hw⟩ := hw
  by_cases c_38 : r_12 = 17
  · have hw := hc_38 c_38
    refine lv_tableIn (off := 156) (tgt := 185) hx hb dX11_playClause_29 (by rw [c_38]; decide) (by rw [c_38]; decide) (by rw [c_38]; rfl) (by decide) ?_
    refine lv_aload_n hx hb dX11_playClause_185 rfl (lv_at hl 3 rfl) ?_
    refine lv_iload_n hx hb dX11_playClause_186 rfl (lv_at hl 2 rfl) ?_
    refine e_callVi (As := [.int r_3]) (rest := []) clE_stable hs ⟨hx, hb, hml, hown, hts⟩ (cC_X11_rest l D h cy _ _ _ hw) (cwV 1 hts gX11_playClause_X11_rest rfl rfl rfl (by decide +kernel) ⟨Nat.le_of_ble_eq_true rfl, Nat.le_of_ble_eq_true rfl⟩) (va_recv hK hP (ci := 10) (q0 := 0) rfl rfl) hK hP hD hS hA rfl hl.1 rfl (Nat.le_of_ble_eq_true rfl) dX11_playClause_187 ⟨Nat.zero_le _, Nat.zero_le _⟩ (fun r_36 S_37 H locs hw hP hD hS => ?_)
    obtain ⟨hn, hw⟩ := hw
    exact W.zret (v := r_36) hx hb hr hn (fun t ht hW => ⟨⟨r_36, S_37, rfl, hw, by rw [ht]; exact hP, va_K.moved hW.alike hK, hD⟩, hS.F ht⟩) hS.2.2 dX11_playClause_190
  have hw := hw c_17 c_20 c_24 c_28 c_32 c_35 c_38
  by_cases c_39 : r_12 = 1
  · refine lv_tableIn (off := 177) (tgt := 206) hx hb dX11_playClause_29 (by rw [c_39]; decide) (by rw [c_39]; decide) (by rw [c_39]; rfl) (by decide) ?_
    refine lv_iconst (v := 1) hx hb dX11_playClause_206 (by decide) ?_
    exact W.zret (v := 1) hx hb hr (by decide +kernel) (fun t ht hW => ⟨⟨1, S_13, rfl, hw, by rw [ht]; exact hP, va_K.moved hW.alike hK, hD⟩, hS.F ht⟩) hS.2.2 dX11_playClause_207
  by_cases c_40 : r_12 = 2
  · refine lv_tableIn (off := 177) (tgt := 206) hx hb dX11_playClause_29 (by rw [c_40]; decide) (by rw [c_40]; decide) (by rw [c_40]; rfl) (by decide) ?_
    refine lv_iconst (v := 1) hx hb dX11_playClause_206 (by decide) ?_
    exact W.zret (v := 1) hx hb hr (by decide +kernel) (fun t ht hW => ⟨⟨1, S_13, rfl, hw, by rw [ht]; exact hP, va_K.moved hW.alike hK, hD⟩, hS.F ht⟩) hS.2.2 dX11_playClause_207
  by_cases c_41 : r_12 = 4
  · refine lv_tableIn (off := 177) (tgt := 206) hx hb dX11_playClause_29 (by rw [c_41]; decide) (by rw [c_41]; decide) (by rw [c_41]; rfl) (by decide) ?_
    refine lv_iconst (v := 1) hx hb dX11_playClause_206 (by decide) ?_
    exact W.zret (v := 1) hx hb hr (by decide +kernel) (fun t ht hW => ⟨⟨1, S_13, rfl, hw, by rw [ht]; exact hP, va_K.moved hW.alike hK, hD⟩, hS.F ht⟩) hS.2.2 dX11_playClause_207
  by_cases c_42 : r_12 = 6
  · refine lv_tableIn (off := 177) (tgt := 206) hx hb dX11_playClause_29 (by rw [c_42]; decide) (by rw [c_42]; decide) (by rw [c_42]; rfl) (by decide) ?_
    refine lv_iconst (v := 1) hx hb dX11_playClause_206 (by decide) ?_
    exact W.zret (v := 1) hx hb hr (by decide +kernel) (fun t ht hW => ⟨⟨1, S_13, rfl, hw, by rw [ht]; exact hP, va_K.moved hW.alike hK, hD⟩, hS.F ht⟩) hS.2.2 dX11_playClause_207
  by_cases c_43 : r_12 = 7
  · refine lv_tableIn (off := 177) (tgt := 206) hx hb dX11_playClause_29 (by rw [c_43]; decide) (by rw [c_43]; decide) (by rw [c_43]; rfl) (by decide) ?_
    refine lv_iconst (v := 1) hx hb dX11_playClause_206 (by decide) ?_
    exact W.zret (v := 1) hx hb hr (by decide +kernel) (fun t ht hW => ⟨⟨1, S_13, rfl, hw, by rw [ht]; exact hP, va_K.moved hW.alike hK, hD⟩, hS.F ht⟩) hS.2.2 dX11_playClause_207
  by_cases c_44 : r_12 = 8
  · refine lv_tableIn (off := 177) (tgt := 206) hx hb dX11_playClause_29 (by rw [c_44]; decide) (by rw [c_44]; decide) (by rw [c_44]; rfl) (by decide) ?_
    refine lv_iconst (v := 1) hx hb dX11_playClause_206 (by decide) ?_
    exact W.zret (v := 1) hx hb hr (by decide +kernel) (fun t ht hW => ⟨⟨1, S_13, rfl, hw, by rw [ht]; exact hP, va_K.moved hW.alike hK, hD⟩, hS.F ht⟩) hS.2.2 dX11_playClause_207
  by_cases c_45 : r_12 = 10
  · refine lv_tableIn (off := 177) (tgt := 206) hx hb dX11_playClause_29 (by rw [c_45]; decide) (by rw [c_45]; decide) (by rw [c_45]; rfl) (by decide) ?_
    refine lv_iconst (v := 1) hx hb dX11_playClause_206 (by decide) ?_
    exact W.zret (v := 1) hx hb hr (by decide +kernel) (fun t ht hW => ⟨⟨1, S_13, rfl, hw, by rw [ht]; exact hP, va_K.moved hW.alike hK, hD⟩, hS.F ht⟩) hS.2.2 dX11_playClause_207
  by_cases c_46 : r_12 = 11
  · refine lv_tableIn (off := 177) (tgt := 206) hx hb dX11_playClause_29 (by rw [c_46]; decide) (by rw [c_46]; decide) (by rw [c_46]; rfl) (by decide) ?_
    refine lv_iconst (v := 1) hx hb dX11_playClause_206 (by decide) ?_
    exact W.zret (v := 1) hx hb hr (by decide +kernel) (fun t ht hW => ⟨⟨1, S_13, rfl, hw, by rw [ht]; exact hP, va_K.moved hW.alike hK, hD⟩, hS.F ht⟩) hS.2.2 dX11_playClause_207
  by_cases c_47 : r_12 = 12
  · refine lv_tableIn (off := 177) (tgt := 206) hx hb dX11_playClause_29 (by rw [c_47]; decide) (by rw [c_47]; decide) (by rw [c_47]; rfl) (by decide) ?_
    refine lv_iconst (v := 1) hx hb dX11_playClause_206 (by decide) ?_
    exact W.zret (v := 1) hx hb hr (by decide +kernel) (fun t ht hW => ⟨⟨1, S_13, rfl, hw, by rw [ht]; exact hP, va_K.moved hW.alike hK, hD⟩, hS.F ht⟩) hS.2.2 dX11_playClause_207
  by_cases c_48 : r_12 = 13
  · refine lv_tableIn (off := 177) (tgt := 206) hx hb dX11_playClause_29 (by rw [c_48]; decide) (by rw [c_48]; decide) (by rw [c_48]; rfl) (by decide) ?_
    refine lv_iconst (v := 1) hx hb dX11_playClause_206 (by decide) ?_
    exact W.zret (v := 1) hx hb hr (by decide +kernel) (fun t ht hW => ⟨⟨1, S_13, rfl, hw, by rw [ht]; exact hP, va_K.moved hW.alike hK, hD⟩, hS.F ht⟩) hS.2.2 dX11_playClause_207
  by_cases c_49 : r_12 = 14
  · refine lv_tableIn (off := 177) (tgt := 206) hx hb dX11_playClause_29 (by rw [c_49]; decide) (by rw [c_49]; decide) (by rw [c_49]; rfl) (by decide) ?_
    refine lv_iconst (v := 1) hx hb dX11_playClause_206 (by decide) ?_
    exact W.zret (v := 1) hx hb hr (by decide +kernel) (fun t ht hW => ⟨⟨1, S_13, rfl, hw, by rw [ht]; exact hP, va_K.moved hW.alike hK, hD⟩, hS.F ht⟩) hS.2.2 dX11_playClause_207
  have c_17n := lv_neT c_17 (a := 0) (by decide)
  have c_20n := lv_neT c_20 (a := 3) (by decide)
  have c_24n := lv_neT c_24 (a := 5) (by decide)
  have c_28n := lv_neT c_28 (a := 9) (by decide)
  have c_32n := lv_neT c_32 (a := 15) (by decide)
  have c_35n := lv_neT c_35 (a := 16) (by decide)
  have c_38n := lv_neT c_38 (a := 17) (by decide)
  have c_39n := lv_neT c_39 (a := 1) (by decide)
  have c_40n := lv_neT c_40 (a := 2) (by decide)
  have c_41n := lv_neT c_41 (a := 4) (by decide)
  have c_42n := lv_neT c_42 (a := 6) (by decide)
  have c_43n := lv_neT c_43 (a := 7) (by decide)
  have c_44n := lv_neT c_44 (a := 8) (by decide)
  have c_45n := lv_neT c_45 (a := 10) (by decide)
  have c_46n := lv_neT c_46 (a := 11) (by decide)
  have c_47n := lv_neT c_47 (a := 12) (by decide)
  have c_48n := lv_neT c_48 (a := 13) (by decide)
  have c_49n := lv_neT c_49 (a := 14) (by decide)
  refine lv_tableOut (tgt := 206) hx hb dX11_playClause_29 (by omega) (by decide) ?_
  refine lv_iconst (v := 1) hx hb dX11_playClause_206 (by decide) ?_
  exact W.zret (v := 1) hx hb hr (by decide +kernel) (fun t ht hW => ⟨⟨1, S_13, rfl, hw, by rw [ht]; exact hP, va_K.moved hW.alike hK, hD⟩, hS.F ht⟩) hS.2.2 dX11_playClause_207
def wC_X11_played_18 (post : Int32 → CS → Prop) : Nat → Option Nat → Int32 → CS → Prop
  | 0, _, _, _ => False
  | n + 1, x2, x3, S => (∃ a_1 : Nat, x2 = some a_1 ∧ (∃ B_2 : TB, (a_1, B_2) ∈ cx_px S ∧ ((B_2.1 ≤ x3 → post (-1) S) ∧ (¬ (B_2.1 ≤ x3) → wC_X11_playClause (some a_1) x3 S (fun r_4 S_5 => ((r_4 = 0 → post x3 S_5) ∧ (¬ (r_4 = 0) → wC_X11_played_18 post n (some a_1) (x3 + 1) S_5)))))))
def wC_X11_played (p1 : Int32) (S : CS) (post : Int32 → CS → Prop) : Prop := wC_X0_textAt p1 S (fun r_1 S_2 => ((r_1 = none → post (-2) S_2) ∧ (∀ a_3 : Nat, r_1 = some a_3 → ∃ k_ : Nat, wC_X11_played_18 post k_ (some a_3) 0 S_2)))
set_option maxHeartbeats 4000000 in
set_option maxRecDepth 100000 in
theorem cC_X11_played (l : Launch) (D : va_G) (h : Nat → Nat) (cy : Nat → ClassId) (p1 : Int32) (S : CS) (post : Int32 → CS → Prop) (hw : wC_X11_played p1 S post) : e_Mi clE l yX11_played wsX11_played { frames := 7, cells := 0, slots := 0, locals := 177 } D (tyC cy) (wC h cy) [.ref (h 0), .int p1] S post := by
  intro sz
  refine Met.ofW (cc := cX11_played) (maxL := 4) (ret := (some .int)) (by decide) rfl ?_
  intro p e s m args below meth c s₁ B hml hv
  obtain ⟨rfl, hsz, hP, hK, hD0, hs⟩ := hv
  have hx := B.exec
  have hb := B.bytes
  have hr := B.returns
  have hts := atoms_spec (ws := wsX11_played) B.pre
  have hown : s.vm.findClass RX11 = some m.cls := findClass_of_methodNamed B.named
  have hlocks := B.notSynchronized
  subst hsz
  have hD := hD0.self (sz := s.heap.size)
  generalize hAe : va_A (wC h cy S) s.heap.size = A at hD hs ⊢
  have hA : ∀ q : Nat, s.heap.size ≤ q → A q := fun q h => by rw [← hAe]; exact Or.inr h
  have hS : va_S A s.heap s.heap [] := va_S.rf
  have hin11 : ∀ w ∈ wsX110, w ∈ wsX11_played := fun _ h => List.mem_cons_of_mem _ (List.mem_append_left _ (List.mem_append_left _ (List.mem_append_left _ (List.mem_append_left _ (List.mem_append_left _ (List.mem_append_right _ h))))))
  have hin9 : ∀ w ∈ wsX90, w ∈ wsX11_played := fun _ h => List.mem_cons_of_mem _ (List.mem_append_left _ (List.mem_append_left _ (List.mem_append_left _ (List.mem_append_left _ (List.mem_append_right _ h)))))
  have hin0 : ∀ w ∈ wsX00, w ∈ wsX11_played := fun _ h => List.mem_cons_of_mem _ (List.mem_append_left _ (List.mem_append_left _ (List.mem_append_left _ (List.mem_append_right _ h))))
  have hin2 : ∀ w ∈ wsX20, w ∈ wsX11_played := fun _ h => List.mem_cons_of_mem _ (List.mem_append_left _ (List.mem_append_left _ (List.mem_append_right _ h)))
  have hin8 : ∀ w ∈ wsX80, w ∈ wsX11_played := fun _ h => List.mem_cons_of_mem _ (List.mem_append_left _ (List.mem_append_right _ h))
  have hin3 : ∀ w ∈ wsX30, w ∈ wsX11_played := fun _ h => List.mem_cons_of_mem _ (List.mem_append_right _ h)
  have w10 := hts (.fieldLink RX11 10 "ClownsMourn" "city" "LClownsMourn$City;") (List.mem_of_getElem? (i := 1) rfl)
  have w175 := hts (.fieldLink RX11 175 "ClownsMourn$Text" "clauseCount" "I") (List.mem_of_getElem? (i := 2) rfl)
  have hl := lv_entry ([.ref (h 0), .int p1]) (n := 4) (Nat.le_of_ble_eq_true rfl)
  rw [lg_entry_eq]
  generalize (lg_sl ([.ref (h 0), .int p1]) ++ List.replicate (4 - (lg_sl ([.ref (h 0), .int p1])).length) Slot.unset).toArray = ls at hl ⊢
  have hl : lv_has ls 4 [(0, .ref (h 0)), (1, .int p1)] := hl
  unfold wC_X11_played at hw
  clear hD0
  have L_18 : ∀ (n18 : Nat) (x2 : Option Nat) (x3 : Int32) (S : CS) (H : Heap) (locs : List Loc) (ls : Array Slot), wC_X11_played_18 post n18 x2 x3 S → va_P D vwCl (wC h cy S) H → va_D A (wC h cy S) → va_S A s.heap H locs → lv_has ls 4 [(0, .ref (h 0)), (2, va_rf x2), (3, .int x3)] → W p l e (headSpec wsX11_played { frames := 7, cells := 0, slots := 0, locals := 177 }).room s m (([.ref (h 0), .int p1] : List Value).toArray) below meth c H locs 0 0 (MQ below (va_Qi post (k_Post D (tyC cy) (wC h cy) A) A) (([.ref (h 0), .int p1] : List Value).toArray) s 0 0 A) (F0 m 18 ls []) := by
    intro n18
    induction n18 with
    | zero => intro x2 x3 S H locs ls hw; exact False.elim hw
    | succ n18 ih_18 =>
      intro x2 x3 S H locs ls hw hP hD hS hl
      unfold wC_X11_played_18 at hw
      refine lv_iload_n hx hb dX11_played_18 rfl (lv_at hl 2 rfl) ?_
      refine k_aload_nq hx hb dX11_played_19 rfl (lv_at hl 1 rfl) ?_
      obtain ⟨a_1, ha_1, hw⟩ := hw
      subst ha_1
      have hl : lv_has ls 4 [(0, .ref (h 0)), (2, .ref a_1), (3, .int x3)] := hl
      obtain ⟨B_2, hmB_2, hw⟩ := hw
      obtain ⟨qB_2, hqB_2⟩ := px_obj (h := h) (cy := cy) hmB_2
      refine va_get (D := D) (ci := 9) (v := .int B_2.1) (C := RX9) (T := TX9) (N := 4) hx hb hts hin9 hown hK hP qB_2 hqB_2 rfl 0 (by decide) w175 (fun _ h9 => h9) rfl dX11_played_20 ?_
      obtain ⟨hc_3t, hc_3f⟩ := hw
      refine lv_icmp_ge (tgt := 43) hx hb dX11_played_23 (by decide) (fun c_3 => ?_) (fun c_3 => ?_)
      · have hw := hc_3t c_3
        clear hc_3t hc_3f
        refine lv_iconst (v := (-1)) hx hb dX11_played_43 (by decide) ?_
        exact W.iret (v := (-1)) hx hb hr (fun t ht hW => ⟨⟨(-1), S, rfl, hw, by rw [ht]; exact hP, va_K.moved hW.alike hK, hD⟩, hS.F ht⟩) hS.2.2 dX11_played_44
      · have hw := hc_3f c_3
        clear hc_3t hc_3f
        refine lv_aload_n hx hb dX11_played_26 rfl (lv_at hl 0 rfl) ?_
        refine lv_aload_n hx hb dX11_played_27 rfl (lv_at hl 1 rfl) ?_
        refine lv_iload_n hx hb dX11_played_28 rfl (lv_at hl 2 rfl) ?_
        refine e_callVi (As := [.ref a_1, .int x3]) (rest := []) clE_stable hs ⟨hx, hb, hml, hown, hts⟩ (cC_X11_playClause l D h cy _ _ _ _ hw) (cwV 2 hts gX11_played_X11_playClause rfl rfl rfl (by decide +kernel) ⟨Nat.le_of_ble_eq_true rfl, Nat.le_of_ble_eq_true rfl⟩) (va_recv hK hP (ci := 10) (q0 := 0) rfl rfl) hK hP hD hS hA rfl hl.1 rfl (Nat.le_of_ble_eq_true rfl) dX11_played_29 ⟨Nat.zero_le _, Nat.zero_le _⟩ (fun r_4 S_5 H locs hw hP hD hS => ?_)
        obtain ⟨hc_6t, hc_6f⟩ := hw
        refine lv_if_ne (tgt := 37) hx hb dX11_played_32 (by decide) (fun c_6 => ?_) (fun c_6 => ?_)
        · have hw := hc_6f c_6
          clear hc_6t hc_6f
          refine lv_iinc (v := x3 + 1) (lv' := [(3, .int (x3 + 1)), (0, .ref (h 0)), (2, .ref a_1)]) hx hb dX11_played_37 hl (k := 2) rfl (k_inc (by decide)) (by decide) rfl (fun ls hl => ?_)
          refine lv_goto (tgt := 18) hx hb dX11_played_40 (by decide) ?_
          exact ih_18 (some a_1) (x3 + 1) S_5 _ _ _ hw hP hD hS (lv_sub hl [1, 2, 0] rfl)
        · have hw := hc_6t c_6
          clear hc_6t hc_6f
          refine lv_iload_n hx hb dX11_played_35 rfl (lv_at hl 2 rfl) ?_
          exact W.iret (v := x3) hx hb hr (fun t ht hW => ⟨⟨x3, S_5, rfl, hw, by rw [ht]; exact hP, va_K.moved hW.alike hK, hD⟩, hS.F ht⟩) hS.2.2 dX11_played_36
  refine lv_aload_n hx hb dX11_played_0 rfl (lv_at hl 0 rfl) ?_
  refine va_get (D := D) (ci := 10) (v := .ref (h 1)) (C := RX11) (T := TX11) (N := 9) hx hb hts hin11 hown hK hP 0 rfl rfl 0 (by decide) w10 (fun _ h9 => h9) rfl dX11_played_1 ?_
  refine lv_iload_n hx hb dX11_played_4 rfl (lv_at hl 1 rfl) ?_
  refine e_callVq (As := [.int p1]) (rest := []) clE_stable hs ⟨hx, hb, hml, hown, hts⟩ (cC_X0_textAt l D h cy _ _ _ hw) (cwV 1 hts gX11_played_X0_textAt rfl rfl rfl (by decide +kernel) ⟨Nat.le_of_ble_eq_true rfl, Nat.le_of_ble_eq_true rfl⟩) (va_recv hK hP (ci := 0) (q0 := 1) rfl rfl) hK hP hD hS hA rfl hl.1 rfl (Nat.le_of_ble_eq_true rfl) dX11_played_5 ⟨Nat.zero_le _, Nat.zero_le _⟩ (fun r_7 S_8 H locs hw hP hD hS => ?_)
  refine k_astore_nq (lv' := [(2, va_rf r_7), (0, .ref (h 0)), (1, .int p1)]) hx hb dX11_played_8 rfl hl (by decide) rfl (fun ls hl => ?_)
  refine k_aload_nq hx hb dX11_played_9 rfl (lv_at hl 0 rfl) ?_
  obtain ⟨hc_10t, hc_10f⟩ := hw
  refine k_ifnonnull (tgt := 16) hx hb dX11_played_10 (by decide) (fun c_10 => ?_) (fun a_9 c_10 => ?_)
  · have hw := hc_10t c_10
    clear hc_10t hc_10f
    refine lv_bipush (v := (-2)) hx hb dX11_played_13 (by decide) ?_
    exact W.iret (v := (-2)) hx hb hr (fun t ht hW => ⟨⟨(-2), S_8, rfl, hw, by rw [ht]; exact hP, va_K.moved hW.alike hK, hD⟩, hS.F ht⟩) hS.2.2 dX11_played_15
  · have hw := hc_10f a_9 c_10
    clear hc_10t hc_10f
    rw [c_10] at hl
    have hl : lv_has ls 4 [(2, .ref a_9), (0, .ref (h 0)), (1, .int p1)] := hl
    refine lv_iconst (v := 0) hx hb dX11_played_16 (by decide) ?_
    refine lv_istore_n (lv' := [(3, .int 0), (2, .ref a_9), (0, .ref (h 0)), (1, .int p1)]) hx hb dX11_played_17 rfl hl (by decide) rfl (fun ls hl => ?_)
    obtain ⟨n_18, hw⟩ := hw
    exact L_18 n_18 (some a_9) 0 S_8 _ _ _ hw hP hD hS (lv_sub hl [2, 1, 0] rfl)
def wC_X2_actsByDraw (S : CS) (post : CS → Prop) : Prop := wC_X2_draws S (fun r_1 S_2 => wC_X0_clownCount S_2 (fun r_3 S_4 => wC_X0_houseCount S_4 (fun r_5 S_6 => (((k_rem r_1 6) = 5 → wC_X2_canPass S_6 (fun r_31 S_32 => ((r_31 = 0 → post S_32) ∧ (¬ (r_31 = 0) → wC_X2_passes S_32 (fun S_35 => post S_35))))) ∧ (¬ ((k_rem r_1 6) = 5) → ((r_3 ≤ 0 → post S_6) ∧ (¬ (r_3 ≤ 0) → (¬ r_3 = 0 ∧ (((k_rem r_1 6) = 0 → ((r_5 ≤ 0 → post S_6) ∧ (¬ (r_5 ≤ 0) → (¬ r_5 = 0 ∧ wC_X2_canGo (k_rem r_1 r_3) (k_rem (r_1 / 6) r_5) S_6 (fun r_23 S_24 => ((r_23 = 0 → post S_24) ∧ (¬ (r_23 = 0) → (¬ r_5 = 0 ∧ wC_X2_goes (k_rem r_1 r_3) (k_rem (r_1 / 6) r_5) S_24 (fun S_27 => post S_27))))))))) ∧ (¬ ((k_rem r_1 6) = 0) → (((k_rem r_1 6) = 4 → (((k_rem r_1 8) = 0 → wC_X2_canRest (k_rem r_1 r_3) S_6 (fun r_17 S_18 => ((r_17 = 0 → post S_18) ∧ (¬ (r_17 = 0) → wC_X2_goes (k_rem r_1 r_3) (-1) S_18 (fun S_21 => post S_21))))) ∧ (¬ ((k_rem r_1 8) = 0) → post S_6))) ∧ (¬ ((k_rem r_1 6) = 4) → wC_X2_canFall (k_rem r_1 r_3) (k_rem r_1 5) S_6 (fun r_11 S_12 => ((r_11 = 0 → post S_12) ∧ (¬ (r_11 = 0) → wC_X2_falls (k_rem r_1 r_3) (k_rem r_1 5) S_12 (fun S_15 => post S_15))))))))))))))))
set_option maxHeartbeats 4000000 in
set_option maxRecDepth 100000 in
theorem cC_X2_actsByDraw (l : Launch) (D : va_G) (h : Nat → Nat) (cy : Nat → ClassId) (S : CS) (post : CS → Prop) (hw : wC_X2_actsByDraw S post) : e_Mv clE l yX2_actsByDraw wsX2_actsByDraw { frames := 5, cells := 0, slots := 0, locals := 130 } D (tyC cy) (wC h cy) [.ref (h 7)] S post := by
  intro sz
  refine Met.ofW (cc := cX2_actsByDraw) (maxL := 6) (ret := none) (by decide) rfl ?_
  intro p e s m args below meth c s₁ B hml hv
  obtain ⟨rfl, hsz, hP, hK, hD0, hs⟩ := hv
  have hx := B.exec
  have hb := B.bytes
  have hr := B.returns
  have hts := atoms_spec (ws := wsX2_actsByDraw) B.pre
  have hown : s.vm.findClass RX2 = some m.cls := findClass_of_methodNamed B.named
  have hlocks := B.notSynchronized
  subst hsz
  have hD := hD0.self (sz := s.heap.size)
  generalize hAe : va_A (wC h cy S) s.heap.size = A at hD hs ⊢
  have hA : ∀ q : Nat, s.heap.size ≤ q → A q := fun q h => by rw [← hAe]; exact Or.inr h
  have hS : va_S A s.heap s.heap [] := va_S.rf
  have hin2 : ∀ w ∈ wsX20, w ∈ wsX2_actsByDraw := fun _ h => List.mem_cons_of_mem _ (List.mem_append_left _ (List.mem_append_left _ (List.mem_append_left _ (List.mem_append_right _ h))))
  have hin0 : ∀ w ∈ wsX00, w ∈ wsX2_actsByDraw := fun _ h => List.mem_cons_of_mem _ (List.mem_append_left _ (List.mem_append_left _ (List.mem_append_right _ h)))
  have hin3 : ∀ w ∈ wsX30, w ∈ wsX2_actsByDraw := fun _ h => List.mem_cons_of_mem _ (List.mem_append_left _ (List.mem_append_right _ h))
  have hin9 : ∀ w ∈ wsX90, w ∈ wsX2_actsByDraw := fun _ h => List.mem_cons_of_mem _ (List.mem_append_right _ h)
  have w17 := hts (.fieldLink RX2 17 "ClownsMourn$Guild" "city" "LClownsMourn$City;") (List.mem_of_getElem? (i := 1) rfl)
  have hl := lv_entry ([.ref (h 7)]) (n := 6) (Nat.le_of_ble_eq_true rfl)
  rw [lg_entry_eq]
  generalize (lg_sl ([.ref (h 7)]) ++ List.replicate (6 - (lg_sl ([.ref (h 7)])).length) Slot.unset).toArray = ls at hl ⊢
  have hl : lv_has ls 6 [(0, .ref (h 7))] := hl
  unfold wC_X2_actsByDraw at hw
  clear hD0
  refine lv_aload_n hx hb dX2_actsByDraw_0 rfl (lv_at hl 0 rfl) ?_
  refine e_callVi (As := []) (rest := []) clE_stable hs ⟨hx, hb, hml, hown, hts⟩ (cC_X2_draws l D h cy _ _ hw) (cwV 0 hts gX2_actsByDraw_X2_draws rfl rfl rfl (by decide +kernel) ⟨Nat.le_of_ble_eq_true rfl, Nat.le_of_ble_eq_true rfl⟩) (va_recv hK hP (ci := 2) (q0 := 7) rfl rfl) hK hP hD hS hA rfl hl.1 rfl (Nat.le_of_ble_eq_true rfl) dX2_actsByDraw_1 ⟨Nat.zero_le _, Nat.zero_le _⟩ (fun r_1 S_2 H locs hw hP hD hS => ?_)
  refine lv_istore_n (lv' := [(1, .int r_1), (0, .ref (h 7))]) hx hb dX2_actsByDraw_4 rfl hl (by decide) rfl (fun ls hl => ?_)
  refine lv_iload_n hx hb dX2_actsByDraw_5 rfl (lv_at hl 0 rfl) ?_
  refine lv_bipush (v := 6) hx hb dX2_actsByDraw_6 (by decide) ?_
  refine k_irem hx hb dX2_actsByDraw_8 (by decide) ?_
  refine lv_istore_n (lv' := [(2, .int (k_rem r_1 6)), (1, .int r_1), (0, .ref (h 7))]) hx hb dX2_actsByDraw_9 rfl hl (by decide) rfl (fun ls hl => ?_)
  refine lv_aload_n hx hb dX2_actsByDraw_10 rfl (lv_at hl 2 rfl) ?_
  refine va_get (D := D) (ci := 2) (v := .ref (h 1)) (C := RX2) (T := TX2) (N := 3) hx hb hts hin2 hown hK hP 7 rfl rfl 0 (by decide) w17 (fun _ h9 => h9) rfl dX2_actsByDraw_11 ?_
  refine e_callVi (As := []) (rest := []) clE_stable hs ⟨hx, hb, hml, hown, hts⟩ (cC_X0_clownCount l D h cy _ _ hw) (cwV 0 hts gX2_actsByDraw_X0_clownCount rfl rfl rfl (by decide +kernel) ⟨Nat.le_of_ble_eq_true rfl, Nat.le_of_ble_eq_true rfl⟩) (va_recv hK hP (ci := 0) (q0 := 1) rfl rfl) hK hP hD hS hA rfl hl.1 rfl (Nat.le_of_ble_eq_true rfl) dX2_actsByDraw_14 ⟨Nat.zero_le _, Nat.zero_le _⟩ (fun r_3 S_4 H locs hw hP hD hS => ?_)
  refine lv_istore_n (lv' := [(3, .int r_3), (2, .int (k_rem r_1 6)), (1, .int r_1), (0, .ref (h 7))]) hx hb dX2_actsByDraw_17 rfl hl (by decide) rfl (fun ls hl => ?_)
  refine lv_aload_n hx hb dX2_actsByDraw_18 rfl (lv_at hl 3 rfl) ?_
  refine va_get (D := D) (ci := 2) (v := .ref (h 1)) (C := RX2) (T := TX2) (N := 3) hx hb hts hin2 hown hK hP 7 rfl rfl 0 (by decide) w17 (fun _ h9 => h9) rfl dX2_actsByDraw_19 ?_
  refine e_callVi (As := []) (rest := []) clE_stable hs ⟨hx, hb, hml, hown, hts⟩ (cC_X0_houseCount l D h cy _ _ hw) (cwV 0 hts gX2_actsByDraw_X0_houseCount rfl rfl rfl (by decide +kernel) ⟨Nat.le_of_ble_eq_true rfl, Nat.le_of_ble_eq_true rfl⟩) (va_recv hK hP (ci := 0) (q0 := 1) rfl rfl) hK hP hD hS hA rfl hl.1 rfl (Nat.le_of_ble_eq_true rfl) dX2_actsByDraw_22 ⟨Nat.zero_le _, Nat.zero_le _⟩ (fun r_5 S_6 H locs hw hP hD hS => ?_)
  refine lv_istore (lv' := [(4, .int r_5), (3, .int r_3), (2, .int (k_rem r_1 6)), (1, .int r_1), (0, .ref (h 7))]) hx hb dX2_actsByDraw_25 hl (by decide) rfl (fun ls hl => ?_)
  refine lv_iload_n hx hb dX2_actsByDraw_27 rfl (lv_at hl 2 rfl) ?_
  refine lv_iconst (v := 5) hx hb dX2_actsByDraw_28 (by decide) ?_
  obtain ⟨hc_7t, hc_7f⟩ := hw
  refine lv_icmp_ne (tgt := 46) hx hb dX2_actsByDraw_29 (by decide) (fun c_7 => ?_) (fun c_7 => ?_)
  · have hw := hc_7f c_7
    clear hc_7t hc_7f
    refine lv_iload_n hx hb dX2_actsByDraw_46 rfl (lv_at hl 1 rfl) ?_
    obtain ⟨hc_8t, hc_8f⟩ := hw
    refine lv_if_le (tgt := 148) hx hb dX2_actsByDraw_47 (by decide) (fun c_8 => ?_) (fun c_8 => ?_)
    · have hw := hc_8t c_8
      clear hc_8t hc_8f
      exact W.vret hx hb hr (fun t ht hW => ⟨⟨S_6, rfl, hw, by rw [ht]; exact hP, va_K.moved hW.alike hK, hD⟩, hS.F ht⟩) hS.2.2 dX2_actsByDraw_148
    · have hw := hc_8f c_8
      clear hc_8t hc_8f
      refine lv_iload_n hx hb dX2_actsByDraw_50 rfl (lv_at hl 3 rfl) ?_
      refine lv_iload_n hx hb dX2_actsByDraw_51 rfl (lv_at hl 1 rfl) ?_
      obtain ⟨hz_30, hw⟩ := hw
      refine k_irem hx hb dX2_actsByDraw_52 hz_30 ?_
      refine lv_istore (lv' := [(5, .int (k_rem r_1 r_3)), (4, .int r_5), (3, .int r_3), (2, .int (k_rem r_1 6)), (1, .int r_1), (0, .ref (h 7))]) hx hb dX2_actsByDraw_53 hl (by decide) rfl (fun ls hl => ?_)
      refine lv_iload_n hx hb dX2_actsByDraw_55 rfl (lv_at hl 3 rfl) ?_
      obtain ⟨hc_9t, hc_9f⟩ := hw
      refine lv_if_ne (tgt := 96) hx hb dX2_actsByDraw_56 (by decide) (fun c_9 => ?_) (fun c_9 => ?_)
      · have hw := hc_9f c_9
        clear hc_9t hc_9f
        refine lv_iload_n hx hb dX2_actsByDraw_96 rfl (lv_at hl 3 rfl) ?_
        refine lv_iconst (v := 4) hx hb dX2_actsByDraw_97 (by decide) ?_
        obtain ⟨hc_10t, hc_10f⟩ := hw
        refine lv_icmp_ne (tgt := 127) hx hb dX2_actsByDraw_98 (by decide) (fun c_10 => ?_) (fun c_10 => ?_)
        · have hw := hc_10f c_10
          clear hc_10t hc_10f
          refine lv_aload_n hx hb dX2_actsByDraw_127 rfl (lv_at hl 5 rfl) ?_
          refine lv_iload hx hb dX2_actsByDraw_128 (lv_at hl 0 rfl) ?_
          refine lv_iload_n hx hb dX2_actsByDraw_130 rfl (lv_at hl 4 rfl) ?_
          refine lv_iconst (v := 5) hx hb dX2_actsByDraw_131 (by decide) ?_
          refine k_irem hx hb dX2_actsByDraw_132 (by decide) ?_
          refine e_callVi (As := [.int (k_rem r_1 r_3), .int (k_rem r_1 5)]) (rest := []) clE_stable hs ⟨hx, hb, hml, hown, hts⟩ (cC_X2_canFall l D h cy _ _ _ _ hw) (cwV 2 hts gX2_actsByDraw_X2_canFall rfl rfl rfl (by decide +kernel) ⟨Nat.le_of_ble_eq_true rfl, Nat.le_of_ble_eq_true rfl⟩) (va_recv hK hP (ci := 2) (q0 := 7) rfl rfl) hK hP hD hS hA rfl hl.1 rfl (Nat.le_of_ble_eq_true rfl) dX2_actsByDraw_133 ⟨Nat.zero_le _, Nat.zero_le _⟩ (fun r_11 S_12 H locs hw hP hD hS => ?_)
          obtain ⟨hc_13t, hc_13f⟩ := hw
          refine lv_if_eq (tgt := 148) hx hb dX2_actsByDraw_136 (by decide) (fun c_13 => ?_) (fun c_13 => ?_)
          · have hw := hc_13t c_13
            clear hc_13t hc_13f
            exact W.vret hx hb hr (fun t ht hW => ⟨⟨S_12, rfl, hw, by rw [ht]; exact hP, va_K.moved hW.alike hK, hD⟩, hS.F ht⟩) hS.2.2 dX2_actsByDraw_148
          · have hw := hc_13f c_13
            clear hc_13t hc_13f
            refine lv_aload_n hx hb dX2_actsByDraw_139 rfl (lv_at hl 5 rfl) ?_
            refine lv_iload hx hb dX2_actsByDraw_140 (lv_at hl 0 rfl) ?_
            refine lv_iload_n hx hb dX2_actsByDraw_142 rfl (lv_at hl 4 rfl) ?_
            refine lv_iconst (v := 5) hx hb dX2_actsByDraw_143 (by decide) ?_
            refine k_irem hx hb dX2_actsByDraw_144 (by decide) ?_
            refine e_callVv (As := [.int (k_rem r_1 r_3), .int (k_rem r_1 5)]) (rest := []) clE_stable hs ⟨hx, hb, hml, hown, hts⟩ (cC_X2_falls l D h cy _ _ _ _ hw) (cwV 2 hts gX2_actsByDraw_X2_falls rfl rfl rfl (by decide +kernel) ⟨Nat.le_of_ble_eq_true rfl, Nat.le_of_ble_eq_true rfl⟩) (va_recv hK hP (ci := 2) (q0 := 7) rfl rfl) hK hP hD hS hA rfl hl.1 rfl (Nat.le_of_ble_eq_true rfl) dX2_actsByDraw_145 ⟨Nat.zero_le _, Nat.zero_le _⟩ (fun S_15 H locs hw hP hD hS => ?_)
            exact W.vret hx hb hr (fun t ht hW => ⟨⟨S_15, rfl, hw, by rw [ht]; exact hP, va_K.moved hW.alike hK, hD⟩, hS.F ht⟩) hS.2.2 dX2_actsByDraw_148
        · have hw := hc_10t c_10
          clear hc_10t hc_10f
          refine lv_iload_n hx hb dX2_actsByDraw_101 rfl (lv_at hl 4 rfl) ?_
          refine lv_bipush (v := 8) hx hb dX2_actsByDraw_102 (by decide) ?_
          refine k_irem hx hb dX2_actsByDraw_104 (by decide) ?_
          obtain ⟨hc_16t, hc_16f⟩ := hw
          refine lv_if_ne (tgt := 148) hx hb dX2_actsByDraw_105 (by decide) (fun c_16 => ?_) (fun c_16 => ?_)
          · have hw := hc_16f c_16
            clear hc_16t hc_16f
            exact W.vret hx hb hr (fun t ht hW => ⟨⟨S_6, rfl, hw, by rw [ht]; exact hP, va_K.moved hW.alike hK, hD⟩, hS.F ht⟩) hS.2.2 dX2_actsByDraw_148
          · have hw := hc_16t c_16
            clear hc_16t hc_16f
            refine lv_aload_n hx hb dX2_actsByDraw_108 rfl (lv_at hl 5 rfl) ?_
            refine lv_iload hx hb dX2_actsByDraw_109 (lv_at hl 0 rfl) ?_
            refine e_callVi (As := [.int (k_rem r_1 r_3)]) (rest := []) clE_stable hs ⟨hx, hb, hml, hown, hts⟩ (cC_X2_canRest l D h cy _ _ _ hw) (cwV 1 hts gX2_actsByDraw_X2_canRest rfl rfl rfl (by decide +kernel) ⟨Nat.le_of_ble_eq_true rfl, Nat.le_of_ble_eq_true rfl⟩) (va_recv hK hP (ci := 2) (q0 := 7) rfl rfl) hK hP hD hS hA rfl hl.1 rfl (Nat.le_of_ble_eq_true rfl) dX2_actsByDraw_111 ⟨Nat.zero_le _, Nat.zero_le _⟩ (fun r_17 S_18 H locs hw hP hD hS => ?_)
            obtain ⟨hc_19t, hc_19f⟩ := hw
            refine lv_if_eq (tgt := 148) hx hb dX2_actsByDraw_114 (by decide) (fun c_19 => ?_) (fun c_19 => ?_)
            · have hw := hc_19t c_19
              clear hc_19t hc_19f
              exact W.vret hx hb hr (fun t ht hW => ⟨⟨S_18, rfl, hw, by rw [ht]; exact hP, va_K.moved hW.alike hK, hD⟩, hS.F ht⟩) hS.2.2 dX2_actsByDraw_148
            · have hw := hc_19f c_19
              clear hc_19t hc_19f
              refine lv_aload_n hx hb dX2_actsByDraw_117 rfl (lv_at hl 5 rfl) ?_
              refine lv_iload hx hb dX2_actsByDraw_118 (lv_at hl 0 rfl) ?_
              refine lv_iconst (v := (-1)) hx hb dX2_actsByDraw_120 (by decide) ?_
              refine e_callVv (As := [.int (k_rem r_1 r_3), .int (-1)]) (rest := []) clE_stable hs ⟨hx, hb, hml, hown, hts⟩ (cC_X2_goes l D h cy _ _ _ _ hw) (cwV 2 hts gX2_actsByDraw_X2_goes rfl rfl rfl (by decide +kernel) ⟨Nat.le_of_ble_eq_true rfl, Nat.le_of_ble_eq_true rfl⟩) (va_recv hK hP (ci := 2) (q0 := 7) rfl rfl) hK hP hD hS hA rfl hl.1 rfl (Nat.le_of_ble_eq_true rfl) dX2_actsByDraw_121 ⟨Nat.zero_le _, Nat.zero_le _⟩ (fun S_21 H locs hw hP hD hS => ?_)
              refine lv_goto (tgt := 148) hx hb dX2_actsByDraw_124 (by decide) ?_
              exact W.vret hx hb hr (fun t ht hW => ⟨⟨S_21, rfl, hw, by rw [ht]; exact hP, va_K.moved hW.alike hK, hD⟩, hS.F ht⟩) hS.2.2 dX2_actsByDraw_148
      · have hw := hc_9t c_9
        clear hc_9t hc_9f
        refine lv_iload hx hb dX2_actsByDraw_59 (lv_at hl 1 rfl) ?_
        obtain ⟨hc_22t, hc_22f⟩ := hw
        refine lv_if_le (tgt := 148) hx hb dX2_actsByDraw_61 (by decide) (fun c_22 => ?_) (fun c_22 => ?_)
        · have hw := hc_22t c_22
          clear hc_22t hc_22f
          exact W.vret hx hb hr (fun t ht hW => ⟨⟨S_6, rfl, hw, by rw [ht]; exact hP, va_K.moved hW.alike hK, hD⟩, hS.F ht⟩) hS.2.2 dX2_actsByDraw_148
        · have hw := hc_22f c_22
          clear hc_22t hc_22f
          refine lv_aload_n hx hb dX2_actsByDraw_64 rfl (lv_at hl 5 rfl) ?_
          refine lv_iload hx hb dX2_actsByDraw_65 (lv_at hl 0 rfl) ?_
          refine lv_iload_n hx hb dX2_actsByDraw_67 rfl (lv_at hl 4 rfl) ?_
          refine lv_bipush (v := 6) hx hb dX2_actsByDraw_68 (by decide) ?_
          refine lv_idiv hx hb dX2_actsByDraw_70 (by decide) ?_
          refine lv_iload hx hb dX2_actsByDraw_71 (lv_at hl 1 rfl) ?_
          obtain ⟨hz_29, hw⟩ := hw
          refine k_irem hx hb dX2_actsByDraw_73 hz_29 ?_
          refine e_callVi (As := [.int (k_rem r_1 r_3), .int (k_rem (r_1 / 6) r_5)]) (rest := []) clE_stable hs ⟨hx, hb, hml, hown, hts⟩ (cC_X2_canGo l D h cy _ _ _ _ hw) (cwV 2 hts gX2_actsByDraw_X2_canGo rfl rfl rfl (by decide +kernel) ⟨Nat.le_of_ble_eq_true rfl, Nat.le_of_ble_eq_true rfl⟩) (va_recv hK hP (ci := 2) (q0 := 7) rfl rfl) hK hP hD hS hA rfl hl.1 rfl (Nat.le_of_ble_eq_true rfl) dX2_actsByDraw_74 ⟨Nat.zero_le _, Nat.zero_le _⟩ (fun r_23 S_24 H locs hw hP hD hS => ?_)
          obtain ⟨hc_25t, hc_25f⟩ := hw
          refine lv_if_eq (tgt := 148) hx hb dX2_actsByDraw_77 (by decide) (fun c_25 => ?_) (fun c_25 => ?_)
          · have hw := hc_25t c_25
            clear hc_25t hc_25f
            exact W.vret hx hb hr (fun t ht hW => ⟨⟨S_24, rfl, hw, by rw [ht]; exact hP, va_K.moved hW.alike hK, hD⟩, hS.F ht⟩) hS.2.2 dX2_actsByDraw_148
          · have hw := hc_25f c_25
            clear hc_25t hc_25f
            refine lv_aload_n hx hb dX2_actsByDraw_80 rfl (lv_at hl 5 rfl) ?_
            refine lv_iload hx hb dX2_actsByDraw_81 (lv_at hl 0 rfl) ?_
            refine lv_iload_n hx hb dX2_actsByDraw_83 rfl (lv_at hl 4 rfl) ?_
            refine lv_bipush (v := 6) hx hb dX2_actsByDraw_84 (by decide) ?_
            refine lv_idiv hx hb dX2_actsByDraw_86 (by decide) ?_
            refine lv_iload hx hb dX2_actsByDraw_87 (lv_at hl 1 rfl) ?_
            obtain ⟨hz_28, hw⟩ := hw
            refine k_irem hx hb dX2_actsByDraw_89 hz_28 ?_
            refine e_callVv (As := [.int (k_rem r_1 r_3), .int (k_rem (r_1 / 6) r_5)]) (rest := []) clE_stable hs ⟨hx, hb, hml, hown, hts⟩ (cC_X2_goes l D h cy _ _ _ _ hw) (cwV 2 hts gX2_actsByDraw_X2_goes rfl rfl rfl (by decide +kernel) ⟨Nat.le_of_ble_eq_true rfl, Nat.le_of_ble_eq_true rfl⟩) (va_recv hK hP (ci := 2) (q0 := 7) rfl rfl) hK hP hD hS hA rfl hl.1 rfl (Nat.le_of_ble_eq_true rfl) dX2_actsByDraw_90 ⟨Nat.zero_le _, Nat.zero_le _⟩ (fun S_27 H locs hw hP hD hS => ?_)
            refine lv_goto (tgt := 148) hx hb dX2_actsByDraw_93 (by decide) ?_
            exact W.vret hx hb hr (fun t ht hW => ⟨⟨S_27, rfl, hw, by rw [ht]; exact hP, va_K.moved hW.alike hK, hD⟩, hS.F ht⟩) hS.2.2 dX2_actsByDraw_148
  · have hw := hc_7t c_7
    clear hc_7t hc_7f
    refine lv_aload_n hx hb dX2_actsByDraw_32 rfl (lv_at hl 4 rfl) ?_
    refine e_callVi (As := []) (rest := []) clE_stable hs ⟨hx, hb, hml, hown, hts⟩ (cC_X2_canPass l D h cy _ _ hw) (cwV 0 hts gX2_actsByDraw_X2_canPass rfl rfl rfl (by decide +kernel) ⟨Nat.le_of_ble_eq_true rfl, Nat.le_of_ble_eq_true rfl⟩) (va_recv hK hP (ci := 2) (q0 := 7) rfl rfl) hK hP hD hS hA rfl hl.1 rfl (Nat.le_of_ble_eq_true rfl) dX2_actsByDraw_33 ⟨Nat.zero_le _, Nat.zero_le _⟩ (fun r_31 S_32 H locs hw hP hD hS => ?_)
    obtain ⟨hc_33t, hc_33f⟩ := hw
    refine lv_if_eq (tgt := 148) hx hb dX2_actsByDraw_36 (by decide) (fun c_33 => ?_) (fun c_33 => ?_)
    · have hw := hc_33t c_33
      clear hc_33t hc_33f
      exact W.vret hx hb hr (fun t ht hW => ⟨⟨S_32, rfl, hw, by rw [ht]; exact hP, va_K.moved hW.alike hK, hD⟩, hS.F ht⟩) hS.2.2 dX2_actsByDraw_148
    · have hw := hc_33f c_33
      clear hc_33t hc_33f
      refine lv_aload_n hx hb dX2_actsByDraw_39 rfl (lv_at hl 4 rfl) ?_
      refine e_callVv (As := []) (rest := []) clE_stable hs ⟨hx, hb, hml, hown, hts⟩ (cC_X2_passes l D h cy _ _ hw) (cwV 0 hts gX2_actsByDraw_X2_passes rfl rfl rfl (by decide +kernel) ⟨Nat.le_of_ble_eq_true rfl, Nat.le_of_ble_eq_true rfl⟩) (va_recv hK hP (ci := 2) (q0 := 7) rfl rfl) hK hP hD hS hA rfl hl.1 rfl (Nat.le_of_ble_eq_true rfl) dX2_actsByDraw_40 ⟨Nat.zero_le _, Nat.zero_le _⟩ (fun S_35 H locs hw hP hD hS => ?_)
      refine lv_goto (tgt := 148) hx hb dX2_actsByDraw_43 (by decide) ?_
      exact W.vret hx hb hr (fun t ht hW => ⟨⟨S_35, rfl, hw, by rw [ht]; exact hP, va_K.moved hW.alike hK, hD⟩, hS.F ht⟩) hS.2.2 dX2_actsByDraw_148
def wC_X11_decades_59 (post : Int32 → CS → Prop) : Nat → Int32 → Int32 → CS → Prop
  | 0, _, _, _ => False
  | n + 1, x2, x3, S => ((x2 ≤ x3 → wC_X0_today S (fun r_2 S_3 => post r_2 S_3)) ∧ (¬ (x2 ≤ x3) → wC_X2_actsByDraw S (fun S_5 => wC_X11_decades_59 post n x2 (x3 + 1) S_5)))
def wC_X11_decades (p1 : Int32) (p2 : Int32) (S : CS) (post : Int32 → CS → Prop) : Prop := wC_X11_within p1 0 9999 S (fun r_1 S_2 => ((r_1 = 0 → post (-1) S_2) ∧ (¬ (r_1 = 0) → wC_X11_within p2 1 40 S_2 (fun r_4 S_5 => ((r_4 = 0 → post (-1) S_5) ∧ (¬ (r_4 = 0) → wC_X8_keepRow_city_now S_5 (fun S_8 => wC_X0_set 40 0 ((p1 * 2) + 179) S_8 (fun S_10 => ∃ k_ : Nat, wC_X11_decades_59 post k_ p2 0 S_10))))))))
set_option maxHeartbeats 4000000 in
set_option maxRecDepth 100000 in
theorem cC_X11_decades (l : Launch) (D : va_G) (h : Nat → Nat) (cy : Nat → ClassId) (p1 : Int32) (p2 : Int32) (S : CS) (post : Int32 → CS → Prop) (hw : wC_X11_decades p1 p2 S post) : e_Mi clE l yX11_decades wsX11_decades { frames := 6, cells := 0, slots := 0, locals := 155 } D (tyC cy) (wC h cy) [.ref (h 0), .int p1, .int p2] S post := by
  intro sz
  refine Met.ofW (cc := cX11_decades) (maxL := 4) (ret := (some .int)) (by decide) rfl ?_
  intro p e s m args below meth c s₁ B hml hv
  obtain ⟨rfl, hsz, hP, hK, hD0, hs⟩ := hv
  have hx := B.exec
  have hb := B.bytes
  have hr := B.returns
  have hts := atoms_spec (ws := wsX11_decades) B.pre
  have hown : s.vm.findClass RX11 = some m.cls := findClass_of_methodNamed B.named
  have hlocks := B.notSynchronized
  subst hsz
  have hD := hD0.self (sz := s.heap.size)
  generalize hAe : va_A (wC h cy S) s.heap.size = A at hD hs ⊢
  have hA : ∀ q : Nat, s.heap.size ≤ q → A q := fun q h => by rw [← hAe]; exact Or.inr h
  have hS : va_S A s.heap s.heap [] := va_S.rf
  have hin11 : ∀ w ∈ wsX110, w ∈ wsX11_decades := fun _ h => List.mem_cons_of_mem _ (List.mem_append_left _ (List.mem_append_left _ (List.mem_append_left _ (List.mem_append_left _ (List.mem_append_left _ (List.mem_append_right _ h))))))
  have hin0 : ∀ w ∈ wsX00, w ∈ wsX11_decades := fun _ h => List.mem_cons_of_mem _ (List.mem_append_left _ (List.mem_append_left _ (List.mem_append_left _ (List.mem_append_left _ (List.mem_append_right _ h)))))
  have hin8 : ∀ w ∈ wsX80, w ∈ wsX11_decades := fun _ h => List.mem_cons_of_mem _ (List.mem_append_left _ (List.mem_append_left _ (List.mem_append_left _ (List.mem_append_right _ h))))
  have hin2 : ∀ w ∈ wsX20, w ∈ wsX11_decades := fun _ h => List.mem_cons_of_mem _ (List.mem_append_left _ (List.mem_append_left _ (List.mem_append_right _ h)))
  have hin3 : ∀ w ∈ wsX30, w ∈ wsX11_decades := fun _ h => List.mem_cons_of_mem _ (List.mem_append_left _ (List.mem_append_right _ h))
  have hin9 : ∀ w ∈ wsX90, w ∈ wsX11_decades := fun _ h => List.mem_cons_of_mem _ (List.mem_append_right _ h)
  have w10 := hts (.fieldLink RX11 10 "ClownsMourn" "city" "LClownsMourn$City;") (List.mem_of_getElem? (i := 1) rfl)
  have w134 := hts (.fieldLink RX11 134 "ClownsMourn$City" "steps" "LClownsMourn$Steps;") (List.mem_of_getElem? (i := 2) rfl)
  have w138 := hts (.fieldLink RX11 138 "ClownsMourn$City" "now" "[I") (List.mem_of_getElem? (i := 3) rfl)
  have w40 := hts (.fieldLink RX11 40 "ClownsMourn" "guild" "LClownsMourn$Guild;") (List.mem_of_getElem? (i := 4) rfl)
  have hl := lv_entry ([.ref (h 0), .int p1, .int p2]) (n := 4) (Nat.le_of_ble_eq_true rfl)
  rw [lg_entry_eq]
  generalize (lg_sl ([.ref (h 0), .int p1, .int p2]) ++ List.replicate (4 - (lg_sl ([.ref (h 0), .int p1, .int p2])).length) Slot.unset).toArray = ls at hl ⊢
  have hl : lv_has ls 4 [(0, .ref (h 0)), (1, .int p1), (2, .int p2)] := hl
  unfold wC_X11_decades at hw
  clear hD0
  have L_59 : ∀ (n59 : Nat) (x2 : Int32) (x3 : Int32) (S : CS) (H : Heap) (locs : List Loc) (ls : Array Slot), wC_X11_decades_59 post n59 x2 x3 S → va_P D vwCl (wC h cy S) H → va_D A (wC h cy S) → va_S A s.heap H locs → lv_has ls 4 [(0, .ref (h 0)), (2, .int x2), (3, .int x3)] → W p l e (headSpec wsX11_decades { frames := 6, cells := 0, slots := 0, locals := 155 }).room s m (([.ref (h 0), .int p1, .int p2] : List Value).toArray) below meth c H locs 0 0 (MQ below (va_Qi post (k_Post D (tyC cy) (wC h cy) A) A) (([.ref (h 0), .int p1, .int p2] : List Value).toArray) s 0 0 A) (F0 m 59 ls []) := by
    intro n59
    induction n59 with
    | zero => intro x2 x3 S H locs ls hw; exact False.elim hw
    | succ n59 ih_59 =>
      intro x2 x3 S H locs ls hw hP hD hS hl
      unfold wC_X11_decades_59 at hw
      refine lv_iload_n hx hb dX11_decades_59 rfl (lv_at hl 2 rfl) ?_
      refine lv_iload_n hx hb dX11_decades_60 rfl (lv_at hl 1 rfl) ?_
      obtain ⟨hc_1t, hc_1f⟩ := hw
      refine lv_icmp_ge (tgt := 77) hx hb dX11_decades_61 (by decide) (fun c_1 => ?_) (fun c_1 => ?_)
      · have hw := hc_1t c_1
        clear hc_1t hc_1f
        refine lv_aload_n hx hb dX11_decades_77 rfl (lv_at hl 0 rfl) ?_
        refine va_get (D := D) (ci := 10) (v := .ref (h 1)) (C := RX11) (T := TX11) (N := 9) hx hb hts hin11 hown hK hP 0 rfl rfl 0 (by decide) w10 (fun _ h9 => h9) rfl dX11_decades_78 ?_
        refine e_callVi (As := []) (rest := []) clE_stable hs ⟨hx, hb, hml, hown, hts⟩ (cC_X0_today l D h cy _ _ hw) (cwV 0 hts gX11_decades_X0_today rfl rfl rfl (by decide +kernel) ⟨Nat.le_of_ble_eq_true rfl, Nat.le_of_ble_eq_true rfl⟩) (va_recv hK hP (ci := 0) (q0 := 1) rfl rfl) hK hP hD hS hA rfl hl.1 rfl (Nat.le_of_ble_eq_true rfl) dX11_decades_81 ⟨Nat.zero_le _, Nat.zero_le _⟩ (fun r_2 S_3 H locs hw hP hD hS => ?_)
        exact W.iret (v := r_2) hx hb hr (fun t ht hW => ⟨⟨r_2, S_3, rfl, hw, by rw [ht]; exact hP, va_K.moved hW.alike hK, hD⟩, hS.F ht⟩) hS.2.2 dX11_decades_84
      · have hw := hc_1f c_1
        clear hc_1t hc_1f
        refine lv_aload_n hx hb dX11_decades_64 rfl (lv_at hl 0 rfl) ?_
        refine va_get (D := D) (ci := 10) (v := .ref (h 7)) (C := RX11) (T := TX11) (N := 9) hx hb hts hin11 hown hK hP 0 rfl rfl 4 (by decide) w40 (fun _ h9 => h9) rfl dX11_decades_65 ?_
        refine e_callVv (As := []) (rest := []) clE_stable hs ⟨hx, hb, hml, hown, hts⟩ (cC_X2_actsByDraw l D h cy _ _ hw) (cwV 0 hts gX11_decades_X2_actsByDraw rfl rfl rfl (by decide +kernel) ⟨Nat.le_of_ble_eq_true rfl, Nat.le_of_ble_eq_true rfl⟩) (va_recv hK hP (ci := 2) (q0 := 7) rfl rfl) hK hP hD hS hA rfl hl.1 rfl (Nat.le_of_ble_eq_true rfl) dX11_decades_68 ⟨Nat.zero_le _, Nat.zero_le _⟩ (fun S_5 H locs hw hP hD hS => ?_)
        refine lv_iinc (v := x3 + 1) (lv' := [(3, .int (x3 + 1)), (0, .ref (h 0)), (2, .int x2)]) hx hb dX11_decades_71 hl (k := 2) rfl (k_inc (by decide)) (by decide) rfl (fun ls hl => ?_)
        refine lv_goto (tgt := 59) hx hb dX11_decades_74 (by decide) ?_
        exact ih_59 x2 (x3 + 1) S_5 _ _ _ hw hP hD hS (lv_sub hl [1, 2, 0] rfl)
  refine lv_iload_n hx hb dX11_decades_0 rfl (lv_at hl 1 rfl) ?_
  refine lv_iconst (v := 0) hx hb dX11_decades_1 (by decide) ?_
  refine lv_sipush (v := 9999) hx hb dX11_decades_2 (by decide) ?_
  refine e_callSi (As := [.int p1, .int 0, .int 9999]) (rest := []) clE_stable hs ⟨hx, hb, hml, hown, hts⟩ (cC_X11_within l D h cy _ _ _ _ _ hw) (va_cwS 3 hts gX11_decades_X11_within rfl rfl rfl (by decide +kernel) ⟨Nat.le_of_ble_eq_true rfl, Nat.le_of_ble_eq_true rfl⟩) hK hP hD hS hA rfl hl.1 rfl (Nat.le_of_ble_eq_true rfl) dX11_decades_5 ⟨Nat.zero_le _, Nat.zero_le _⟩ (fun r_6 S_7 H locs hw hP hD hS => ?_)
  obtain ⟨hc_8t, hc_8f⟩ := hw
  refine lv_if_eq (tgt := 21) hx hb dX11_decades_8 (by decide) (fun c_8 => ?_) (fun c_8 => ?_)
  · have hw := hc_8t c_8
    clear hc_8t hc_8f
    refine lv_iconst (v := (-1)) hx hb dX11_decades_21 (by decide) ?_
    exact W.iret (v := (-1)) hx hb hr (fun t ht hW => ⟨⟨(-1), S_7, rfl, hw, by rw [ht]; exact hP, va_K.moved hW.alike hK, hD⟩, hS.F ht⟩) hS.2.2 dX11_decades_22
  · have hw := hc_8f c_8
    clear hc_8t hc_8f
    refine lv_iload_n hx hb dX11_decades_11 rfl (lv_at hl 2 rfl) ?_
    refine lv_iconst (v := 1) hx hb dX11_decades_12 (by decide) ?_
    refine lv_bipush (v := 40) hx hb dX11_decades_13 (by decide) ?_
    refine e_callSi (As := [.int p2, .int 1, .int 40]) (rest := []) clE_stable hs ⟨hx, hb, hml, hown, hts⟩ (cC_X11_within l D h cy _ _ _ _ _ hw) (va_cwS 3 hts gX11_decades_X11_within rfl rfl rfl (by decide +kernel) ⟨Nat.le_of_ble_eq_true rfl, Nat.le_of_ble_eq_true rfl⟩) hK hP hD hS hA rfl hl.1 rfl (Nat.le_of_ble_eq_true rfl) dX11_decades_15 ⟨Nat.zero_le _, Nat.zero_le _⟩ (fun r_9 S_10 H locs hw hP hD hS => ?_)
    obtain ⟨hc_11t, hc_11f⟩ := hw
    refine lv_if_ne (tgt := 23) hx hb dX11_decades_18 (by decide) (fun c_11 => ?_) (fun c_11 => ?_)
    · have hw := hc_11f c_11
      clear hc_11t hc_11f
      refine lv_aload_n hx hb dX11_decades_23 rfl (lv_at hl 0 rfl) ?_
      refine va_get (D := D) (ci := 10) (v := .ref (h 1)) (C := RX11) (T := TX11) (N := 9) hx hb hts hin11 hown hK hP 0 rfl rfl 0 (by decide) w10 (fun _ h9 => h9) rfl dX11_decades_24 ?_
      refine va_get (D := D) (ci := 0) (v := .ref (h 2)) (C := RX0) (T := TX0) (N := 16) hx hb hts hin0 hown hK hP 1 rfl rfl 1 (by decide) w134 (fun _ h9 => h9) rfl dX11_decades_27 ?_
      refine lv_aload_n hx hb dX11_decades_30 rfl (lv_at hl 0 rfl) ?_
      refine va_get (D := D) (ci := 10) (v := .ref (h 1)) (C := RX11) (T := TX11) (N := 9) hx hb hts hin11 hown hK hP 0 rfl rfl 0 (by decide) w10 (fun _ h9 => h9) rfl dX11_decades_31 ?_
      refine va_get (D := D) (ci := 0) (v := .ref (h 12)) (C := RX0) (T := TX0) (N := 16) hx hb hts hin0 hown hK hP 1 rfl rfl 0 (by decide) w138 (fun _ h9 => h9) rfl dX11_decades_34 ?_
      refine e_callVv (As := [.ref (h 12)]) (rest := []) clE_stable hs ⟨hx, hb, hml, hown, hts⟩ (cC_X8_keepRow_city_now l D h cy _ _ hw) (cwV 1 hts gX11_decades_X8_keepRow rfl rfl rfl (by decide +kernel) ⟨Nat.le_of_ble_eq_true rfl, Nat.le_of_ble_eq_true rfl⟩) (va_recv hK hP (ci := 8) (q0 := 2) rfl rfl) hK hP hD hS hA rfl hl.1 rfl (Nat.le_of_ble_eq_true rfl) dX11_decades_37 ⟨Nat.zero_le _, Nat.zero_le _⟩ (fun S_13 H locs hw hP hD hS => ?_)
      refine lv_aload_n hx hb dX11_decades_40 rfl (lv_at hl 0 rfl) ?_
      refine va_get (D := D) (ci := 10) (v := .ref (h 1)) (C := RX11) (T := TX11) (N := 9) hx hb hts hin11 hown hK hP 0 rfl rfl 0 (by decide) w10 (fun _ h9 => h9) rfl dX11_decades_41 ?_
      refine lv_bipush (v := 40) hx hb dX11_decades_44 (by decide) ?_
      refine lv_iconst (v := 0) hx hb dX11_decades_46 (by decide) ?_
      refine lv_iload_n hx hb dX11_decades_47 rfl (lv_at hl 1 rfl) ?_
      refine lv_iconst (v := 2) hx hb dX11_decades_48 (by decide) ?_
      refine lv_imul hx hb dX11_decades_49 ?_
      refine lv_sipush (v := 179) hx hb dX11_decades_50 (by decide) ?_
      refine lv_iadd hx hb dX11_decades_53 ?_
      refine e_callVv (As := [.int 40, .int 0, .int ((p1 * 2) + 179)]) (rest := []) clE_stable hs ⟨hx, hb, hml, hown, hts⟩ (cC_X0_set l D h cy _ _ _ _ _ hw) (cwV 3 hts gX11_decades_X0_set rfl rfl rfl (by decide +kernel) ⟨Nat.le_of_ble_eq_true rfl, Nat.le_of_ble_eq_true rfl⟩) (va_recv hK hP (ci := 0) (q0 := 1) rfl rfl) hK hP hD hS hA rfl hl.1 rfl (Nat.le_of_ble_eq_true rfl) dX11_decades_54 ⟨Nat.zero_le _, Nat.zero_le _⟩ (fun S_15 H locs hw hP hD hS => ?_)
      refine lv_iconst (v := 0) hx hb dX11_decades_57 (by decide) ?_
      refine lv_istore_n (lv' := [(3, .int 0), (0, .ref (h 0)), (1, .int p1), (2, .int p2)]) hx hb dX11_decades_58 rfl hl (by decide) rfl (fun ls hl => ?_)
      obtain ⟨n_59, hw⟩ := hw
      exact L_59 n_59 p2 0 S_15 _ _ _ hw hP hD hS (lv_sub hl [1, 3, 0] rfl)
    · have hw := hc_11t c_11
      clear hc_11t hc_11f
      refine lv_iconst (v := (-1)) hx hb dX11_decades_21 (by decide) ?_
      exact W.iret (v := (-1)) hx hb hr (fun t ht hW => ⟨⟨(-1), S_10, rfl, hw, by rw [ht]; exact hP, va_K.moved hW.alike hK, hD⟩, hS.F ht⟩) hS.2.2 dX11_decades_22
def wC_X8_copyBack_city_now (p2 : Int32) (p3 : Int32) (p4 : Int32) (S : CS) (post : CS → Prop) : Prop := (∀ S_1 : CS, S_1 = (cx_set_c_now S (k_copyP 2220 74 (cx_cs_rows S) (p2 + p3) (cx_c_now S) p3 p4)) → post S_1)
set_option maxHeartbeats 4000000 in
set_option maxRecDepth 100000 in
theorem cC_X8_copyBack_city_now (l : Launch) (D : va_G) (h : Nat → Nat) (cy : Nat → ClassId) (p2 : Int32) (p3 : Int32) (p4 : Int32) (S : CS) (post : CS → Prop) (hw : wC_X8_copyBack_city_now p2 p3 p4 S post) : e_Mv clE l yX8_copyBack wsX8_copyBack { frames := 2, cells := 0, slots := 0, locals := 84 } D (tyC cy) (wC h cy) [.ref (h 2), .ref (h 12), .int p2, .int p3, .int p4] S post := by
  intro sz
  refine Met.ofW (cc := cX8_copyBack) (maxL := 5) (ret := none) (by decide) rfl ?_
  intro p e s m args below meth c s₁ B hml hv
  obtain ⟨rfl, hsz, hP, hK, hD0, hs⟩ := hv
  have hx := B.exec
  have hb := B.bytes
  have hr := B.returns
  have hts := atoms_spec (ws := wsX8_copyBack) B.pre
  have hown : s.vm.findClass RX8 = some m.cls := findClass_of_methodNamed B.named
  have hlocks := B.notSynchronized
  subst hsz
  have hD := hD0.self (sz := s.heap.size)
  generalize hAe : va_A (wC h cy S) s.heap.size = A at hD hs ⊢
  have hA : ∀ q : Nat, s.heap.size ≤ q → A q := fun q h => by rw [← hAe]; exact Or.inr h
  have hS : va_S A s.heap s.heap [] := va_S.rf
  have hin8 : ∀ w ∈ wsX80, w ∈ wsX8_copyBack := fun _ h => List.mem_cons_of_mem _ (List.mem_append_right _ h)
  have w11 := hts (.fieldLink RX8 11 "ClownsMourn$Steps" "rows" "[I") (List.mem_of_getElem? (i := 1) rfl)
  have wiX11 := hts (.initialized RX11) (List.mem_of_getElem? (i := 3) rfl)
  have wstcopyPart := hts (.static yX11_copyPart) (List.mem_of_getElem? (i := 2) rfl)
  have hl := lv_entry ([.ref (h 2), .ref (h 12), .int p2, .int p3, .int p4]) (n := 5) (Nat.le_of_ble_eq_true rfl)
  rw [lg_entry_eq]
  generalize (lg_sl ([.ref (h 2), .ref (h 12), .int p2, .int p3, .int p4]) ++ List.replicate (5 - (lg_sl ([.ref (h 2), .ref (h 12), .int p2, .int p3, .int p4])).length) Slot.unset).toArray = ls at hl ⊢
  have hl : lv_has ls 5 [(0, .ref (h 2)), (1, .ref (h 12)), (2, .int p2), (3, .int p3), (4, .int p4)] := hl
  unfold wC_X8_copyBack_city_now at hw
  clear hD0
  refine lv_aload_n hx hb dX8_copyBack_0 rfl (lv_at hl 0 rfl) ?_
  refine va_get (D := D) (ci := 8) (v := .ref (h 23)) (C := RX8) (T := TX8) (N := 3) hx hb hts hin8 hown hK hP 2 rfl rfl 0 (by decide) w11 (fun _ h9 => h9) rfl dX8_copyBack_1 ?_
  refine lv_iload_n hx hb dX8_copyBack_4 rfl (lv_at hl 2 rfl) ?_
  refine lv_iload_n hx hb dX8_copyBack_5 rfl (lv_at hl 3 rfl) ?_
  refine lv_iadd hx hb dX8_copyBack_6 ?_
  refine lv_aload_n hx hb dX8_copyBack_7 rfl (lv_at hl 1 rfl) ?_
  refine lv_iload_n hx hb dX8_copyBack_8 rfl (lv_at hl 3 rfl) ?_
  refine lv_iload hx hb dX8_copyBack_9 (lv_at hl 4 rfl) ?_
  refine e_callNv (As := [.ref (h 23), .int (p2 + p3), .ref (h 12), .int p3, .int p4]) (rest := []) clE_stable hs ⟨hx, hb, hml, hown, hts⟩ (cA_copyPart l D clE (tyC cy) (wC h cy) S 23 11 12 0 _ _ _ _ 2220 74 cx_cs_rows cx_c_now cx_set_c_now rfl rfl (wCs_c_now h cy S) rfl rfl (by decide) (by decide) _ _ _ (fun S0 => S0 = (cx_set_c_now S (k_copyP 2220 74 (cx_cs_rows S) (p2 + p3) (cx_c_now S) p3 p4))) rfl) ⟨va_cnB 5 hts gX8_copyBack_X11_copyPart_n32 rfl rfl rfl hs.1.2.2.2.2.2.2.2.2.2.2.2.1 wiX11 (by decide +kernel) ⟨Nat.le_of_ble_eq_true rfl, Nat.le_of_ble_eq_true rfl⟩, wstcopyPart, trivial⟩ hK hP hD hS hA rfl hl.1 rfl (Nat.le_of_ble_eq_true rfl) dX8_copyBack_11 ⟨Nat.zero_le _, Nat.zero_le _⟩ (fun S_1 H locs eS_1 hP hD hS => ?_)
  replace hw := hw S_1 eS_1
  exact W.vret hx hb hr (fun t ht hW => ⟨⟨S_1, rfl, hw, by rw [ht]; exact hP, va_K.moved hW.alike hK, hD⟩, hS.F ht⟩) hS.2.2 dX8_copyBack_14
def wC_X8_takeBack_city_now (S : CS) (post : CS → Prop) : Prop := ((0 < (cx_cs_count S) → (∀ S_2 : CS, S_2 = (cx_set_cs_count S ((cx_cs_count S) - 1)) → wC_X8_startOf (cx_cs_count S_2) S_2 (fun r_3 S_4 => wC_X8_copyBack_city_now r_3 0 (k_at 2220 (cx_cs_rows S_4) (r_3 + 72)) S_4 (fun S_6 => wC_X8_copyBack_city_now r_3 6 (k_at 2220 (cx_cs_rows S_4) (r_3 + 72)) S_6 (fun S_8 => wC_X8_copyBack_city_now r_3 12 (k_at 2220 (cx_cs_rows S_4) (r_3 + 72)) S_8 (fun S_10 => wC_X8_copyBack_city_now r_3 18 (k_at 2220 (cx_cs_rows S_4) (r_3 + 72)) S_10 (fun S_12 => wC_X8_copyBack_city_now r_3 24 (k_at 2220 (cx_cs_rows S_4) (r_3 + 73)) S_12 (fun S_14 => wC_X8_copyBack_city_now r_3 29 (k_at 2220 (cx_cs_rows S_4) (r_3 + 73)) S_14 (fun S_16 => wC_X8_copyBack_city_now r_3 34 (k_at 2220 (cx_cs_rows S_4) (r_3 + 73)) S_16 (fun S_18 => wC_X8_copyBack_city_now r_3 39 33 S_18 (fun S_20 => post S_20))))))))))) ∧ (¬ (0 < (cx_cs_count S)) → post S))
set_option maxHeartbeats 4000000 in
set_option maxRecDepth 100000 in
theorem cC_X8_takeBack_city_now (l : Launch) (D : va_G) (h : Nat → Nat) (cy : Nat → ClassId) (S : CS) (post : CS → Prop) (hw : wC_X8_takeBack_city_now S post) : e_Mv clE l yX8_takeBack wsX8_takeBack { frames := 3, cells := 0, slots := 0, locals := 108 } D (tyC cy) (wC h cy) [.ref (h 2), .ref (h 12)] S post := by
  intro sz
  refine Met.ofW (cc := cX8_takeBack) (maxL := 5) (ret := none) (by decide) rfl ?_
  intro p e s m args below meth c s₁ B hml hv
  obtain ⟨rfl, hsz, hP, hK, hD0, hs⟩ := hv
  have hx := B.exec
  have hb := B.bytes
  have hr := B.returns
  have hts := atoms_spec (ws := wsX8_takeBack) B.pre
  have hown : s.vm.findClass RX8 = some m.cls := findClass_of_methodNamed B.named
  have hlocks := B.notSynchronized
  subst hsz
  have hD := hD0.self (sz := s.heap.size)
  generalize hAe : va_A (wC h cy S) s.heap.size = A at hD hs ⊢
  have hA : ∀ q : Nat, s.heap.size ≤ q → A q := fun q h => by rw [← hAe]; exact Or.inr h
  have hS : va_S A s.heap s.heap [] := va_S.rf
  have hin8 : ∀ w ∈ wsX80, w ∈ wsX8_takeBack := fun _ h => List.mem_cons_of_mem _ (List.mem_append_right _ h)
  have w11 := hts (.fieldLink RX8 11 "ClownsMourn$Steps" "rows" "[I") (List.mem_of_getElem? (i := 2) rfl)
  have w19 := hts (.fieldLink RX8 19 "ClownsMourn$Steps" "count" "I") (List.mem_of_getElem? (i := 1) rfl)
  have wiX11 := hts (.initialized RX11) (List.mem_of_getElem? (i := 10) rfl)
  have wstat := hts (.static yX11_at) (List.mem_of_getElem? (i := 9) rfl)
  have hl := lv_entry ([.ref (h 2), .ref (h 12)]) (n := 5) (Nat.le_of_ble_eq_true rfl)
  rw [lg_entry_eq]
  generalize (lg_sl ([.ref (h 2), .ref (h 12)]) ++ List.replicate (5 - (lg_sl ([.ref (h 2), .ref (h 12)])).length) Slot.unset).toArray = ls at hl ⊢
  have hl : lv_has ls 5 [(0, .ref (h 2)), (1, .ref (h 12))] := hl
  unfold wC_X8_takeBack_city_now at hw
  clear hD0
  refine lv_aload_n hx hb dX8_takeBack_0 rfl (lv_at hl 0 rfl) ?_
  refine va_get (D := D) (ci := 8) (v := .int (cx_cs_count S)) (C := RX8) (T := TX8) (N := 3) hx hb hts hin8 hown hK hP 2 rfl rfl 2 (by decide) w19 (fun _ h9 => h9) rfl dX8_takeBack_1 ?_
  obtain ⟨hc_1t, hc_1f⟩ := hw
  refine lv_if_gt (tgt := 8) hx hb dX8_takeBack_4 (by decide) (fun c_1 => ?_) (fun c_1 => ?_)
  · have hw := hc_1t c_1
    clear hc_1t hc_1f
    refine lv_aload_n hx hb dX8_takeBack_8 rfl (lv_at hl 0 rfl) ?_
    refine lv_dup hx hb dX8_takeBack_9 rfl ?_
    refine va_get (D := D) (ci := 8) (v := .int (cx_cs_count S)) (C := RX8) (T := TX8) (N := 3) hx hb hts hin8 hown hK hP 2 rfl rfl 2 (by decide) w19 (fun _ h9 => h9) rfl dX8_takeBack_10 ?_
    refine lv_iconst (v := 1) hx hb dX8_takeBack_13 (by decide) ?_
    refine lv_isub hx hb dX8_takeBack_14 ?_
    refine va_put (D := D) (ci := 8) (v := .int ((cx_cs_count S) - 1)) (ty := .int) (C := RX8) (T := TX8) (N := 3) hx hb hts hin8 tyX8 tyX8_ok nmX8 hown hK hP hD hS 2 rfl rfl 2 (by decide) w19 (fun _ h9 => h9) rfl (tyX8_ok 2 (by decide)) rfl rfl (Nat.le_of_ble_eq_true rfl) dX8_takeBack_15 (fun H locs hP hD hS => ?_)
    obtain ⟨S_2, eS_2⟩ : ∃ z : CS, z = (cx_set_cs_count S ((cx_cs_count S) - 1)) := ⟨_, rfl⟩
    replace hw := hw S_2 eS_2
    have hP : va_P D vwCl (wC h cy S_2) H := by rw [eS_2, ← wCp_cs_count]; exact hP
    have hD : va_D A (wC h cy S_2) := by rw [eS_2, ← wCp_cs_count]; exact hD
    refine lv_aload_n hx hb dX8_takeBack_18 rfl (lv_at hl 0 rfl) ?_
    refine lv_aload_n hx hb dX8_takeBack_19 rfl (lv_at hl 0 rfl) ?_
    refine va_get (D := D) (ci := 8) (v := .int (cx_cs_count S_2)) (C := RX8) (T := TX8) (N := 3) hx hb hts hin8 hown hK hP 2 rfl rfl 2 (by decide) w19 (fun _ h9 => h9) rfl dX8_takeBack_20 ?_
    refine e_callVi (As := [.int (cx_cs_count S_2)]) (rest := []) clE_stable hs ⟨hx, hb, hml, hown, hts⟩ (cC_X8_startOf l D h cy _ _ _ hw) (cwV 1 hts gX8_takeBack_X8_startOf rfl rfl rfl (by decide +kernel) ⟨Nat.le_of_ble_eq_true rfl, Nat.le_of_ble_eq_true rfl⟩) (va_recv hK hP (ci := 8) (q0 := 2) rfl rfl) hK hP hD hS hA rfl hl.1 rfl (Nat.le_of_ble_eq_true rfl) dX8_takeBack_23 ⟨Nat.zero_le _, Nat.zero_le _⟩ (fun r_3 S_4 H locs hw hP hD hS => ?_)
    refine lv_istore_n (lv' := [(2, .int r_3), (0, .ref (h 2)), (1, .ref (h 12))]) hx hb dX8_takeBack_26 rfl hl (by decide) rfl (fun ls hl => ?_)
    refine lv_aload_n hx hb dX8_takeBack_27 rfl (lv_at hl 1 rfl) ?_
    refine va_get (D := D) (ci := 8) (v := .ref (h 23)) (C := RX8) (T := TX8) (N := 3) hx hb hts hin8 hown hK hP 2 rfl rfl 0 (by decide) w11 (fun _ h9 => h9) rfl dX8_takeBack_28 ?_
    refine lv_iload_n hx hb dX8_takeBack_31 rfl (lv_at hl 0 rfl) ?_
    refine lv_bipush (v := 72) hx hb dX8_takeBack_32 (by decide) ?_
    refine lv_iadd hx hb dX8_takeBack_34 ?_
    refine e_callNi (As := [.ref (h 23), .int (r_3 + 72)]) (rest := []) clE_stable hs ⟨hx, hb, hml, hown, hts⟩ (cA_at l D clE (tyC cy) (wC h cy) S_4 23 11 _ _ 2220 (cx_cs_rows S_4) rfl rfl (by decide) _ (fun r S0 => r = k_at 2220 (cx_cs_rows S_4) (r_3 + 72) ∧ S_4 = S0) ⟨rfl, rfl⟩) ⟨va_cnB 2 hts gX8_takeBack_X11_at_n36 rfl rfl rfl hs.1.2.2.2.2.2.2.2.2.2.2.2.2.2.2.2.2.2.2.1 wiX11 (by decide +kernel) ⟨Nat.le_of_ble_eq_true rfl, Nat.le_of_ble_eq_true rfl⟩, wstat, trivial⟩ hK hP hD hS hA rfl hl.1 rfl (Nat.le_of_ble_eq_true rfl) dX8_takeBack_35 ⟨Nat.zero_le _, Nat.zero_le _⟩ (fun r_ S_ H locs hq hP hD hS => ?_)
    obtain ⟨rfl, rfl⟩ := hq
    refine lv_istore_n (lv' := [(3, .int (k_at 2220 (cx_cs_rows S_4) (r_3 + 72))), (2, .int r_3), (0, .ref (h 2)), (1, .ref (h 12))]) hx hb dX8_takeBack_38 rfl hl (by decide) rfl (fun ls hl => ?_)
    refine lv_aload_n hx hb dX8_takeBack_39 rfl (lv_at hl 2 rfl) ?_
    refine va_get (D := D) (ci := 8) (v := .ref (h 23)) (C := RX8) (T := TX8) (N := 3) hx hb hts hin8 hown hK hP 2 rfl rfl 0 (by decide) w11 (fun _ h9 => h9) rfl dX8_takeBack_40 ?_
    refine lv_iload_n hx hb dX8_takeBack_43 rfl (lv_at hl 1 rfl) ?_
    refine lv_bipush (v := 73) hx hb dX8_takeBack_44 (by decide) ?_
    refine lv_iadd hx hb dX8_takeBack_46 ?_
    refine e_callNi (As := [.ref (h 23), .int (r_3 + 73)]) (rest := []) clE_stable hs ⟨hx, hb, hml, hown, hts⟩ (cA_at l D clE (tyC cy) (wC h cy) S_4 23 11 _ _ 2220 (cx_cs_rows S_4) rfl rfl (by decide) _ (fun r S0 => r = k_at 2220 (cx_cs_rows S_4) (r_3 + 73) ∧ S_4 = S0) ⟨rfl, rfl⟩) ⟨va_cnB 2 hts gX8_takeBack_X11_at_n36 rfl rfl rfl hs.1.2.2.2.2.2.2.2.2.2.2.2.2.2.2.2.2.2.2.1 wiX11 (by decide +kernel) ⟨Nat.le_of_ble_eq_true rfl, Nat.le_of_ble_eq_true rfl⟩, wstat, trivial⟩ hK hP hD hS hA rfl hl.1 rfl (Nat.le_of_ble_eq_true rfl) dX8_takeBack_47 ⟨Nat.zero_le _, Nat.zero_le _⟩ (fun r_ S_ H locs hq hP hD hS => ?_)
    obtain ⟨rfl, rfl⟩ := hq
    refine lv_istore (lv' := [(4, .int (k_at 2220 (cx_cs_rows S_4) (r_3 + 73))), (3, .int (k_at 2220 (cx_cs_rows S_4) (r_3 + 72))), (2, .int r_3), (0, .ref (h 2)), (1, .ref (h 12))]) hx hb dX8_takeBack_50 hl (by decide) rfl (fun ls hl => ?_)
    refine lv_aload_n hx hb dX8_takeBack_52 rfl (lv_at hl 3 rfl) ?_
    refine lv_aload_n hx hb dX8_takeBack_53 rfl (lv_at hl 4 rfl) ?_
    refine lv_iload_n hx hb dX8_takeBack_54 rfl (lv_at hl 2 rfl) ?_
    refine lv_iconst (v := 0) hx hb dX8_takeBack_55 (by decide) ?_
    refine lv_iload_n hx hb dX8_takeBack_56 rfl (lv_at hl 1 rfl) ?_
    refine e_callVv (As := [.ref (h 12), .int r_3, .int 0, .int (k_at 2220 (cx_cs_rows S_4) (r_3 + 72))]) (rest := []) clE_stable hs ⟨hx, hb, hml, hown, hts⟩ (cC_X8_copyBack_city_now l D h cy _ _ _ _ _ hw) (cwV 4 hts gX8_takeBack_X8_copyBack rfl rfl rfl (by decide +kernel) ⟨Nat.le_of_ble_eq_true rfl, Nat.le_of_ble_eq_true rfl⟩) (va_recv hK hP (ci := 8) (q0 := 2) rfl rfl) hK hP hD hS hA rfl hl.1 rfl (Nat.le_of_ble_eq_true rfl) dX8_takeBack_57 ⟨Nat.zero_le _, Nat.zero_le _⟩ (fun S_6 H locs hw hP hD hS => ?_)
    refine lv_aload_n hx hb dX8_takeBack_60 rfl (lv_at hl 3 rfl) ?_
    refine lv_aload_n hx hb dX8_takeBack_61 rfl (lv_at hl 4 rfl) ?_
    refine lv_iload_n hx hb dX8_takeBack_62 rfl (lv_at hl 2 rfl) ?_
    refine lv_bipush (v := 6) hx hb dX8_takeBack_63 (by decide) ?_
    refine lv_iload_n hx hb dX8_takeBack_65 rfl (lv_at hl 1 rfl) ?_
    refine e_callVv (As := [.ref (h 12), .int r_3, .int 6, .int (k_at 2220 (cx_cs_rows S_4) (r_3 + 72))]) (rest := []) clE_stable hs ⟨hx, hb, hml, hown, hts⟩ (cC_X8_copyBack_city_now l D h cy _ _ _ _ _ hw) (cwV 4 hts gX8_takeBack_X8_copyBack rfl rfl rfl (by decide +kernel) ⟨Nat.le_of_ble_eq_true rfl, Nat.le_of_ble_eq_true rfl⟩) (va_recv hK hP (ci := 8) (q0 := 2) rfl rfl) hK hP hD hS hA rfl hl.1 rfl (Nat.le_of_ble_eq_true rfl) dX8_takeBack_66 ⟨Nat.zero_le _, Nat.zero_le _⟩ (fun S_8 H locs hw hP hD hS => ?_)
    refine lv_aload_n hx hb dX8_takeBack_69 rfl (lv_at hl 3 rfl) ?_
    refine lv_aload_n hx hb dX8_takeBack_70 rfl (lv_at hl 4 rfl) ?_
    refine lv_iload_n hx hb dX8_takeBack_71 rfl (lv_at hl 2 rfl) ?_
    refine lv_bipush (v := 12) hx hb dX8_takeBack_72 (by decide) ?_
    refine lv_iload_n hx hb dX8_takeBack_74 rfl (lv_at hl 1 rfl) ?_
    refine e_callVv (As := [.ref (h 12), .int r_3, .int 12, .int (k_at 2220 (cx_cs_rows S_4) (r_3 + 72))]) (rest := []) clE_stable hs ⟨hx, hb, hml, hown, hts⟩ (cC_X8_copyBack_city_now l D h cy _ _ _ _ _ hw) (cwV 4 hts gX8_takeBack_X8_copyBack rfl rfl rfl (by decide +kernel) ⟨Nat.le_of_ble_eq_true rfl, Nat.le_of_ble_eq_true rfl⟩) (va_recv hK hP (ci := 8) (q0 := 2) rfl rfl) hK hP hD hS hA rfl hl.1 rfl (Nat.le_of_ble_eq_true rfl) dX8_takeBack_75 ⟨Nat.zero_le _, Nat.zero_le _⟩ (fun S_10 H locs hw hP hD hS => ?_)
    refine lv_aload_n hx hb dX8_takeBack_78 rfl (lv_at hl 3 rfl) ?_
    refine lv_aload_n hx hb dX8_takeBack_79 rfl (lv_at hl 4 rfl) ?_
    refine lv_iload_n hx hb dX8_takeBack_80 rfl (lv_at hl 2 rfl) ?_
    refine lv_bipush (v := 18) hx hb dX8_takeBack_81 (by decide) ?_
    refine lv_iload_n hx hb dX8_takeBack_83 rfl (lv_at hl 1 rfl) ?_
    refine e_callVv (As := [.ref (h 12), .int r_3, .int 18, .int (k_at 2220 (cx_cs_rows S_4) (r_3 + 72))]) (rest := []) clE_stable hs ⟨hx, hb, hml, hown, hts⟩ (cC_X8_copyBack_city_now l D h cy _ _ _ _ _ hw) (cwV 4 hts gX8_takeBack_X8_copyBack rfl rfl rfl (by decide +kernel) ⟨Nat.le_of_ble_eq_true rfl, Nat.le_of_ble_eq_true rfl⟩) (va_recv hK hP (ci := 8) (q0 := 2) rfl rfl) hK hP hD hS hA rfl hl.1 rfl (Nat.le_of_ble_eq_true rfl) dX8_takeBack_84 ⟨Nat.zero_le _, Nat.zero_le _⟩ (fun S_12 H locs hw hP hD hS => ?_)
    refine lv_aload_n hx hb dX8_takeBack_87 rfl (lv_at hl 3 rfl) ?_
    refine lv_aload_n hx hb dX8_takeBack_88 rfl (lv_at hl 4 rfl) ?_
    refine lv_iload_n hx hb dX8_takeBack_89 rfl (lv_at hl 2 rfl) ?_
    refine lv_bipush (v := 24) hx hb dX8_takeBack_90 (by decide) ?_
    refine lv_iload hx hb dX8_takeBack_92 (lv_at hl 0 rfl) ?_
    refine e_callVv (As := [.ref (h 12), .int r_3, .int 24, .int (k_at 2220 (cx_cs_rows S_4) (r_3 + 73))]) (rest := []) clE_stable hs ⟨hx, hb, hml, hown, hts⟩ (cC_X8_copyBack_city_now l D h cy _ _ _ _ _ hw) (cwV 4 hts gX8_takeBack_X8_copyBack rfl rfl rfl (by decide +kernel) ⟨Nat.le_of_ble_eq_true rfl, Nat.le_of_ble_eq_true rfl⟩) (va_recv hK hP (ci := 8) (q0 := 2) rfl rfl) hK hP hD hS hA rfl hl.1 rfl (Nat.le_of_ble_eq_true rfl) dX8_takeBack_94 ⟨Nat.zero_le _, Nat.zero_le _⟩ (fun S_14 H locs hw hP hD hS => ?_)
    refine lv_aload_n hx hb dX8_takeBack_97 rfl (lv_at hl 3 rfl) ?_
    refine lv_aload_n hx hb dX8_takeBack_98 rfl (lv_at hl 4 rfl) ?_
    refine lv_iload_n hx hb dX8_takeBack_99 rfl (lv_at hl 2 rfl) ?_
    refine lv_bipush (v := 29) hx hb dX8_takeBack_100 (by decide) ?_
    refine lv_iload hx hb dX8_takeBack_102 (lv_at hl 0 rfl) ?_
    refine e_callVv (As := [.ref (h 12), .int r_3, .int 29, .int (k_at 2220 (cx_cs_rows S_4) (r_3 + 73))]) (rest := []) clE_stable hs ⟨hx, hb, hml, hown, hts⟩ (cC_X8_copyBack_city_now l D h cy _ _ _ _ _ hw) (cwV 4 hts gX8_takeBack_X8_copyBack rfl rfl rfl (by decide +kernel) ⟨Nat.le_of_ble_eq_true rfl, Nat.le_of_ble_eq_true rfl⟩) (va_recv hK hP (ci := 8) (q0 := 2) rfl rfl) hK hP hD hS hA rfl hl.1 rfl (Nat.le_of_ble_eq_true rfl) dX8_takeBack_104 ⟨Nat.zero_le _, Nat.zero_le _⟩ (fun S_16 H locs hw hP hD hS => ?_)
    refine lv_aload_n hx hb dX8_takeBack_107 rfl (lv_at hl 3 rfl) ?_
    refine lv_aload_n hx hb dX8_takeBack_108 rfl (lv_at hl 4 rfl) ?_
    refine lv_iload_n hx hb dX8_takeBack_109 rfl (lv_at hl 2 rfl) ?_
    refine lv_bipush (v := 34) hx hb dX8_takeBack_110 (by decide) ?_
    refine lv_iload hx hb dX8_takeBack_112 (lv_at hl 0 rfl) ?_
    refine e_callVv (As := [.ref (h 12), .int r_3, .int 34, .int (k_at 2220 (cx_cs_rows S_4) (r_3 + 73))]) (rest := []) clE_stable hs ⟨hx, hb, hml, hown, hts⟩ (cC_X8_copyBack_city_now l D h cy _ _ _ _ _ hw) (cwV 4 hts gX8_takeBack_X8_copyBack rfl rfl rfl (by decide +kernel) ⟨Nat.le_of_ble_eq_true rfl, Nat.le_of_ble_eq_true rfl⟩) (va_recv hK hP (ci := 8) (q0 := 2) rfl rfl) hK hP hD hS hA rfl hl.1 rfl (Nat.le_of_ble_eq_true rfl) dX8_takeBack_114 ⟨Nat.zero_le _, Nat.zero_le _⟩ (fun S_18 H locs hw hP hD hS => ?_)
    refine lv_aload_n hx hb dX8_takeBack_117 rfl (lv_at hl 3 rfl) ?_
    refine lv_aload_n hx hb dX8_takeBack_118 rfl (lv_at hl 4 rfl) ?_
    refine lv_iload_n hx hb dX8_takeBack_119 rfl (lv_at hl 2 rfl) ?_
    refine lv_bipush (v := 39) hx hb dX8_takeBack_120 (by decide) ?_
    refine lv_bipush (v := 33) hx hb dX8_takeBack_122 (by decide) ?_
    refine e_callVv (As := [.ref (h 12), .int r_3, .int 39, .int 33]) (rest := []) clE_stable hs ⟨hx, hb, hml, hown, hts⟩ (cC_X8_copyBack_city_now l D h cy _ _ _ _ _ hw) (cwV 4 hts gX8_takeBack_X8_copyBack rfl rfl rfl (by decide +kernel) ⟨Nat.le_of_ble_eq_true rfl, Nat.le_of_ble_eq_true rfl⟩) (va_recv hK hP (ci := 8) (q0 := 2) rfl rfl) hK hP hD hS hA rfl hl.1 rfl (Nat.le_of_ble_eq_true rfl) dX8_takeBack_124 ⟨Nat.zero_le _, Nat.zero_le _⟩ (fun S_20 H locs hw hP hD hS => ?_)
    exact W.vret hx hb hr (fun t ht hW => ⟨⟨S_20, rfl, hw, by rw [ht]; exact hP, va_K.moved hW.alike hK, hD⟩, hS.F ht⟩) hS.2.2 dX8_takeBack_127
  · have hw := hc_1f c_1
    clear hc_1t hc_1f
    exact W.vret hx hb hr (fun t ht hW => ⟨⟨S, rfl, hw, by rw [ht]; exact hP, va_K.moved hW.alike hK, hD⟩, hS.F ht⟩) hS.2.2 dX8_takeBack_7
