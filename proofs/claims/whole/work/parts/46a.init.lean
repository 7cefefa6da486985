/-! constructors -/
def ciE (A : Nat → Prop) (U : State) : Prop := clE A U ∧ va_AO "ClownsMourn$Text" U
theorem ciE_stable : k_stable ciE := ⟨fun A A1 s U locs hS hA hW h => ⟨clE_stable.1 A A1 s U locs hS hA hW h.1, h.2.moved hW.alike⟩, fun A U g mk a h => ⟨clE_stable.2 A U g mk a h.1, h.2.moved (Vm.Alike.refl U.vm)⟩⟩
def cityN (n : Nat) : Nat → Int32 := fun k => if k < n then nI ((k % 10 + k / 10 + 1) % 10) else 0
theorem cityN_step {i j : Nat} (hi : i < 5) (hj : j < 10) : k_put 50 (cityN (10 * i + j)) (nI i * 10 + nI j) (k_rem ((nI j + nI i) + 1) 10) = cityN (10 * i + j + 1) := by
  have e1 : nI i * 10 + nI j = nI (10 * i + j) := by
    rw [show (10 : Int32) = nI 10 from rfl, pk_mul, nI_add, Nat.mul_comm]
  have e2 : k_rem ((nI j + nI i) + 1) 10 = nI ((j + i + 1) % 10) := by
    unfold k_rem
    rw [nI_add, nI_1, show (10 : Int32) = nI 10 from rfl, pk_rem (by omega) (by omega) (by omega)]
  rw [e1, e2]
  unfold k_put
  rw [if_neg (nI_pos (by omega)), if_neg (nI_ge (by omega) (by omega)), nI_clamp (by omega)]
  funext k
  unfold upd cityN
  by_cases h : k = 10 * i + j
  · subst h
    rw [if_pos rfl, if_pos (by omega)]
    congr 2
    omega
  · rw [if_neg h]
    by_cases h2 : k < 10 * i + j
    · rw [if_pos h2, if_pos (by omega)]
    · rw [if_neg h2, if_neg (by omega)]
set_option maxHeartbeats 4000000 in
set_option maxRecDepth 100000 in
theorem cI_8 (l : Launch) (D : va_G) (h0 sz : Nat) : Met l yX8_init wsX8_init { frames := 1, cells := 1, slots := 2220, locals := 20 } (va_Pc [.ref h0] (e_Pre ciE D [] (fun _ : Unit => [(h0, .inr (8, [.null, .int 0, .int 0]))]) () sz)) (va_Qv (fun _ : (Nat → Nat) × (Nat → ClassId) => True) (fun u t => va_P D vwCl [(h0, .inr (8, [.ref (u.1 0), .int 0, .int 0])), ((u.1 0), .inl ((u.2 0), 2220, .inl (fun _ => 0)))] t.heap ∧ va_K D vwCl [((u.2 0), .int)] t ∧ va_D (va_A [(h0, .inr (8, [.null, .int 0, .int 0]))] sz) [(h0, .inr (8, [.ref (u.1 0), .int 0, .int 0])), ((u.1 0), .inl ((u.2 0), 2220, .inl (fun _ => 0)))]) (va_A [(h0, .inr (8, [.null, .int 0, .int 0]))] sz)) 1 2220 (va_A [(h0, .inr (8, [.null, .int 0, .int 0]))] sz) := by
  refine Met.ofW (cc := cX8_init) (maxL := 1) (ret := none) (by decide) rfl ?_
  intro p e s m args below meth c s₁ B hml hv
  obtain ⟨rfl, hsz, hP, hK, hD0, hs⟩ := hv
  have hx := B.exec
  have hb := B.bytes
  have hr := B.returns
  have hlocks := B.notSynchronized
  have hts := atoms_spec (ws := wsX8_init) B.pre
  have hown : s.vm.findClass RX8 = some m.cls := findClass_of_methodNamed B.named
  have hnin : meth.name = "<init>" := (name_of_methodNamed B.named B.method).1
  subst hsz
  have hD := hD0.self (sz := s.heap.size)
  have hP : va_P D vwCl [(h0, .inr (8, [.null, .int 0, .int 0]))] s.heap := hP
  have hD : va_D (va_A [(h0, .inr (8, [.null, .int 0, .int 0]))] s.heap.size) [(h0, .inr (8, [.null, .int 0, .int 0]))] := hD
  have hs : ciE (va_A [(h0, .inr (8, [.null, .int 0, .int 0]))] s.heap.size) s := hs
  generalize hAe : va_A [(h0, .inr (8, [.null, .int 0, .int 0]))] s.heap.size = A at hD hs ⊢
  have hA : ∀ q : Nat, s.heap.size ≤ q → A q := fun q h => by rw [← hAe]; exact Or.inr h
  have hS : va_S A s.heap s.heap [] := va_S.rf
  have hin8 : ∀ w ∈ wsX80, w ∈ wsX8_init := fun _ h => List.mem_cons_of_mem _ (List.mem_append_right _ h)
  have hl := lv_entry ([.ref h0]) (n := 1) (Nat.le_of_ble_eq_true rfl)
  rw [lg_entry_eq]
  generalize (lg_sl ([.ref h0]) ++ List.replicate (1 - (lg_sl ([.ref h0])).length) Slot.unset).toArray = ls at hl ⊢
  have hl : lv_has ls 1 [(0, .ref h0)] := hl
  refine lv_aload_n hx hb dX8_init_0 rfl (lv_at hl 0 rfl) ?_
  refine W.objInit hx hb hown (hts (.methodLink RX8 1 objectInit) (List.mem_of_getElem? (i := 1) rfl)) (hts (.instanceMethod objectInit) (List.mem_of_getElem? (i := 2) rfl)) (hts (.code objectInit ⟨#[0xb1]⟩ 1 none) (List.mem_of_getElem? (i := 3) rfl)) rfl (by rw [hml]; exact hl.1) rfl dX8_init_1 (Nat.le_of_ble_eq_true rfl) (Nat.le_of_ble_eq_true rfl) ?_
  refine W.eq (g2 := F0 m 4 ls []) rfl ?_
  refine lv_aload_n hx hb dX8_init_4 rfl (lv_at hl 0 rfl) ?_
  refine lv_sipush (v := 2220) hx hb dX8_init_5 (by decide) ?_
  refine va_newa (atype := .int) (ty := .int) (N' := 2220) (a0 := (2220, .inl (fun _ => 0))) hx hb (hts (.arrayClass .int) (List.mem_of_getElem? (i := 4) rfl)) rfl hK hP hD hS hA (fun _ => rfl) (by decide +kernel) (by decide +kernel) (Nat.le_of_ble_eq_true rfl) (Nat.le_of_ble_eq_true rfl) (Nat.le_of_ble_eq_true rfl) dX8_init_8 (fun q1 c2 H hK hP hD hS => ?_)
  refine W.widen (k := 1) (n := 2220) (Nat.le_of_ble_eq_true rfl) (Nat.le_of_ble_eq_true rfl) ?_
  have hP : va_P D vwCl [(h0, .inr (8, [.null, .int 0, .int 0])), (q1, .inl (c2, 2220, .inl (fun _ => 0)))] H := hP
  have hD : va_D A [(h0, .inr (8, [.null, .int 0, .int 0])), (q1, .inl (c2, 2220, .inl (fun _ => 0)))] := hD
  have hK : va_K D vwCl [(c2, .int)] s := hK
  refine va_putF (D := D) (ci := 8) (v := .ref q1) (ty := .array .int) (C := RX8) (T := TX8) (N := 3) hx hb hts hin8 tyX8 tyX8_ok nmX8 hown hK hP hD hS 0 rfl rfl 0 (by decide) (hts (.fieldLink RX8 11 "ClownsMourn$Steps" "rows" "[I") (List.mem_of_getElem? (i := 5) rfl)) (fun _ h9 => h9) rfl hnin rfl (tyX8_ok 0 (by decide)) rfl rfl (Nat.le_of_ble_eq_true rfl) dX8_init_10 (fun H locs hP hD hS => ?_)
  have hP : va_P D vwCl [(h0, .inr (8, [.ref q1, .int 0, .int 0])), (q1, .inl (c2, 2220, .inl (fun _ => 0)))] H := hP
  have hD : va_D A [(h0, .inr (8, [.ref q1, .int 0, .int 0])), (q1, .inl (c2, 2220, .inl (fun _ => 0)))] := hD
  have hK : va_K D vwCl [(c2, .int)] s := hK
  refine lv_aload_n hx hb dX8_init_13 rfl (lv_at hl 0 rfl) ?_
  refine lv_iconst (v := 0) hx hb dX8_init_14 (by decide) ?_
  refine va_put (D := D) (ci := 8) (v := .int 0) (ty := .int) (C := RX8) (T := TX8) (N := 3) hx hb hts hin8 tyX8 tyX8_ok nmX8 hown hK hP hD hS 0 rfl rfl 1 (by decide) (hts (.fieldLink RX8 15 "ClownsMourn$Steps" "first" "I") (List.mem_of_getElem? (i := 6) rfl)) (fun _ h9 => h9) rfl (tyX8_ok 1 (by decide)) rfl rfl (Nat.le_of_ble_eq_true rfl) dX8_init_15 (fun H locs hP hD hS => ?_)
  have hP : va_P D vwCl [(h0, .inr (8, [.ref q1, .int 0, .int 0])), (q1, .inl (c2, 2220, .inl (fun _ => 0)))] H := hP
  have hD : va_D A [(h0, .inr (8, [.ref q1, .int 0, .int 0])), (q1, .inl (c2, 2220, .inl (fun _ => 0)))] := hD
  have hK : va_K D vwCl [(c2, .int)] s := hK
  refine lv_aload_n hx hb dX8_init_18 rfl (lv_at hl 0 rfl) ?_
  refine lv_iconst (v := 0) hx hb dX8_init_19 (by decide) ?_
  refine va_put (D := D) (ci := 8) (v := .int 0) (ty := .int) (C := RX8) (T := TX8) (N := 3) hx hb hts hin8 tyX8 tyX8_ok nmX8 hown hK hP hD hS 0 rfl rfl 2 (by decide) (hts (.fieldLink RX8 19 "ClownsMourn$Steps" "count" "I") (List.mem_of_getElem? (i := 7) rfl)) (fun _ h9 => h9) rfl (tyX8_ok 2 (by decide)) rfl rfl (Nat.le_of_ble_eq_true rfl) dX8_init_20 (fun H locs hP hD hS => ?_)
  have hP : va_P D vwCl [(h0, .inr (8, [.ref q1, .int 0, .int 0])), (q1, .inl (c2, 2220, .inl (fun _ => 0)))] H := hP
  have hD : va_D A [(h0, .inr (8, [.ref q1, .int 0, .int 0])), (q1, .inl (c2, 2220, .inl (fun _ => 0)))] := hD
  have hK : va_K D vwCl [(c2, .int)] s := hK
  exact W.vret hx hb hr (fun t ht hW => ⟨⟨(fun j => ([q1] : List Nat).getD j 0, fun j => ([c2] : List ClassId).getD j m.cls), rfl, trivial, by rw [ht]; exact hP, va_K.moved hW.alike hK, hD⟩, hS.F ht⟩) hS.2.2 dX8_init_23
set_option maxHeartbeats 4000000 in
set_option maxRecDepth 100000 in
theorem cI_6 (l : Launch) (D : va_G) (h0 sz : Nat) : Met l yX6_init wsX6_init { frames := 1, cells := 4, slots := 702, locals := 20 } (va_Pc [.ref h0] (e_Pre ciE D [] (fun _ : Unit => [(h0, .inr (6, [.int 0, .int 0, .int 0, .null, .null, .null, .null, .int 0, .int 0, .int 0, .int 0, .int 0, .int 0, .int 0, .int 0, .int 0]))]) () sz)) (va_Qv (fun _ : (Nat → Nat) × (Nat → ClassId) => True) (fun u t => va_P D vwCl [(h0, .inr (6, [.int 0, .int (-1), .int (-1), .ref (u.1 0), .ref (u.1 1), .ref (u.1 2), .ref (u.1 3), .int 0, .int 0, .int 0, .int 0, .int 0, .int 0, .int 0, .int 0, .int 0])), ((u.1 0), .inl ((u.2 0), 300, .inl (fun _ => 0))), ((u.1 1), .inl ((u.2 1), 96, .inl (fun _ => 0))), ((u.1 2), .inl ((u.2 2), 300, .inl (fun _ => 0))), ((u.1 3), .inl ((u.2 3), 6, .inl (fun _ => 0)))] t.heap ∧ va_K D vwCl [((u.2 0), .int), ((u.2 1), .int), ((u.2 2), .int), ((u.2 3), .int)] t ∧ va_D (va_A [(h0, .inr (6, [.int 0, .int 0, .int 0, .null, .null, .null, .null, .int 0, .int 0, .int 0, .int 0, .int 0, .int 0, .int 0, .int 0, .int 0]))] sz) [(h0, .inr (6, [.int 0, .int (-1), .int (-1), .ref (u.1 0), .ref (u.1 1), .ref (u.1 2), .ref (u.1 3), .int 0, .int 0, .int 0, .int 0, .int 0, .int 0, .int 0, .int 0, .int 0])), ((u.1 0), .inl ((u.2 0), 300, .inl (fun _ => 0))), ((u.1 1), .inl ((u.2 1), 96, .inl (fun _ => 0))), ((u.1 2), .inl ((u.2 2), 300, .inl (fun _ => 0))), ((u.1 3), .inl ((u.2 3), 6, .inl (fun _ => 0)))]) (va_A [(h0, .inr (6, [.int 0, .int 0, .int 0, .null, .null, .null, .null, .int 0, .int 0, .int 0, .int 0, .int 0, .int 0, .int 0, .int 0, .int 0]))] sz)) 4 702 (va_A [(h0, .inr (6, [.int 0, .int 0, .int 0, .null, .null, .null, .null, .int 0, .int 0, .int 0, .int 0, .int 0, .int 0, .int 0, .int 0, .int 0]))] sz) := by
  refine Met.ofW (cc := cX6_init) (maxL := 1) (ret := none) (by decide) rfl ?_
  intro p e s m args below meth c s₁ B hml hv
  obtain ⟨rfl, hsz, hP, hK, hD0, hs⟩ := hv
  have hx := B.exec
  have hb := B.bytes
  have hr := B.returns
  have hlocks := B.notSynchronized
  have hts := atoms_spec (ws := wsX6_init) B.pre
  have hown : s.vm.findClass RX6 = some m.cls := findClass_of_methodNamed B.named
  have hnin : meth.name = "<init>" := (name_of_methodNamed B.named B.method).1
  subst hsz
  have hD := hD0.self (sz := s.heap.size)
  have hP : va_P D vwCl [(h0, .inr (6, [.int 0, .int 0, .int 0, .null, .null, .null, .null, .int 0, .int 0, .int 0, .int 0, .int 0, .int 0, .int 0, .int 0, .int 0]))] s.heap := hP
  have hD : va_D (va_A [(h0, .inr (6, [.int 0, .int 0, .int 0, .null, .null, .null, .null, .int 0, .int 0, .int 0, .int 0, .int 0, .int 0, .int 0, .int 0, .int 0]))] s.heap.size) [(h0, .inr (6, [.int 0, .int 0, .int 0, .null, .null, .null, .null, .int 0, .int 0, .int 0, .int 0, .int 0, .int 0, .int 0, .int 0, .int 0]))] := hD
  have hs : ciE (va_A [(h0, .inr (6, [.int 0, .int 0, .int 0, .null, .null, .null, .null, .int 0, .int 0, .int 0, .int 0, .int 0, .int 0, .int 0, .int 0, .int 0]))] s.heap.size) s := hs
  generalize hAe : va_A [(h0, .inr (6, [.int 0, .int 0, .int 0, .null, .null, .null, .null, .int 0, .int 0, .int 0, .int 0, .int 0, .int 0, .int 0, .int 0, .int 0]))] s.heap.size = A at hD hs ⊢
  have hA : ∀ q : Nat, s.heap.size ≤ q → A q := fun q h => by rw [← hAe]; exact Or.inr h
  have hS : va_S A s.heap s.heap [] := va_S.rf
  have hin6 : ∀ w ∈ wsX60, w ∈ wsX6_init := fun _ h => List.mem_cons_of_mem _ (List.mem_append_right _ h)
  have hl := lv_entry ([.ref h0]) (n := 1) (Nat.le_of_ble_eq_true rfl)
  rw [lg_entry_eq]
  generalize (lg_sl ([.ref h0]) ++ List.replicate (1 - (lg_sl ([.ref h0])).length) Slot.unset).toArray = ls at hl ⊢
  have hl : lv_has ls 1 [(0, .ref h0)] := hl
  refine lv_aload_n hx hb dX6_init_0 rfl (lv_at hl 0 rfl) ?_
  refine W.objInit hx hb hown (hts (.methodLink RX6 3 objectInit) (List.mem_of_getElem? (i := 1) rfl)) (hts (.instanceMethod objectInit) (List.mem_of_getElem? (i := 2) rfl)) (hts (.code objectInit ⟨#[0xb1]⟩ 1 none) (List.mem_of_getElem? (i := 3) rfl)) rfl (by rw [hml]; exact hl.1) rfl dX6_init_1 (Nat.le_of_ble_eq_true rfl) (Nat.le_of_ble_eq_true rfl) ?_
  refine W.eq (g2 := F0 m 4 ls []) rfl ?_
  refine lv_aload_n hx hb dX6_init_4 rfl (lv_at hl 0 rfl) ?_
  refine lv_iconst (v := 0) hx hb dX6_init_5 (by decide) ?_
  refine va_put (D := D) (ci := 6) (v := .int 0) (ty := .int) (C := RX6) (T := TX6) (N := 16) hx hb hts hin6 tyX6 tyX6_ok nmX6 hown hK hP hD hS 0 rfl rfl 0 (by decide) (hts (.fieldLink RX6 9 "ClownsMourn$Reader" "length" "I") (List.mem_of_getElem? (i := 4) rfl)) (fun _ h9 => h9) rfl (tyX6_ok 0 (by decide)) rfl rfl (Nat.le_of_ble_eq_true rfl) dX6_init_6 (fun H locs hP hD hS => ?_)
  have hP : va_P D vwCl [(h0, .inr (6, [.int 0, .int 0, .int 0, .null, .null, .null, .null, .int 0, .int 0, .int 0, .int 0, .int 0, .int 0, .int 0, .int 0, .int 0]))] H := hP
  have hD : va_D A [(h0, .inr (6, [.int 0, .int 0, .int 0, .null, .null, .null, .null, .int 0, .int 0, .int 0, .int 0, .int 0, .int 0, .int 0, .int 0, .int 0]))] := hD
  have hK : va_K D vwCl [] s := hK
  refine lv_aload_n hx hb dX6_init_9 rfl (lv_at hl 0 rfl) ?_
  refine lv_iconst (v := (-1)) hx hb dX6_init_10 (by decide) ?_
  refine va_put (D := D) (ci := 6) (v := .int (-1)) (ty := .int) (C := RX6) (T := TX6) (N := 16) hx hb hts hin6 tyX6 tyX6_ok nmX6 hown hK hP hD hS 0 rfl rfl 1 (by decide) (hts (.fieldLink RX6 15 "ClownsMourn$Reader" "lastFault" "I") (List.mem_of_getElem? (i := 5) rfl)) (fun _ h9 => h9) rfl (tyX6_ok 1 (by decide)) rfl rfl (Nat.le_of_ble_eq_true rfl) dX6_init_11 (fun H locs hP hD hS => ?_)
  have hP : va_P D vwCl [(h0, .inr (6, [.int 0, .int (-1), .int 0, .null, .null, .null, .null, .int 0, .int 0, .int 0, .int 0, .int 0, .int 0, .int 0, .int 0, .int 0]))] H := hP
  have hD : va_D A [(h0, .inr (6, [.int 0, .int (-1), .int 0, .null, .null, .null, .null, .int 0, .int 0, .int 0, .int 0, .int 0, .int 0, .int 0, .int 0, .int 0]))] := hD
  have hK : va_K D vwCl [] s := hK
  refine lv_aload_n hx hb dX6_init_14 rfl (lv_at hl 0 rfl) ?_
  refine lv_iconst (v := (-1)) hx hb dX6_init_15 (by decide) ?_
  refine va_put (D := D) (ci := 6) (v := .int (-1)) (ty := .int) (C := RX6) (T := TX6) (N := 16) hx hb hts hin6 tyX6 tyX6_ok nmX6 hown hK hP hD hS 0 rfl rfl 2 (by decide) (hts (.fieldLink RX6 18 "ClownsMourn$Reader" "lastPlace" "I") (List.mem_of_getElem? (i := 6) rfl)) (fun _ h9 => h9) rfl (tyX6_ok 2 (by decide)) rfl rfl (Nat.le_of_ble_eq_true rfl) dX6_init_16 (fun H locs hP hD hS => ?_)
  have hP : va_P D vwCl [(h0, .inr (6, [.int 0, .int (-1), .int (-1), .null, .null, .null, .null, .int 0, .int 0, .int 0, .int 0, .int 0, .int 0, .int 0, .int 0, .int 0]))] H := hP
  have hD : va_D A [(h0, .inr (6, [.int 0, .int (-1), .int (-1), .null, .null, .null, .null, .int 0, .int 0, .int 0, .int 0, .int 0, .int 0, .int 0, .int 0, .int 0]))] := hD
  have hK : va_K D vwCl [] s := hK
  refine lv_aload_n hx hb dX6_init_19 rfl (lv_at hl 0 rfl) ?_
  refine lv_sipush (v := 300) hx hb dX6_init_20 (by decide) ?_
  refine va_newa (atype := .int) (ty := .int) (N' := 300) (a0 := (300, .inl (fun _ => 0))) hx hb (hts (.arrayClass .int) (List.mem_of_getElem? (i := 7) rfl)) rfl hK hP hD hS hA (fun _ => rfl) (by decide +kernel) (by decide +kernel) (Nat.le_of_ble_eq_true rfl) (Nat.le_of_ble_eq_true rfl) (Nat.le_of_ble_eq_true rfl) dX6_init_23 (fun q1 c2 H hK hP hD hS => ?_)
  refine W.widen (k := 1) (n := 300) (Nat.le_of_ble_eq_true rfl) (Nat.le_of_ble_eq_true rfl) ?_
  have hP : va_P D vwCl [(h0, .inr (6, [.int 0, .int (-1), .int (-1), .null, .null, .null, .null, .int 0, .int 0, .int 0, .int 0, .int 0, .int 0, .int 0, .int 0, .int 0])), (q1, .inl (c2, 300, .inl (fun _ => 0)))] H := hP
  have hD : va_D A [(h0, .inr (6, [.int 0, .int (-1), .int (-1), .null, .null, .null, .null, .int 0, .int 0, .int 0, .int 0, .int 0, .int 0, .int 0, .int 0, .int 0])), (q1, .inl (c2, 300, .inl (fun _ => 0)))] := hD
  have hK : va_K D vwCl [(c2, .int)] s := hK
  refine va_putF (D := D) (ci := 6) (v := .ref q1) (ty := .array .int) (C := RX6) (T := TX6) (N := 16) hx hb hts hin6 tyX6 tyX6_ok nmX6 hown hK hP hD hS 0 rfl rfl 3 (by decide) (hts (.fieldLink RX6 21 "ClownsMourn$Reader" "tape" "[I") (List.mem_of_getElem? (i := 8) rfl)) (fun _ h9 => h9) rfl hnin rfl (tyX6_ok 3 (by decide)) rfl rfl (Nat.le_of_ble_eq_true rfl) dX6_init_25 (fun H locs hP hD hS => ?_)
  have hP : va_P D vwCl [(h0, .inr (6, [.int 0, .int (-1), .int (-1), .ref q1, .null, .null, .null, .int 0, .int 0, .int 0, .int 0, .int 0, .int 0, .int 0, .int 0, .int 0])), (q1, .inl (c2, 300, .inl (fun _ => 0)))] H := hP
  have hD : va_D A [(h0, .inr (6, [.int 0, .int (-1), .int (-1), .ref q1, .null, .null, .null, .int 0, .int 0, .int 0, .int 0, .int 0, .int 0, .int 0, .int 0, .int 0])), (q1, .inl (c2, 300, .inl (fun _ => 0)))] := hD
  have hK : va_K D vwCl [(c2, .int)] s := hK
  refine lv_aload_n hx hb dX6_init_28 rfl (lv_at hl 0 rfl) ?_
  refine lv_bipush (v := 96) hx hb dX6_init_29 (by decide) ?_
  refine va_newa (atype := .int) (ty := .int) (N' := 96) (a0 := (96, .inl (fun _ => 0))) hx hb (hts (.arrayClass .int) (List.mem_of_getElem? (i := 7) rfl)) rfl hK hP hD hS hA (fun _ => rfl) (by decide +kernel) (by decide +kernel) (Nat.le_of_ble_eq_true rfl) (Nat.le_of_ble_eq_true rfl) (Nat.le_of_ble_eq_true rfl) dX6_init_31 (fun q3 c4 H hK hP hD hS => ?_)
  refine W.widen (k := 2) (n := 396) (Nat.le_of_ble_eq_true rfl) (Nat.le_of_ble_eq_true rfl) ?_
  have hP : va_P D vwCl [(h0, .inr (6, [.int 0, .int (-1), .int (-1), .ref q1, .null, .null, .null, .int 0, .int 0, .int 0, .int 0, .int 0, .int 0, .int 0, .int 0, .int 0])), (q1, .inl (c2, 300, .inl (fun _ => 0))), (q3, .inl (c4, 96, .inl (fun _ => 0)))] H := hP
  have hD : va_D A [(h0, .inr (6, [.int 0, .int (-1), .int (-1), .ref q1, .null, .null, .null, .int 0, .int 0, .int 0, .int 0, .int 0, .int 0, .int 0, .int 0, .int 0])), (q1, .inl (c2, 300, .inl (fun _ => 0))), (q3, .inl (c4, 96, .inl (fun _ => 0)))] := hD
  have hK : va_K D vwCl [(c2, .int), (c4, .int)] s := hK
  refine va_putF (D := D) (ci := 6) (v := .ref q3) (ty := .array .int) (C := RX6) (T := TX6) (N := 16) hx hb hts hin6 tyX6 tyX6_ok nmX6 hown hK hP hD hS 0 rfl rfl 4 (by decide) (hts (.fieldLink RX6 25 "ClownsMourn$Reader" "clauses" "[I") (List.mem_of_getElem? (i := 9) rfl)) (fun _ h9 => h9) rfl hnin rfl (tyX6_ok 4 (by decide)) rfl rfl (Nat.le_of_ble_eq_true rfl) dX6_init_33 (fun H locs hP hD hS => ?_)
  have hP : va_P D vwCl [(h0, .inr (6, [.int 0, .int (-1), .int (-1), .ref q1, .ref q3, .null, .null, .int 0, .int 0, .int 0, .int 0, .int 0, .int 0, .int 0, .int 0, .int 0])), (q1, .inl (c2, 300, .inl (fun _ => 0))), (q3, .inl (c4, 96, .inl (fun _ => 0)))] H := hP
  have hD : va_D A [(h0, .inr (6, [.int 0, .int (-1), .int (-1), .ref q1, .ref q3, .null, .null, .int 0, .int 0, .int 0, .int 0, .int 0, .int 0, .int 0, .int 0, .int 0])), (q1, .inl (c2, 300, .inl (fun _ => 0))), (q3, .inl (c4, 96, .inl (fun _ => 0)))] := hD
  have hK : va_K D vwCl [(c2, .int), (c4, .int)] s := hK
  refine lv_aload_n hx hb dX6_init_36 rfl (lv_at hl 0 rfl) ?_
  refine lv_sipush (v := 300) hx hb dX6_init_37 (by decide) ?_
  refine va_newa (atype := .int) (ty := .int) (N' := 300) (a0 := (300, .inl (fun _ => 0))) hx hb (hts (.arrayClass .int) (List.mem_of_getElem? (i := 7) rfl)) rfl hK hP hD hS hA (fun _ => rfl) (by decide +kernel) (by decide +kernel) (Nat.le_of_ble_eq_true rfl) (Nat.le_of_ble_eq_true rfl) (Nat.le_of_ble_eq_true rfl) dX6_init_40 (fun q5 c6 H hK hP hD hS => ?_)
  refine W.widen (k := 3) (n := 696) (Nat.le_of_ble_eq_true rfl) (Nat.le_of_ble_eq_true rfl) ?_
  have hP : va_P D vwCl [(h0, .inr (6, [.int 0, .int (-1), .int (-1), .ref q1, .ref q3, .null, .null, .int 0, .int 0, .int 0, .int 0, .int 0, .int 0, .int 0, .int 0, .int 0])), (q1, .inl (c2, 300, .inl (fun _ => 0))), (q3, .inl (c4, 96, .inl (fun _ => 0))), (q5, .inl (c6, 300, .inl (fun _ => 0)))] H := hP
  have hD : va_D A [(h0, .inr (6, [.int 0, .int (-1), .int (-1), .ref q1, .ref q3, .null, .null, .int 0, .int 0, .int 0, .int 0, .int 0, .int 0, .int 0, .int 0, .int 0])), (q1, .inl (c2, 300, .inl (fun _ => 0))), (q3, .inl (c4, 96, .inl (fun _ => 0))), (q5, .inl (c6, 300, .inl (fun _ => 0)))] := hD
  have hK : va_K D vwCl [(c2, .int), (c4, .int), (c6, .int)] s := hK
  refine va_putF (D := D) (ci := 6) (v := .ref q5) (ty := .array .int) (C := RX6) (T := TX6) (N := 16) hx hb hts hin6 tyX6 tyX6_ok nmX6 hown hK hP hD hS 0 rfl rfl 5 (by decide) (hts (.fieldLink RX6 28 "ClownsMourn$Reader" "code" "[I") (List.mem_of_getElem? (i := 10) rfl)) (fun _ h9 => h9) rfl hnin rfl (tyX6_ok 5 (by decide)) rfl rfl (Nat.le_of_ble_eq_true rfl) dX6_init_42 (fun H locs hP hD hS => ?_)
  have hP : va_P D vwCl [(h0, .inr (6, [.int 0, .int (-1), .int (-1), .ref q1, .ref q3, .ref q5, .null, .int 0, .int 0, .int 0, .int 0, .int 0, .int 0, .int 0, .int 0, .int 0])), (q1, .inl (c2, 300, .inl (fun _ => 0))), (q3, .inl (c4, 96, .inl (fun _ => 0))), (q5, .inl (c6, 300, .inl (fun _ => 0)))] H := hP
  have hD : va_D A [(h0, .inr (6, [.int 0, .int (-1), .int (-1), .ref q1, .ref q3, .ref q5, .null, .int 0, .int 0, .int 0, .int 0, .int 0, .int 0, .int 0, .int 0, .int 0])), (q1, .inl (c2, 300, .inl (fun _ => 0))), (q3, .inl (c4, 96, .inl (fun _ => 0))), (q5, .inl (c6, 300, .inl (fun _ => 0)))] := hD
  have hK : va_K D vwCl [(c2, .int), (c4, .int), (c6, .int)] s := hK
  refine lv_aload_n hx hb dX6_init_45 rfl (lv_at hl 0 rfl) ?_
  refine lv_bipush (v := 6) hx hb dX6_init_46 (by decide) ?_
  refine va_newa (atype := .int) (ty := .int) (N' := 6) (a0 := (6, .inl (fun _ => 0))) hx hb (hts (.arrayClass .int) (List.mem_of_getElem? (i := 7) rfl)) rfl hK hP hD hS hA (fun _ => rfl) (by decide +kernel) (by decide +kernel) (Nat.le_of_ble_eq_true rfl) (Nat.le_of_ble_eq_true rfl) (Nat.le_of_ble_eq_true rfl) dX6_init_48 (fun q7 c8 H hK hP hD hS => ?_)
  refine W.widen (k := 4) (n := 702) (Nat.le_of_ble_eq_true rfl) (Nat.le_of_ble_eq_true rfl) ?_
  have hP : va_P D vwCl [(h0, .inr (6, [.int 0, .int (-1), .int (-1), .ref q1, .ref q3, .ref q5, .null, .int 0, .int 0, .int 0, .int 0, .int 0, .int 0, .int 0, .int 0, .int 0])), (q1, .inl (c2, 300, .inl (fun _ => 0))), (q3, .inl (c4, 96, .inl (fun _ => 0))), (q5, .inl (c6, 300, .inl (fun _ => 0))), (q7, .inl (c8, 6, .inl (fun _ => 0)))] H := hP
  have hD : va_D A [(h0, .inr (6, [.int 0, .int (-1), .int (-1), .ref q1, .ref q3, .ref q5, .null, .int 0, .int 0, .int 0, .int 0, .int 0, .int 0, .int 0, .int 0, .int 0])), (q1, .inl (c2, 300, .inl (fun _ => 0))), (q3, .inl (c4, 96, .inl (fun _ => 0))), (q5, .inl (c6, 300, .inl (fun _ => 0))), (q7, .inl (c8, 6, .inl (fun _ => 0)))] := hD
  have hK : va_K D vwCl [(c2, .int), (c4, .int), (c6, .int), (c8, .int)] s := hK
  refine va_putF (D := D) (ci := 6) (v := .ref q7) (ty := .array .int) (C := RX6) (T := TX6) (N := 16) hx hb hts hin6 tyX6 tyX6_ok nmX6 hown hK hP hD hS 0 rfl rfl 6 (by decide) (hts (.fieldLink RX6 31 "ClownsMourn$Reader" "bounds" "[I") (List.mem_of_getElem? (i := 11) rfl)) (fun _ h9 => h9) rfl hnin rfl (tyX6_ok 6 (by decide)) rfl rfl (Nat.le_of_ble_eq_true rfl) dX6_init_50 (fun H locs hP hD hS => ?_)
  have hP : va_P D vwCl [(h0, .inr (6, [.int 0, .int (-1), .int (-1), .ref q1, .ref q3, .ref q5, .ref q7, .int 0, .int 0, .int 0, .int 0, .int 0, .int 0, .int 0, .int 0, .int 0])), (q1, .inl (c2, 300, .inl (fun _ => 0))), (q3, .inl (c4, 96, .inl (fun _ => 0))), (q5, .inl (c6, 300, .inl (fun _ => 0))), (q7, .inl (c8, 6, .inl (fun _ => 0)))] H := hP
  have hD : va_D A [(h0, .inr (6, [.int 0, .int (-1), .int (-1), .ref q1, .ref q3, .ref q5, .ref q7, .int 0, .int 0, .int 0, .int 0, .int 0, .int 0, .int 0, .int 0, .int 0])), (q1, .inl (c2, 300, .inl (fun _ => 0))), (q3, .inl (c4, 96, .inl (fun _ => 0))), (q5, .inl (c6, 300, .inl (fun _ => 0))), (q7, .inl (c8, 6, .inl (fun _ => 0)))] := hD
  have hK : va_K D vwCl [(c2, .int), (c4, .int), (c6, .int), (c8, .int)] s := hK
  exact W.vret hx hb hr (fun t ht hW => ⟨⟨(fun j => ([q1, q3, q5, q7] : List Nat).getD j 0, fun j => ([c2, c4, c6, c8] : List ClassId).getD j m.cls), rfl, trivial, by rw [ht]; exact hP, va_K.moved hW.alike hK, hD⟩, hS.F ht⟩) hS.2.2 dX6_init_53
set_option maxHeartbeats 4000000 in
set_option maxRecDepth 100000 in
theorem cI_3 (l : Launch) (D : va_G) (h0 r1 sz : Nat) : Met l yX3_init wsX3_init { frames := 1, cells := 2, slots := 76, locals := 20 } (va_Pc [.ref h0, .ref r1] (e_Pre ciE D [] (fun _ : Unit => [(h0, .inr (3, [.null, .null, .null, .int 0]))]) () sz)) (va_Qv (fun _ : (Nat → Nat) × (Nat → ClassId) => True) (fun u t => va_P D vwCl [(h0, .inr (3, [.ref r1, .ref (u.1 0), .ref (u.1 1), .int 0])), ((u.1 0), .inl ((u.2 0), 12, .inl (fun _ => 0))), ((u.1 1), .inl ((u.2 1), 64, .inl (fun _ => 0)))] t.heap ∧ va_K D vwCl [((u.2 0), .int), ((u.2 1), .int)] t ∧ va_D (va_A [(h0, .inr (3, [.null, .null, .null, .int 0]))] sz) [(h0, .inr (3, [.ref r1, .ref (u.1 0), .ref (u.1 1), .int 0])), ((u.1 0), .inl ((u.2 0), 12, .inl (fun _ => 0))), ((u.1 1), .inl ((u.2 1), 64, .inl (fun _ => 0)))]) (va_A [(h0, .inr (3, [.null, .null, .null, .int 0]))] sz)) 2 76 (va_A [(h0, .inr (3, [.null, .null, .null, .int 0]))] sz) := by
  refine Met.ofW (cc := cX3_init) (maxL := 2) (ret := none) (by decide) rfl ?_
  intro p e s m args below meth c s₁ B hml hv
  obtain ⟨rfl, hsz, hP, hK, hD0, hs⟩ := hv
  have hx := B.exec
  have hb := B.bytes
  have hr := B.returns
  have hlocks := B.notSynchronized
  have hts := atoms_spec (ws := wsX3_init) B.pre
  have hown : s.vm.findClass RX3 = some m.cls := findClass_of_methodNamed B.named
  have hnin : meth.name = "<init>" := (name_of_methodNamed B.named B.method).1
  subst hsz
  have hD := hD0.self (sz := s.heap.size)
  have hP : va_P D vwCl [(h0, .inr (3, [.null, .null, .null, .int 0]))] s.heap := hP
  have hD : va_D (va_A [(h0, .inr (3, [.null, .null, .null, .int 0]))] s.heap.size) [(h0, .inr (3, [.null, .null, .null, .int 0]))] := hD
  have hs : ciE (va_A [(h0, .inr (3, [.null, .null, .null, .int 0]))] s.heap.size) s := hs
  generalize hAe : va_A [(h0, .inr (3, [.null, .null, .null, .int 0]))] s.heap.size = A at hD hs ⊢
  have hA : ∀ q : Nat, s.heap.size ≤ q → A q := fun q h => by rw [← hAe]; exact Or.inr h
  have hS : va_S A s.heap s.heap [] := va_S.rf
  have hin3 : ∀ w ∈ wsX30, w ∈ wsX3_init := fun _ h => List.mem_cons_of_mem _ (List.mem_append_right _ h)
  have hl := lv_entry ([.ref h0, .ref r1]) (n := 2) (Nat.le_of_ble_eq_true rfl)
  rw [lg_entry_eq]
  generalize (lg_sl ([.ref h0, .ref r1]) ++ List.replicate (2 - (lg_sl ([.ref h0, .ref r1])).length) Slot.unset).toArray = ls at hl ⊢
  have hl : lv_has ls 2 [(0, .ref h0), (1, .ref r1)] := hl
  refine lv_aload_n hx hb dX3_init_0 rfl (lv_at hl 0 rfl) ?_
  refine W.objInit hx hb hown (hts (.methodLink RX3 1 objectInit) (List.mem_of_getElem? (i := 1) rfl)) (hts (.instanceMethod objectInit) (List.mem_of_getElem? (i := 2) rfl)) (hts (.code objectInit ⟨#[0xb1]⟩ 1 none) (List.mem_of_getElem? (i := 3) rfl)) rfl (by rw [hml]; exact hl.1) rfl dX3_init_1 (Nat.le_of_ble_eq_true rfl) (Nat.le_of_ble_eq_true rfl) ?_
  refine W.eq (g2 := F0 m 4 ls []) rfl ?_
  refine lv_aload_n hx hb dX3_init_4 rfl (lv_at hl 0 rfl) ?_
  refine lv_bipush (v := 12) hx hb dX3_init_5 (by decide) ?_
  refine va_newa (atype := .int) (ty := .int) (N' := 12) (a0 := (12, .inl (fun _ => 0))) hx hb (hts (.arrayClass .int) (List.mem_of_getElem? (i := 4) rfl)) rfl hK hP hD hS hA (fun _ => rfl) (by decide +kernel) (by decide +kernel) (Nat.le_of_ble_eq_true rfl) (Nat.le_of_ble_eq_true rfl) (Nat.le_of_ble_eq_true rfl) dX3_init_7 (fun q1 c2 H hK hP hD hS => ?_)
  refine W.widen (k := 1) (n := 12) (Nat.le_of_ble_eq_true rfl) (Nat.le_of_ble_eq_true rfl) ?_
  have hP : va_P D vwCl [(h0, .inr (3, [.null, .null, .null, .int 0])), (q1, .inl (c2, 12, .inl (fun _ => 0)))] H := hP
  have hD : va_D A [(h0, .inr (3, [.null, .null, .null, .int 0])), (q1, .inl (c2, 12, .inl (fun _ => 0)))] := hD
  have hK : va_K D vwCl [(c2, .int)] s := hK
  refine va_putF (D := D) (ci := 3) (v := .ref q1) (ty := .array .int) (C := RX3) (T := TX3) (N := 4) hx hb hts hin3 tyX3 tyX3_ok nmX3 hown hK hP hD hS 0 rfl rfl 1 (by decide) (hts (.fieldLink RX3 9 "ClownsMourn$Laws" "named" "[I") (List.mem_of_getElem? (i := 5) rfl)) (fun _ h9 => h9) rfl hnin rfl (tyX3_ok 1 (by decide)) rfl rfl (Nat.le_of_ble_eq_true rfl) dX3_init_9 (fun H locs hP hD hS => ?_)
  have hP : va_P D vwCl [(h0, .inr (3, [.null, .ref q1, .null, .int 0])), (q1, .inl (c2, 12, .inl (fun _ => 0)))] H := hP
  have hD : va_D A [(h0, .inr (3, [.null, .ref q1, .null, .int 0])), (q1, .inl (c2, 12, .inl (fun _ => 0)))] := hD
  have hK : va_K D vwCl [(c2, .int)] s := hK
  refine lv_aload_n hx hb dX3_init_12 rfl (lv_at hl 0 rfl) ?_
  refine lv_bipush (v := 64) hx hb dX3_init_13 (by decide) ?_
  refine va_newa (atype := .int) (ty := .int) (N' := 64) (a0 := (64, .inl (fun _ => 0))) hx hb (hts (.arrayClass .int) (List.mem_of_getElem? (i := 4) rfl)) rfl hK hP hD hS hA (fun _ => rfl) (by decide +kernel) (by decide +kernel) (Nat.le_of_ble_eq_true rfl) (Nat.le_of_ble_eq_true rfl) (Nat.le_of_ble_eq_true rfl) dX3_init_15 (fun q3 c4 H hK hP hD hS => ?_)
  refine W.widen (k := 2) (n := 76) (Nat.le_of_ble_eq_true rfl) (Nat.le_of_ble_eq_true rfl) ?_
  have hP : va_P D vwCl [(h0, .inr (3, [.null, .ref q1, .null, .int 0])), (q1, .inl (c2, 12, .inl (fun _ => 0))), (q3, .inl (c4, 64, .inl (fun _ => 0)))] H := hP
  have hD : va_D A [(h0, .inr (3, [.null, .ref q1, .null, .int 0])), (q1, .inl (c2, 12, .inl (fun _ => 0))), (q3, .inl (c4, 64, .inl (fun _ => 0)))] := hD
  have hK : va_K D vwCl [(c2, .int), (c4, .int)] s := hK
  refine va_putF (D := D) (ci := 3) (v := .ref q3) (ty := .array .int) (C := RX3) (T := TX3) (N := 4) hx hb hts hin3 tyX3 tyX3_ok nmX3 hown hK hP hD hS 0 rfl rfl 2 (by decide) (hts (.fieldLink RX3 15 "ClownsMourn$Laws" "stack" "[I") (List.mem_of_getElem? (i := 6) rfl)) (fun _ h9 => h9) rfl hnin rfl (tyX3_ok 2 (by decide)) rfl rfl (Nat.le_of_ble_eq_true rfl) dX3_init_17 (fun H locs hP hD hS => ?_)
  have hP : va_P D vwCl [(h0, .inr (3, [.null, .ref q1, .ref q3, .int 0])), (q1, .inl (c2, 12, .inl (fun _ => 0))), (q3, .inl (c4, 64, .inl (fun _ => 0)))] H := hP
  have hD : va_D A [(h0, .inr (3, [.null, .ref q1, .ref q3, .int 0])), (q1, .inl (c2, 12, .inl (fun _ => 0))), (q3, .inl (c4, 64, .inl (fun _ => 0)))] := hD
  have hK : va_K D vwCl [(c2, .int), (c4, .int)] s := hK
  refine lv_aload_n hx hb dX3_init_20 rfl (lv_at hl 0 rfl) ?_
  refine lv_iconst (v := 0) hx hb dX3_init_21 (by decide) ?_
  refine va_put (D := D) (ci := 3) (v := .int 0) (ty := .int) (C := RX3) (T := TX3) (N := 4) hx hb hts hin3 tyX3 tyX3_ok nmX3 hown hK hP hD hS 0 rfl rfl 3 (by decide) (hts (.fieldLink RX3 18 "ClownsMourn$Laws" "height" "I") (List.mem_of_getElem? (i := 7) rfl)) (fun _ h9 => h9) rfl (tyX3_ok 3 (by decide)) rfl rfl (Nat.le_of_ble_eq_true rfl) dX3_init_22 (fun H locs hP hD hS => ?_)
  have hP : va_P D vwCl [(h0, .inr (3, [.null, .ref q1, .ref q3, .int 0])), (q1, .inl (c2, 12, .inl (fun _ => 0))), (q3, .inl (c4, 64, .inl (fun _ => 0)))] H := hP
  have hD : va_D A [(h0, .inr (3, [.null, .ref q1, .ref q3, .int 0])), (q1, .inl (c2, 12, .inl (fun _ => 0))), (q3, .inl (c4, 64, .inl (fun _ => 0)))] := hD
  have hK : va_K D vwCl [(c2, .int), (c4, .int)] s := hK
  refine lv_aload_n hx hb dX3_init_25 rfl (lv_at hl 0 rfl) ?_
  refine lv_aload_n hx hb dX3_init_26 rfl (lv_at hl 1 rfl) ?_
  refine va_putF (D := D) (ci := 3) (v := .ref r1) (ty := .object "ClownsMourn$City") (C := RX3) (T := TX3) (N := 4) hx hb hts hin3 tyX3 tyX3_ok nmX3 hown hK hP hD hS 0 rfl rfl 0 (by decide) (hts (.fieldLink RX3 22 "ClownsMourn$Laws" "city" "LClownsMourn$City;") (List.mem_of_getElem? (i := 8) rfl)) (fun _ h9 => h9) rfl hnin rfl (tyX3_ok 0 (by decide)) rfl rfl (Nat.le_of_ble_eq_true rfl) dX3_init_27 (fun H locs hP hD hS => ?_)
  have hP : va_P D vwCl [(h0, .inr (3, [.ref r1, .ref q1, .ref q3, .int 0])), (q1, .inl (c2, 12, .inl (fun _ => 0))), (q3, .inl (c4, 64, .inl (fun _ => 0)))] H := hP
  have hD : va_D A [(h0, .inr (3, [.ref r1, .ref q1, .ref q3, .int 0])), (q1, .inl (c2, 12, .inl (fun _ => 0))), (q3, .inl (c4, 64, .inl (fun _ => 0)))] := hD
  have hK : va_K D vwCl [(c2, .int), (c4, .int)] s := hK
  exact W.vret hx hb hr (fun t ht hW => ⟨⟨(fun j => ([q1, q3] : List Nat).getD j 0, fun j => ([c2, c4] : List ClassId).getD j m.cls), rfl, trivial, by rw [ht]; exact hP, va_K.moved hW.alike hK, hD⟩, hS.F ht⟩) hS.2.2 dX3_init_30
set_option maxHeartbeats 4000000 in
set_option maxRecDepth 100000 in
theorem cI_2 (l : Launch) (D : va_G) (h0 r1 r2 sz : Nat) : Met l yX2_init wsX2_init { frames := 1, cells := 1, slots := 74, locals := 20 } (va_Pc [.ref h0, .ref r1, .ref r2] (e_Pre ciE D [] (fun _ : Unit => [(h0, .inr (2, [.null, .null, .null]))]) () sz)) (va_Qv (fun _ : (Nat → Nat) × (Nat → ClassId) => True) (fun u t => va_P D vwCl [(h0, .inr (2, [.ref r1, .ref r2, .ref (u.1 0)])), ((u.1 0), .inl ((u.2 0), 74, .inl (fun _ => 0)))] t.heap ∧ va_K D vwCl [((u.2 0), .int)] t ∧ va_D (va_A [(h0, .inr (2, [.null, .null, .null]))] sz) [(h0, .inr (2, [.ref r1, .ref r2, .ref (u.1 0)])), ((u.1 0), .inl ((u.2 0), 74, .inl (fun _ => 0)))]) (va_A [(h0, .inr (2, [.null, .null, .null]))] sz)) 1 74 (va_A [(h0, .inr (2, [.null, .null, .null]))] sz) := by
  refine Met.ofW (cc := cX2_init) (maxL := 3) (ret := none) (by decide) rfl ?_
  intro p e s m args below meth c s₁ B hml hv
  obtain ⟨rfl, hsz, hP, hK, hD0, hs⟩ := hv
  have hx := B.exec
  have hb := B.bytes
  have hr := B.returns
  have hlocks := B.notSynchronized
  have hts := atoms_spec (ws := wsX2_init) B.pre
  have hown : s.vm.findClass RX2 = some m.cls := findClass_of_methodNamed B.named
  have hnin : meth.name = "<init>" := (name_of_methodNamed B.named B.method).1
  subst hsz
  have hD := hD0.self (sz := s.heap.size)
  have hP : va_P D vwCl [(h0, .inr (2, [.null, .null, .null]))] s.heap := hP
  have hD : va_D (va_A [(h0, .inr (2, [.null, .null, .null]))] s.heap.size) [(h0, .inr (2, [.null, .null, .null]))] := hD
  have hs : ciE (va_A [(h0, .inr (2, [.null, .null, .null]))] s.heap.size) s := hs
  generalize hAe : va_A [(h0, .inr (2, [.null, .null, .null]))] s.heap.size = A at hD hs ⊢
  have hA : ∀ q : Nat, s.heap.size ≤ q → A q := fun q h => by rw [← hAe]; exact Or.inr h
  have hS : va_S A s.heap s.heap [] := va_S.rf
  have hin2 : ∀ w ∈ wsX20, w ∈ wsX2_init := fun _ h => List.mem_cons_of_mem _ (List.mem_append_right _ h)
  have hl := lv_entry ([.ref h0, .ref r1, .ref r2]) (n := 3) (Nat.le_of_ble_eq_true rfl)
  rw [lg_entry_eq]
  generalize (lg_sl ([.ref h0, .ref r1, .ref r2]) ++ List.replicate (3 - (lg_sl ([.ref h0, .ref r1, .ref r2])).length) Slot.unset).toArray = ls at hl ⊢
  have hl : lv_has ls 3 [(0, .ref h0), (1, .ref r1), (2, .ref r2)] := hl
  refine lv_aload_n hx hb dX2_init_0 rfl (lv_at hl 0 rfl) ?_
  refine W.objInit hx hb hown (hts (.methodLink RX2 3 objectInit) (List.mem_of_getElem? (i := 1) rfl)) (hts (.instanceMethod objectInit) (List.mem_of_getElem? (i := 2) rfl)) (hts (.code objectInit ⟨#[0xb1]⟩ 1 none) (List.mem_of_getElem? (i := 3) rfl)) rfl (by rw [hml]; exact hl.1) rfl dX2_init_1 (Nat.le_of_ble_eq_true rfl) (Nat.le_of_ble_eq_true rfl) ?_
  refine W.eq (g2 := F0 m 4 ls []) rfl ?_
  refine lv_aload_n hx hb dX2_init_4 rfl (lv_at hl 0 rfl) ?_
  refine lv_bipush (v := 74) hx hb dX2_init_5 (by decide) ?_
  refine va_newa (atype := .int) (ty := .int) (N' := 74) (a0 := (74, .inl (fun _ => 0))) hx hb (hts (.arrayClass .int) (List.mem_of_getElem? (i := 4) rfl)) rfl hK hP hD hS hA (fun _ => rfl) (by decide +kernel) (by decide +kernel) (Nat.le_of_ble_eq_true rfl) (Nat.le_of_ble_eq_true rfl) (Nat.le_of_ble_eq_true rfl) dX2_init_7 (fun q1 c2 H hK hP hD hS => ?_)
  refine W.widen (k := 1) (n := 74) (Nat.le_of_ble_eq_true rfl) (Nat.le_of_ble_eq_true rfl) ?_
  have hP : va_P D vwCl [(h0, .inr (2, [.null, .null, .null])), (q1, .inl (c2, 74, .inl (fun _ => 0)))] H := hP
  have hD : va_D A [(h0, .inr (2, [.null, .null, .null])), (q1, .inl (c2, 74, .inl (fun _ => 0)))] := hD
  have hK : va_K D vwCl [(c2, .int)] s := hK
  refine va_putF (D := D) (ci := 2) (v := .ref q1) (ty := .array .int) (C := RX2) (T := TX2) (N := 3) hx hb hts hin2 tyX2 tyX2_ok nmX2 hown hK hP hD hS 0 rfl rfl 2 (by decide) (hts (.fieldLink RX2 11 "ClownsMourn$Guild" "asItIs" "[I") (List.mem_of_getElem? (i := 5) rfl)) (fun _ h9 => h9) rfl hnin rfl (tyX2_ok 2 (by decide)) rfl rfl (Nat.le_of_ble_eq_true rfl) dX2_init_9 (fun H locs hP hD hS => ?_)
  have hP : va_P D vwCl [(h0, .inr (2, [.null, .null, .ref q1])), (q1, .inl (c2, 74, .inl (fun _ => 0)))] H := hP
  have hD : va_D A [(h0, .inr (2, [.null, .null, .ref q1])), (q1, .inl (c2, 74, .inl (fun _ => 0)))] := hD
  have hK : va_K D vwCl [(c2, .int)] s := hK
  refine lv_aload_n hx hb dX2_init_12 rfl (lv_at hl 0 rfl) ?_
  refine lv_aload_n hx hb dX2_init_13 rfl (lv_at hl 1 rfl) ?_
  refine va_putF (D := D) (ci := 2) (v := .ref r1) (ty := .object "ClownsMourn$City") (C := RX2) (T := TX2) (N := 3) hx hb hts hin2 tyX2 tyX2_ok nmX2 hown hK hP hD hS 0 rfl rfl 0 (by decide) (hts (.fieldLink RX2 17 "ClownsMourn$Guild" "city" "LClownsMourn$City;") (List.mem_of_getElem? (i := 6) rfl)) (fun _ h9 => h9) rfl hnin rfl (tyX2_ok 0 (by decide)) rfl rfl (Nat.le_of_ble_eq_true rfl) dX2_init_14 (fun H locs hP hD hS => ?_)
  have hP : va_P D vwCl [(h0, .inr (2, [.ref r1, .null, .ref q1])), (q1, .inl (c2, 74, .inl (fun _ => 0)))] H := hP
  have hD : va_D A [(h0, .inr (2, [.ref r1, .null, .ref q1])), (q1, .inl (c2, 74, .inl (fun _ => 0)))] := hD
  have hK : va_K D vwCl [(c2, .int)] s := hK
  refine lv_aload_n hx hb dX2_init_17 rfl (lv_at hl 0 rfl) ?_
  refine lv_aload_n hx hb dX2_init_18 rfl (lv_at hl 2 rfl) ?_
  refine va_putF (D := D) (ci := 2) (v := .ref r2) (ty := .object "ClownsMourn$Laws") (C := RX2) (T := TX2) (N := 3) hx hb hts hin2 tyX2 tyX2_ok nmX2 hown hK hP hD hS 0 rfl rfl 1 (by decide) (hts (.fieldLink RX2 21 "ClownsMourn$Guild" "laws" "LClownsMourn$Laws;") (List.mem_of_getElem? (i := 7) rfl)) (fun _ h9 => h9) rfl hnin rfl (tyX2_ok 1 (by decide)) rfl rfl (Nat.le_of_ble_eq_true rfl) dX2_init_19 (fun H locs hP hD hS => ?_)
  have hP : va_P D vwCl [(h0, .inr (2, [.ref r1, .ref r2, .ref q1])), (q1, .inl (c2, 74, .inl (fun _ => 0)))] H := hP
  have hD : va_D A [(h0, .inr (2, [.ref r1, .ref r2, .ref q1])), (q1, .inl (c2, 74, .inl (fun _ => 0)))] := hD
  have hK : va_K D vwCl [(c2, .int)] s := hK
  exact W.vret hx hb hr (fun t ht hW => ⟨⟨(fun j => ([q1] : List Nat).getD j 0, fun j => ([c2] : List ClassId).getD j m.cls), rfl, trivial, by rw [ht]; exact hP, va_K.moved hW.alike hK, hD⟩, hS.F ht⟩) hS.2.2 dX2_init_22
set_option maxHeartbeats 4000000 in
set_option maxRecDepth 100000 in
theorem cI_7 (l : Launch) (D : va_G) (h0 sz : Nat) : Met l yX7_init wsX7_init { frames := 1, cells := 3, slots := 2080, locals := 20 } (va_Pc [.ref h0] (e_Pre ciE D [] (fun _ : Unit => [(h0, .inr (7, [.null, .null, .null, .int 0, .int 0, .long 0]))]) () sz)) (va_Qv (fun _ : (Nat → Nat) × (Nat → ClassId) => True) (fun u t => va_P D vwCl [(h0, .inr (7, [.ref (u.1 0), .ref (u.1 1), .ref (u.1 2), .int 0, .int (-1), .long 0])), ((u.1 0), .inl ((u.2 0), 1024, .inr (.inl (fun _ => 0)))), ((u.1 1), .inl ((u.2 1), 1024, .inr (.inl (fun _ => 0)))), ((u.1 2), .inl ((u.2 2), 32, .inl (fun _ => 0)))] t.heap ∧ va_K D vwCl [((u.2 0), .long), ((u.2 1), .long), ((u.2 2), .int)] t ∧ va_D (va_A [(h0, .inr (7, [.null, .null, .null, .int 0, .int 0, .long 0]))] sz) [(h0, .inr (7, [.ref (u.1 0), .ref (u.1 1), .ref (u.1 2), .int 0, .int (-1), .long 0])), ((u.1 0), .inl ((u.2 0), 1024, .inr (.inl (fun _ => 0)))), ((u.1 1), .inl ((u.2 1), 1024, .inr (.inl (fun _ => 0)))), ((u.1 2), .inl ((u.2 2), 32, .inl (fun _ => 0)))]) (va_A [(h0, .inr (7, [.null, .null, .null, .int 0, .int 0, .long 0]))] sz)) 3 2080 (va_A [(h0, .inr (7, [.null, .null, .null, .int 0, .int 0, .long 0]))] sz) := by
  refine Met.ofW (cc := cX7_init) (maxL := 1) (ret := none) (by decide) rfl ?_
  intro p e s m args below meth c s₁ B hml hv
  obtain ⟨rfl, hsz, hP, hK, hD0, hs⟩ := hv
  have hx := B.exec
  have hb := B.bytes
  have hr := B.returns
  have hlocks := B.notSynchronized
  have hts := atoms_spec (ws := wsX7_init) B.pre
  have hown : s.vm.findClass RX7 = some m.cls := findClass_of_methodNamed B.named
  have hnin : meth.name = "<init>" := (name_of_methodNamed B.named B.method).1
  subst hsz
  have hD := hD0.self (sz := s.heap.size)
  have hP : va_P D vwCl [(h0, .inr (7, [.null, .null, .null, .int 0, .int 0, .long 0]))] s.heap := hP
  have hD : va_D (va_A [(h0, .inr (7, [.null, .null, .null, .int 0, .int 0, .long 0]))] s.heap.size) [(h0, .inr (7, [.null, .null, .null, .int 0, .int 0, .long 0]))] := hD
  have hs : ciE (va_A [(h0, .inr (7, [.null, .null, .null, .int 0, .int 0, .long 0]))] s.heap.size) s := hs
  generalize hAe : va_A [(h0, .inr (7, [.null, .null, .null, .int 0, .int 0, .long 0]))] s.heap.size = A at hD hs ⊢
  have hA : ∀ q : Nat, s.heap.size ≤ q → A q := fun q h => by rw [← hAe]; exact Or.inr h
  have hS : va_S A s.heap s.heap [] := va_S.rf
  have hin7 : ∀ w ∈ wsX70, w ∈ wsX7_init := fun _ h => List.mem_cons_of_mem _ (List.mem_append_right _ h)
  have hl := lv_entry ([.ref h0]) (n := 1) (Nat.le_of_ble_eq_true rfl)
  rw [lg_entry_eq]
  generalize (lg_sl ([.ref h0]) ++ List.replicate (1 - (lg_sl ([.ref h0])).length) Slot.unset).toArray = ls at hl ⊢
  have hl : lv_has ls 1 [(0, .ref h0)] := hl
  refine lv_aload_n hx hb dX7_init_0 rfl (lv_at hl 0 rfl) ?_
  refine W.objInit hx hb hown (hts (.methodLink RX7 3 objectInit) (List.mem_of_getElem? (i := 1) rfl)) (hts (.instanceMethod objectInit) (List.mem_of_getElem? (i := 2) rfl)) (hts (.code objectInit ⟨#[0xb1]⟩ 1 none) (List.mem_of_getElem? (i := 3) rfl)) rfl (by rw [hml]; exact hl.1) rfl dX7_init_1 (Nat.le_of_ble_eq_true rfl) (Nat.le_of_ble_eq_true rfl) ?_
  refine W.eq (g2 := F0 m 4 ls []) rfl ?_
  refine lv_aload_n hx hb dX7_init_4 rfl (lv_at hl 0 rfl) ?_
  refine lv_sipush (v := 1024) hx hb dX7_init_5 (by decide) ?_
  refine va_newa (atype := .long) (ty := .long) (N' := 1024) (a0 := (1024, .inr (.inl (fun _ => 0)))) hx hb (hts (.arrayClass .long) (List.mem_of_getElem? (i := 4) rfl)) rfl hK hP hD hS hA (fun _ => rfl) (by decide +kernel) (by decide +kernel) (Nat.le_of_ble_eq_true rfl) (Nat.le_of_ble_eq_true rfl) (Nat.le_of_ble_eq_true rfl) dX7_init_8 (fun q1 c2 H hK hP hD hS => ?_)
  refine W.widen (k := 1) (n := 1024) (Nat.le_of_ble_eq_true rfl) (Nat.le_of_ble_eq_true rfl) ?_
  have hP : va_P D vwCl [(h0, .inr (7, [.null, .null, .null, .int 0, .int 0, .long 0])), (q1, .inl (c2, 1024, .inr (.inl (fun _ => 0))))] H := hP
  have hD : va_D A [(h0, .inr (7, [.null, .null, .null, .int 0, .int 0, .long 0])), (q1, .inl (c2, 1024, .inr (.inl (fun _ => 0))))] := hD
  have hK : va_K D vwCl [(c2, .long)] s := hK
  refine va_putF (D := D) (ci := 7) (v := .ref q1) (ty := .array .long) (C := RX7) (T := TX7) (N := 6) hx hb hts hin7 tyX7 tyX7_ok nmX7 hown hK hP hD hS 0 rfl rfl 0 (by decide) (hts (.fieldLink RX7 11 "ClownsMourn$Search" "layer" "[J") (List.mem_of_getElem? (i := 5) rfl)) (fun _ h9 => h9) rfl hnin rfl (tyX7_ok 0 (by decide)) rfl rfl (Nat.le_of_ble_eq_true rfl) dX7_init_10 (fun H locs hP hD hS => ?_)
  have hP : va_P D vwCl [(h0, .inr (7, [.ref q1, .null, .null, .int 0, .int 0, .long 0])), (q1, .inl (c2, 1024, .inr (.inl (fun _ => 0))))] H := hP
  have hD : va_D A [(h0, .inr (7, [.ref q1, .null, .null, .int 0, .int 0, .long 0])), (q1, .inl (c2, 1024, .inr (.inl (fun _ => 0))))] := hD
  have hK : va_K D vwCl [(c2, .long)] s := hK
  refine lv_aload_n hx hb dX7_init_13 rfl (lv_at hl 0 rfl) ?_
  refine lv_sipush (v := 1024) hx hb dX7_init_14 (by decide) ?_
  refine va_newa (atype := .long) (ty := .long) (N' := 1024) (a0 := (1024, .inr (.inl (fun _ => 0)))) hx hb (hts (.arrayClass .long) (List.mem_of_getElem? (i := 4) rfl)) rfl hK hP hD hS hA (fun _ => rfl) (by decide +kernel) (by decide +kernel) (Nat.le_of_ble_eq_true rfl) (Nat.le_of_ble_eq_true rfl) (Nat.le_of_ble_eq_true rfl) dX7_init_17 (fun q3 c4 H hK hP hD hS => ?_)
  refine W.widen (k := 2) (n := 2048) (Nat.le_of_ble_eq_true rfl) (Nat.le_of_ble_eq_true rfl) ?_
  have hP : va_P D vwCl [(h0, .inr (7, [.ref q1, .null, .null, .int 0, .int 0, .long 0])), (q1, .inl (c2, 1024, .inr (.inl (fun _ => 0)))), (q3, .inl (c4, 1024, .inr (.inl (fun _ => 0))))] H := hP
  have hD : va_D A [(h0, .inr (7, [.ref q1, .null, .null, .int 0, .int 0, .long 0])), (q1, .inl (c2, 1024, .inr (.inl (fun _ => 0)))), (q3, .inl (c4, 1024, .inr (.inl (fun _ => 0))))] := hD
  have hK : va_K D vwCl [(c2, .long), (c4, .long)] s := hK
  refine va_putF (D := D) (ci := 7) (v := .ref q3) (ty := .array .long) (C := RX7) (T := TX7) (N := 6) hx hb hts hin7 tyX7 tyX7_ok nmX7 hown hK hP hD hS 0 rfl rfl 1 (by decide) (hts (.fieldLink RX7 15 "ClownsMourn$Search" "nextLayer" "[J") (List.mem_of_getElem? (i := 6) rfl)) (fun _ h9 => h9) rfl hnin rfl (tyX7_ok 1 (by decide)) rfl rfl (Nat.le_of_ble_eq_true rfl) dX7_init_19 (fun H locs hP hD hS => ?_)
  have hP : va_P D vwCl [(h0, .inr (7, [.ref q1, .ref q3, .null, .int 0, .int 0, .long 0])), (q1, .inl (c2, 1024, .inr (.inl (fun _ => 0)))), (q3, .inl (c4, 1024, .inr (.inl (fun _ => 0))))] H := hP
  have hD : va_D A [(h0, .inr (7, [.ref q1, .ref q3, .null, .int 0, .int 0, .long 0])), (q1, .inl (c2, 1024, .inr (.inl (fun _ => 0)))), (q3, .inl (c4, 1024, .inr (.inl (fun _ => 0))))] := hD
  have hK : va_K D vwCl [(c2, .long), (c4, .long)] s := hK
  refine lv_aload_n hx hb dX7_init_22 rfl (lv_at hl 0 rfl) ?_
  refine lv_bipush (v := 32) hx hb dX7_init_23 (by decide) ?_
  refine va_newa (atype := .int) (ty := .int) (N' := 32) (a0 := (32, .inl (fun _ => 0))) hx hb (hts (.arrayClass .int) (List.mem_of_getElem? (i := 7) rfl)) rfl hK hP hD hS hA (fun _ => rfl) (by decide +kernel) (by decide +kernel) (Nat.le_of_ble_eq_true rfl) (Nat.le_of_ble_eq_true rfl) (Nat.le_of_ble_eq_true rfl) dX7_init_25 (fun q5 c6 H hK hP hD hS => ?_)
  refine W.widen (k := 3) (n := 2080) (Nat.le_of_ble_eq_true rfl) (Nat.le_of_ble_eq_true rfl) ?_
  have hP : va_P D vwCl [(h0, .inr (7, [.ref q1, .ref q3, .null, .int 0, .int 0, .long 0])), (q1, .inl (c2, 1024, .inr (.inl (fun _ => 0)))), (q3, .inl (c4, 1024, .inr (.inl (fun _ => 0)))), (q5, .inl (c6, 32, .inl (fun _ => 0)))] H := hP
  have hD : va_D A [(h0, .inr (7, [.ref q1, .ref q3, .null, .int 0, .int 0, .long 0])), (q1, .inl (c2, 1024, .inr (.inl (fun _ => 0)))), (q3, .inl (c4, 1024, .inr (.inl (fun _ => 0)))), (q5, .inl (c6, 32, .inl (fun _ => 0)))] := hD
  have hK : va_K D vwCl [(c2, .long), (c4, .long), (c6, .int)] s := hK
  refine va_putF (D := D) (ci := 7) (v := .ref q5) (ty := .array .int) (C := RX7) (T := TX7) (N := 6) hx hb hts hin7 tyX7 tyX7_ok nmX7 hown hK hP hD hS 0 rfl rfl 2 (by decide) (hts (.fieldLink RX7 18 "ClownsMourn$Search" "seen" "[I") (List.mem_of_getElem? (i := 8) rfl)) (fun _ h9 => h9) rfl hnin rfl (tyX7_ok 2 (by decide)) rfl rfl (Nat.le_of_ble_eq_true rfl) dX7_init_27 (fun H locs hP hD hS => ?_)
  have hP : va_P D vwCl [(h0, .inr (7, [.ref q1, .ref q3, .ref q5, .int 0, .int 0, .long 0])), (q1, .inl (c2, 1024, .inr (.inl (fun _ => 0)))), (q3, .inl (c4, 1024, .inr (.inl (fun _ => 0)))), (q5, .inl (c6, 32, .inl (fun _ => 0)))] H := hP
  have hD : va_D A [(h0, .inr (7, [.ref q1, .ref q3, .ref q5, .int 0, .int 0, .long 0])), (q1, .inl (c2, 1024, .inr (.inl (fun _ => 0)))), (q3, .inl (c4, 1024, .inr (.inl (fun _ => 0)))), (q5, .inl (c6, 32, .inl (fun _ => 0)))] := hD
  have hK : va_K D vwCl [(c2, .long), (c4, .long), (c6, .int)] s := hK
  refine lv_aload_n hx hb dX7_init_30 rfl (lv_at hl 0 rfl) ?_
  refine lv_iconst (v := 0) hx hb dX7_init_31 (by decide) ?_
  refine va_put (D := D) (ci := 7) (v := .int 0) (ty := .int) (C := RX7) (T := TX7) (N := 6) hx hb hts hin7 tyX7 tyX7_ok nmX7 hown hK hP hD hS 0 rfl rfl 3 (by decide) (hts (.fieldLink RX7 22 "ClownsMourn$Search" "count" "I") (List.mem_of_getElem? (i := 9) rfl)) (fun _ h9 => h9) rfl (tyX7_ok 3 (by decide)) rfl rfl (Nat.le_of_ble_eq_true rfl) dX7_init_32 (fun H locs hP hD hS => ?_)
  have hP : va_P D vwCl [(h0, .inr (7, [.ref q1, .ref q3, .ref q5, .int 0, .int 0, .long 0])), (q1, .inl (c2, 1024, .inr (.inl (fun _ => 0)))), (q3, .inl (c4, 1024, .inr (.inl (fun _ => 0)))), (q5, .inl (c6, 32, .inl (fun _ => 0)))] H := hP
  have hD : va_D A [(h0, .inr (7, [.ref q1, .ref q3, .ref q5, .int 0, .int 0, .long 0])), (q1, .inl (c2, 1024, .inr (.inl (fun _ => 0)))), (q3, .inl (c4, 1024, .inr (.inl (fun _ => 0)))), (q5, .inl (c6, 32, .inl (fun _ => 0)))] := hD
  have hK : va_K D vwCl [(c2, .long), (c4, .long), (c6, .int)] s := hK
  refine lv_aload_n hx hb dX7_init_35 rfl (lv_at hl 0 rfl) ?_
  refine lv_iconst (v := (-1)) hx hb dX7_init_36 (by decide) ?_
  refine va_put (D := D) (ci := 7) (v := .int (-1)) (ty := .int) (C := RX7) (T := TX7) (N := 6) hx hb hts hin7 tyX7 tyX7_ok nmX7 hown hK hP hD hS 0 rfl rfl 4 (by decide) (hts (.fieldLink RX7 26 "ClownsMourn$Search" "length" "I") (List.mem_of_getElem? (i := 10) rfl)) (fun _ h9 => h9) rfl (tyX7_ok 4 (by decide)) rfl rfl (Nat.le_of_ble_eq_true rfl) dX7_init_37 (fun H locs hP hD hS => ?_)
  have hP : va_P D vwCl [(h0, .inr (7, [.ref q1, .ref q3, .ref q5, .int 0, .int (-1), .long 0])), (q1, .inl (c2, 1024, .inr (.inl (fun _ => 0)))), (q3, .inl (c4, 1024, .inr (.inl (fun _ => 0)))), (q5, .inl (c6, 32, .inl (fun _ => 0)))] H := hP
  have hD : va_D A [(h0, .inr (7, [.ref q1, .ref q3, .ref q5, .int 0, .int (-1), .long 0])), (q1, .inl (c2, 1024, .inr (.inl (fun _ => 0)))), (q3, .inl (c4, 1024, .inr (.inl (fun _ => 0)))), (q5, .inl (c6, 32, .inl (fun _ => 0)))] := hD
  have hK : va_K D vwCl [(c2, .long), (c4, .long), (c6, .int)] s := hK
  refine lv_aload_n hx hb dX7_init_40 rfl (lv_at hl 0 rfl) ?_
  refine lv_lconst (v := 0) hx hb dX7_init_41 (by decide) ?_
  refine va_put (D := D) (ci := 7) (v := .long 0) (ty := .long) (C := RX7) (T := TX7) (N := 6) hx hb hts hin7 tyX7 tyX7_ok nmX7 hown hK hP hD hS 0 rfl rfl 5 (by decide) (hts (.fieldLink RX7 29 "ClownsMourn$Search" "path" "J") (List.mem_of_getElem? (i := 11) rfl)) (fun _ h9 => h9) rfl (tyX7_ok 5 (by decide)) rfl rfl (Nat.le_of_ble_eq_true rfl) dX7_init_42 (fun H locs hP hD hS => ?_)
  have hP : va_P D vwCl [(h0, .inr (7, [.ref q1, .ref q3, .ref q5, .int 0, .int (-1), .long 0])), (q1, .inl (c2, 1024, .inr (.inl (fun _ => 0)))), (q3, .inl (c4, 1024, .inr (.inl (fun _ => 0)))), (q5, .inl (c6, 32, .inl (fun _ => 0)))] H := hP
  have hD : va_D A [(h0, .inr (7, [.ref q1, .ref q3, .ref q5, .int 0, .int (-1), .long 0])), (q1, .inl (c2, 1024, .inr (.inl (fun _ => 0)))), (q3, .inl (c4, 1024, .inr (.inl (fun _ => 0)))), (q5, .inl (c6, 32, .inl (fun _ => 0)))] := hD
  have hK : va_K D vwCl [(c2, .long), (c4, .long), (c6, .int)] s := hK
  exact W.vret hx hb hr (fun t ht hW => ⟨⟨(fun j => ([q1, q3, q5] : List Nat).getD j 0, fun j => ([c2, c4, c6] : List ClassId).getD j m.cls), rfl, trivial, by rw [ht]; exact hP, va_K.moved hW.alike hK, hD⟩, hS.F ht⟩) hS.2.2 dX7_init_45
set_option maxHeartbeats 4000000 in
set_option maxRecDepth 100000 in
theorem cI_walk5 (l : Launch) (D : va_G) (h0 sz : Nat) : Met l yX10_init wsX10_init { frames := 1, cells := 0, slots := 0, locals := 20 } (va_Pc [.ref h0] (e_Pre ciE D [] (fun _ : Unit => [(h0, .inr (5, [.null, .int 0]))]) () sz)) (va_Qv (fun _ : (Nat → Nat) × (Nat → ClassId) => True) (fun u t => va_P D vwCl [(h0, .inr (5, [.null, .int 0]))] t.heap ∧ va_K D vwCl [] t ∧ va_D (va_A [(h0, .inr (5, [.null, .int 0]))] sz) [(h0, .inr (5, [.null, .int 0]))]) (va_A [(h0, .inr (5, [.null, .int 0]))] sz)) 0 0 (va_A [(h0, .inr (5, [.null, .int 0]))] sz) := by
  refine Met.ofW (cc := cX10_init) (maxL := 1) (ret := none) (by decide) rfl ?_
  intro p e s m args below meth c s₁ B hml hv
  obtain ⟨rfl, hsz, hP, hK, hD0, hs⟩ := hv
  have hx := B.exec
  have hb := B.bytes
  have hr := B.returns
  have hlocks := B.notSynchronized
  have hts := atoms_spec (ws := wsX10_init) B.pre
  have hown : s.vm.findClass RX10 = some m.cls := findClass_of_methodNamed B.named
  have hnin : meth.name = "<init>" := (name_of_methodNamed B.named B.method).1
  subst hsz
  have hD := hD0.self (sz := s.heap.size)
  have hP : va_P D vwCl [(h0, .inr (5, [.null, .int 0]))] s.heap := hP
  have hD : va_D (va_A [(h0, .inr (5, [.null, .int 0]))] s.heap.size) [(h0, .inr (5, [.null, .int 0]))] := hD
  have hs : ciE (va_A [(h0, .inr (5, [.null, .int 0]))] s.heap.size) s := hs
  generalize hAe : va_A [(h0, .inr (5, [.null, .int 0]))] s.heap.size = A at hD hs ⊢
  have hA : ∀ q : Nat, s.heap.size ≤ q → A q := fun q h => by rw [← hAe]; exact Or.inr h
  have hS : va_S A s.heap s.heap [] := va_S.rf
  have hl := lv_entry ([.ref h0]) (n := 1) (Nat.le_of_ble_eq_true rfl)
  rw [lg_entry_eq]
  generalize (lg_sl ([.ref h0]) ++ List.replicate (1 - (lg_sl ([.ref h0])).length) Slot.unset).toArray = ls at hl ⊢
  have hl : lv_has ls 1 [(0, .ref h0)] := hl
  refine lv_aload_n hx hb dX10_init_0 rfl (lv_at hl 0 rfl) ?_
  refine W.objInit hx hb hown (hts (.methodLink RX10 1 objectInit) (List.mem_of_getElem? (i := 1) rfl)) (hts (.instanceMethod objectInit) (List.mem_of_getElem? (i := 2) rfl)) (hts (.code objectInit ⟨#[0xb1]⟩ 1 none) (List.mem_of_getElem? (i := 3) rfl)) rfl (by rw [hml]; exact hl.1) rfl dX10_init_1 (Nat.le_of_ble_eq_true rfl) (Nat.le_of_ble_eq_true rfl) ?_
  refine W.eq (g2 := F0 m 4 ls []) rfl ?_
  exact W.vret hx hb hr (fun t ht hW => ⟨⟨(fun j => ([] : List Nat).getD j 0, fun j => ([] : List ClassId).getD j m.cls), rfl, trivial, by rw [ht]; exact hP, va_K.moved hW.alike hK, hD⟩, hS.F ht⟩) hS.2.2 dX10_init_4
set_option maxHeartbeats 4000000 in
set_option maxRecDepth 100000 in
theorem cI_walk1 (l : Launch) (D : va_G) (h0 sz : Nat) : Met l yX10_init wsX10_init { frames := 1, cells := 0, slots := 0, locals := 20 } (va_Pc [.ref h0] (e_Pre ciE D [] (fun _ : Unit => [(h0, .inr (1, [.int 0, .null, .null, .int 0, .int 0, .int 0]))]) () sz)) (va_Qv (fun _ : (Nat → Nat) × (Nat → ClassId) => True) (fun u t => va_P D vwCl [(h0, .inr (1, [.int 0, .null, .null, .int 0, .int 0, .int 0]))] t.heap ∧ va_K D vwCl [] t ∧ va_D (va_A [(h0, .inr (1, [.int 0, .null, .null, .int 0, .int 0, .int 0]))] sz) [(h0, .inr (1, [.int 0, .null, .null, .int 0, .int 0, .int 0]))]) (va_A [(h0, .inr (1, [.int 0, .null, .null, .int 0, .int 0, .int 0]))] sz)) 0 0 (va_A [(h0, .inr (1, [.int 0, .null, .null, .int 0, .int 0, .int 0]))] sz) := by
  refine Met.ofW (cc := cX10_init) (maxL := 1) (ret := none) (by decide) rfl ?_
  intro p e s m args below meth c s₁ B hml hv
  obtain ⟨rfl, hsz, hP, hK, hD0, hs⟩ := hv
  have hx := B.exec
  have hb := B.bytes
  have hr := B.returns
  have hlocks := B.notSynchronized
  have hts := atoms_spec (ws := wsX10_init) B.pre
  have hown : s.vm.findClass RX10 = some m.cls := findClass_of_methodNamed B.named
  have hnin : meth.name = "<init>" := (name_of_methodNamed B.named B.method).1
  subst hsz
  have hD := hD0.self (sz := s.heap.size)
  have hP : va_P D vwCl [(h0, .inr (1, [.int 0, .null, .null, .int 0, .int 0, .int 0]))] s.heap := hP
  have hD : va_D (va_A [(h0, .inr (1, [.int 0, .null, .null, .int 0, .int 0, .int 0]))] s.heap.size) [(h0, .inr (1, [.int 0, .null, .null, .int 0, .int 0, .int 0]))] := hD
  have hs : ciE (va_A [(h0, .inr (1, [.int 0, .null, .null, .int 0, .int 0, .int 0]))] s.heap.size) s := hs
  generalize hAe : va_A [(h0, .inr (1, [.int 0, .null, .null, .int 0, .int 0, .int 0]))] s.heap.size = A at hD hs ⊢
  have hA : ∀ q : Nat, s.heap.size ≤ q → A q := fun q h => by rw [← hAe]; exact Or.inr h
  have hS : va_S A s.heap s.heap [] := va_S.rf
  have hl := lv_entry ([.ref h0]) (n := 1) (Nat.le_of_ble_eq_true rfl)
  rw [lg_entry_eq]
  generalize (lg_sl ([.ref h0]) ++ List.replicate (1 - (lg_sl ([.ref h0])).length) Slot.unset).toArray = ls at hl ⊢
  have hl : lv_has ls 1 [(0, .ref h0)] := hl
  refine lv_aload_n hx hb dX10_init_0 rfl (lv_at hl 0 rfl) ?_
  refine W.objInit hx hb hown (hts (.methodLink RX10 1 objectInit) (List.mem_of_getElem? (i := 1) rfl)) (hts (.instanceMethod objectInit) (List.mem_of_getElem? (i := 2) rfl)) (hts (.code objectInit ⟨#[0xb1]⟩ 1 none) (List.mem_of_getElem? (i := 3) rfl)) rfl (by rw [hml]; exact hl.1) rfl dX10_init_1 (Nat.le_of_ble_eq_true rfl) (Nat.le_of_ble_eq_true rfl) ?_
  refine W.eq (g2 := F0 m 4 ls []) rfl ?_
  exact W.vret hx hb hr (fun t ht hW => ⟨⟨(fun j => ([] : List Nat).getD j 0, fun j => ([] : List ClassId).getD j m.cls), rfl, trivial, by rw [ht]; exact hP, va_K.moved hW.alike hK, hD⟩, hS.F ht⟩) hS.2.2 dX10_init_4
set_option maxHeartbeats 4000000 in
set_option maxRecDepth 100000 in
theorem cI_5 (l : Launch) (D : va_G) (h0 r1 sz : Nat) : Met l yX5_init wsX5_init { frames := 2, cells := 0, slots := 0, locals := 40 } (va_Pc [.ref h0, .ref r1] (e_Pre ciE D [] (fun _ : Unit => [(h0, .inr (5, [.null, .int 0]))]) () sz)) (va_Qv (fun _ : (Nat → Nat) × (Nat → ClassId) => True) (fun u t => va_P D vwCl [(h0, .inr (5, [.ref r1, .int 0]))] t.heap ∧ va_K D vwCl [] t ∧ va_D (va_A [(h0, .inr (5, [.null, .int 0]))] sz) [(h0, .inr (5, [.ref r1, .int 0]))]) (va_A [(h0, .inr (5, [.null, .int 0]))] sz)) 0 0 (va_A [(h0, .inr (5, [.null, .int 0]))] sz) := by
  refine Met.ofW (cc := cX5_init) (maxL := 2) (ret := none) (by decide) rfl ?_
  intro p e s m args below meth c s₁ B hml hv
  obtain ⟨rfl, hsz, hP, hK, hD0, hs⟩ := hv
  have hx := B.exec
  have hb := B.bytes
  have hr := B.returns
  have hlocks := B.notSynchronized
  have hts := atoms_spec (ws := wsX5_init) B.pre
  have hown : s.vm.findClass RX5 = some m.cls := findClass_of_methodNamed B.named
  have hnin : meth.name = "<init>" := (name_of_methodNamed B.named B.method).1
  subst hsz
  have hD := hD0.self (sz := s.heap.size)
  have hP : va_P D vwCl [(h0, .inr (5, [.null, .int 0]))] s.heap := hP
  have hD : va_D (va_A [(h0, .inr (5, [.null, .int 0]))] s.heap.size) [(h0, .inr (5, [.null, .int 0]))] := hD
  have hs : ciE (va_A [(h0, .inr (5, [.null, .int 0]))] s.heap.size) s := hs
  generalize hAe : va_A [(h0, .inr (5, [.null, .int 0]))] s.heap.size = A at hD hs ⊢
  have hA : ∀ q : Nat, s.heap.size ≤ q → A q := fun q h => by rw [← hAe]; exact Or.inr h
  have hS : va_S A s.heap s.heap [] := va_S.rf
  have hin5 : ∀ w ∈ wsX50, w ∈ wsX5_init := fun _ h => List.mem_cons_of_mem _ (List.mem_append_right _ h)
  have hl := lv_entry ([.ref h0, .ref r1]) (n := 2) (Nat.le_of_ble_eq_true rfl)
  rw [lg_entry_eq]
  generalize (lg_sl ([.ref h0, .ref r1]) ++ List.replicate (2 - (lg_sl ([.ref h0, .ref r1])).length) Slot.unset).toArray = ls at hl ⊢
  have hl : lv_has ls 2 [(0, .ref h0), (1, .ref r1)] := hl
  refine lv_aload_n hx hb dX5_init_0 rfl (lv_at hl 0 rfl) ?_
  have hPc := hP.sub (ws' := [(h0, .inr (5, [.null, .int 0]))]) [0] rfl
  have hDc := hD.sub (ws' := [(h0, .inr (5, [.null, .int 0]))]) [0] (by decide) rfl
  have hKc := hK.sub (tys' := []) [] rfl
  have hFc := va_free (wc := [(h0, .inr (5, [.null, .int 0]))]) hD hS hA [0] rfl
  refine va_callv (va_runIN (As := []) (rest := []) ⟨hx, hb, hml, hown, hts⟩ (cI_walk5 l D h0 s.heap.size) ⟨va_cnB 0 hts gX5_init_X10_init_n3 rfl rfl rfl hs.1.1.2.2.2.2.1 (hts (.initialized RX10) (List.mem_of_getElem? (i := 4) rfl)) (by decide +kernel) ⟨Nat.le_of_ble_eq_true rfl, Nat.le_of_ble_eq_true rfl⟩, rfl, hts (.instanceMethod yX10_init) (List.mem_of_getElem? (i := 3) rfl)⟩ ⟨e_blind ciE_stable, e_here (wf := fun _ : Unit => [(h0, .inr (5, [.null, .int 0]))]) (S := ()) ciE_stable hs hKc hPc hDc hS hA⟩ rfl rfl hl.1 rfl (lv_room (Nat.le_of_ble_eq_true rfl)) dX5_init_1 ⟨Nat.le_of_ble_eq_true rfl, Nat.le_of_ble_eq_true rfl⟩) hS (fun q _ h => hFc q h) hFc (fun u1 t H1 locs ht hvm _ hB hz1 hk1 hS => ?_)
  obtain ⟨hP1, hK1, hD1⟩ := hB
  rw [ht] at hP1
  have hK1 := va_K.moved hvm.symm hK1
  obtain ⟨hP, hD⟩ := va_join (wr := []) (w1 := [(h0, .inr (5, [.null, .int 0]))]) hP hD [0] [] rfl rfl (by decide) (by decide) hk1 hFc hP1 hD1
  have hK := hK.app hK1
  clear hP1 hK1 hD1 hPc hDc hKc hFc
  generalize H1 = H at hP hS ⊢
  refine W.widen (k := 0) (n := 0) (Nat.le_of_ble_eq_true rfl) (Nat.le_of_ble_eq_true rfl) ?_
  have hP : va_P D vwCl [(h0, .inr (5, [.null, .int 0]))] H := hP
  have hD : va_D A [(h0, .inr (5, [.null, .int 0]))] := hD
  have hK : va_K D vwCl [] s := hK
  refine lv_aload_n hx hb dX5_init_4 rfl (lv_at hl 0 rfl) ?_
  refine lv_iconst (v := 0) hx hb dX5_init_5 (by decide) ?_
  refine va_put (D := D) (ci := 5) (v := .int 0) (ty := .boolean) (C := RX5) (T := TX5) (N := 2) hx hb hts hin5 tyX5 tyX5_ok nmX5 hown hK hP hD hS 0 rfl rfl 1 (by decide) (hts (.fieldLink RX5 9 "ClownsMourn$MoodWalk" "toGladness" "Z") (List.mem_of_getElem? (i := 1) rfl)) (fun _ h9 => h9) rfl (tyX5_ok 1 (by decide)) (by decide +kernel) (by decide +kernel) (Nat.le_of_ble_eq_true rfl) dX5_init_6 (fun H locs hP hD hS => ?_)
  have hP : va_P D vwCl [(h0, .inr (5, [.null, .int 0]))] H := hP
  have hD : va_D A [(h0, .inr (5, [.null, .int 0]))] := hD
  have hK : va_K D vwCl [] s := hK
  refine lv_aload_n hx hb dX5_init_9 rfl (lv_at hl 0 rfl) ?_
  refine lv_aload_n hx hb dX5_init_10 rfl (lv_at hl 1 rfl) ?_
  refine va_putF (D := D) (ci := 5) (v := .ref r1) (ty := .object "ClownsMourn$City") (C := RX5) (T := TX5) (N := 2) hx hb hts hin5 tyX5 tyX5_ok nmX5 hown hK hP hD hS 0 rfl rfl 0 (by decide) (hts (.fieldLink RX5 15 "ClownsMourn$MoodWalk" "city" "LClownsMourn$City;") (List.mem_of_getElem? (i := 2) rfl)) (fun _ h9 => h9) rfl hnin rfl (tyX5_ok 0 (by decide)) rfl rfl (Nat.le_of_ble_eq_true rfl) dX5_init_11 (fun H locs hP hD hS => ?_)
  have hP : va_P D vwCl [(h0, .inr (5, [.ref r1, .int 0]))] H := hP
  have hD : va_D A [(h0, .inr (5, [.ref r1, .int 0]))] := hD
  have hK : va_K D vwCl [] s := hK
  exact W.vret hx hb hr (fun t ht hW => ⟨⟨(fun j => ([] : List Nat).getD j 0, fun j => ([] : List ClassId).getD j m.cls), rfl, trivial, by rw [ht]; exact hP, va_K.moved hW.alike hK, hD⟩, hS.F ht⟩) hS.2.2 dX5_init_14
set_option maxHeartbeats 4000000 in
set_option maxRecDepth 100000 in
theorem cI_1 (l : Launch) (D : va_G) (h0 r1 r2 sz : Nat) : Met l yX1_init wsX1_init { frames := 2, cells := 0, slots := 0, locals := 40 } (va_Pc [.ref h0, .ref r1, .ref r2] (e_Pre ciE D [] (fun _ : Unit => [(h0, .inr (1, [.int 0, .null, .null, .int 0, .int 0, .int 0]))]) () sz)) (va_Qv (fun _ : (Nat → Nat) × (Nat → ClassId) => True) (fun u t => va_P D vwCl [(h0, .inr (1, [.int 0, .ref r1, .ref r2, .int 0, .int 0, .int 0]))] t.heap ∧ va_K D vwCl [] t ∧ va_D (va_A [(h0, .inr (1, [.int 0, .null, .null, .int 0, .int 0, .int 0]))] sz) [(h0, .inr (1, [.int 0, .ref r1, .ref r2, .int 0, .int 0, .int 0]))]) (va_A [(h0, .inr (1, [.int 0, .null, .null, .int 0, .int 0, .int 0]))] sz)) 0 0 (va_A [(h0, .inr (1, [.int 0, .null, .null, .int 0, .int 0, .int 0]))] sz) := by
  refine Met.ofW (cc := cX1_init) (maxL := 3) (ret := none) (by decide) rfl ?_
  intro p e s m args below meth c s₁ B hml hv
  obtain ⟨rfl, hsz, hP, hK, hD0, hs⟩ := hv
  have hx := B.exec
  have hb := B.bytes
  have hr := B.returns
  have hlocks := B.notSynchronized
  have hts := atoms_spec (ws := wsX1_init) B.pre
  have hown : s.vm.findClass RX1 = some m.cls := findClass_of_methodNamed B.named
  have hnin : meth.name = "<init>" := (name_of_methodNamed B.named B.method).1
  subst hsz
  have hD := hD0.self (sz := s.heap.size)
  have hP : va_P D vwCl [(h0, .inr (1, [.int 0, .null, .null, .int 0, .int 0, .int 0]))] s.heap := hP
  have hD : va_D (va_A [(h0, .inr (1, [.int 0, .null, .null, .int 0, .int 0, .int 0]))] s.heap.size) [(h0, .inr (1, [.int 0, .null, .null, .int 0, .int 0, .int 0]))] := hD
  have hs : ciE (va_A [(h0, .inr (1, [.int 0, .null, .null, .int 0, .int 0, .int 0]))] s.heap.size) s := hs
  generalize hAe : va_A [(h0, .inr (1, [.int 0, .null, .null, .int 0, .int 0, .int 0]))] s.heap.size = A at hD hs ⊢
  have hA : ∀ q : Nat, s.heap.size ≤ q → A q := fun q h => by rw [← hAe]; exact Or.inr h
  have hS : va_S A s.heap s.heap [] := va_S.rf
  have hin1 : ∀ w ∈ wsX10, w ∈ wsX1_init := fun _ h => List.mem_cons_of_mem _ (List.mem_append_right _ h)
  have hl := lv_entry ([.ref h0, .ref r1, .ref r2]) (n := 3) (Nat.le_of_ble_eq_true rfl)
  rw [lg_entry_eq]
  generalize (lg_sl ([.ref h0, .ref r1, .ref r2]) ++ List.replicate (3 - (lg_sl ([.ref h0, .ref r1, .ref r2])).length) Slot.unset).toArray = ls at hl ⊢
  have hl : lv_has ls 3 [(0, .ref h0), (1, .ref r1), (2, .ref r2)] := hl
  refine lv_aload_n hx hb dX1_init_0 rfl (lv_at hl 0 rfl) ?_
  have hPc := hP.sub (ws' := [(h0, .inr (1, [.int 0, .null, .null, .int 0, .int 0, .int 0]))]) [0] rfl
  have hDc := hD.sub (ws' := [(h0, .inr (1, [.int 0, .null, .null, .int 0, .int 0, .int 0]))]) [0] (by decide) rfl
  have hKc := hK.sub (tys' := []) [] rfl
  have hFc := va_free (wc := [(h0, .inr (1, [.int 0, .null, .null, .int 0, .int 0, .int 0]))]) hD hS hA [0] rfl
  refine va_callv (va_runIN (As := []) (rest := []) ⟨hx, hb, hml, hown, hts⟩ (cI_walk1 l D h0 s.heap.size) ⟨va_cnB 0 hts gX1_init_X10_init_n1 rfl rfl rfl hs.1.1.2.2.2.2.2.1 (hts (.initialized RX10) (List.mem_of_getElem? (i := 8) rfl)) (by decide +kernel) ⟨Nat.le_of_ble_eq_true rfl, Nat.le_of_ble_eq_true rfl⟩, rfl, hts (.instanceMethod yX10_init) (List.mem_of_getElem? (i := 7) rfl)⟩ ⟨e_blind ciE_stable, e_here (wf := fun _ : Unit => [(h0, .inr (1, [.int 0, .null, .null, .int 0, .int 0, .int 0]))]) (S := ()) ciE_stable hs hKc hPc hDc hS hA⟩ rfl rfl hl.1 rfl (lv_room (Nat.le_of_ble_eq_true rfl)) dX1_init_1 ⟨Nat.le_of_ble_eq_true rfl, Nat.le_of_ble_eq_true rfl⟩) hS (fun q _ h => hFc q h) hFc (fun u1 t H1 locs ht hvm _ hB hz1 hk1 hS => ?_)
  obtain ⟨hP1, hK1, hD1⟩ := hB
  rw [ht] at hP1
  have hK1 := va_K.moved hvm.symm hK1
  obtain ⟨hP, hD⟩ := va_join (wr := []) (w1 := [(h0, .inr (1, [.int 0, .null, .null, .int 0, .int 0, .int 0]))]) hP hD [0] [] rfl rfl (by decide) (by decide) hk1 hFc hP1 hD1
  have hK := hK.app hK1
  clear hP1 hK1 hD1 hPc hDc hKc hFc
  generalize H1 = H at hP hS ⊢
  refine W.widen (k := 0) (n := 0) (Nat.le_of_ble_eq_true rfl) (Nat.le_of_ble_eq_true rfl) ?_
  have hP : va_P D vwCl [(h0, .inr (1, [.int 0, .null, .null, .int 0, .int 0, .int 0]))] H := hP
  have hD : va_D A [(h0, .inr (1, [.int 0, .null, .null, .int 0, .int 0, .int 0]))] := hD
  have hK : va_K D vwCl [] s := hK
  refine lv_aload_n hx hb dX1_init_4 rfl (lv_at hl 0 rfl) ?_
  refine lv_iconst (v := 0) hx hb dX1_init_5 (by decide) ?_
  refine va_put (D := D) (ci := 1) (v := .int 0) (ty := .int) (C := RX1) (T := TX1) (N := 6) hx hb hts hin1 tyX1 tyX1_ok nmX1 hown hK hP hD hS 0 rfl rfl 0 (by decide) (hts (.fieldLink RX1 7 "ClownsMourn$ComfortWalk" "tired" "I") (List.mem_of_getElem? (i := 1) rfl)) (fun _ h9 => h9) rfl (tyX1_ok 0 (by decide)) rfl rfl (Nat.le_of_ble_eq_true rfl) dX1_init_6 (fun H locs hP hD hS => ?_)
  have hP : va_P D vwCl [(h0, .inr (1, [.int 0, .null, .null, .int 0, .int 0, .int 0]))] H := hP
  have hD : va_D A [(h0, .inr (1, [.int 0, .null, .null, .int 0, .int 0, .int 0]))] := hD
  have hK : va_K D vwCl [] s := hK
  refine lv_aload_n hx hb dX1_init_9 rfl (lv_at hl 0 rfl) ?_
  refine lv_iconst (v := 0) hx hb dX1_init_10 (by decide) ?_
  refine va_put (D := D) (ci := 1) (v := .int 0) (ty := .int) (C := RX1) (T := TX1) (N := 6) hx hb hts hin1 tyX1 tyX1_ok nmX1 hown hK hP hD hS 0 rfl rfl 3 (by decide) (hts (.fieldLink RX1 13 "ClownsMourn$ComfortWalk" "clown" "I") (List.mem_of_getElem? (i := 2) rfl)) (fun _ h9 => h9) rfl (tyX1_ok 3 (by decide)) rfl rfl (Nat.le_of_ble_eq_true rfl) dX1_init_11 (fun H locs hP hD hS => ?_)
  have hP : va_P D vwCl [(h0, .inr (1, [.int 0, .null, .null, .int 0, .int 0, .int 0]))] H := hP
  have hD : va_D A [(h0, .inr (1, [.int 0, .null, .null, .int 0, .int 0, .int 0]))] := hD
  have hK : va_K D vwCl [] s := hK
  refine lv_aload_n hx hb dX1_init_14 rfl (lv_at hl 0 rfl) ?_
  refine lv_iconst (v := 0) hx hb dX1_init_15 (by decide) ?_
  refine va_put (D := D) (ci := 1) (v := .int 0) (ty := .int) (C := RX1) (T := TX1) (N := 6) hx hb hts hin1 tyX1 tyX1_ok nmX1 hown hK hP hD hS 0 rfl rfl 4 (by decide) (hts (.fieldLink RX1 16 "ClownsMourn$ComfortWalk" "house" "I") (List.mem_of_getElem? (i := 3) rfl)) (fun _ h9 => h9) rfl (tyX1_ok 4 (by decide)) rfl rfl (Nat.le_of_ble_eq_true rfl) dX1_init_16 (fun H locs hP hD hS => ?_)
  have hP : va_P D vwCl [(h0, .inr (1, [.int 0, .null, .null, .int 0, .int 0, .int 0]))] H := hP
  have hD : va_D A [(h0, .inr (1, [.int 0, .null, .null, .int 0, .int 0, .int 0]))] := hD
  have hK : va_K D vwCl [] s := hK
  refine lv_aload_n hx hb dX1_init_19 rfl (lv_at hl 0 rfl) ?_
  refine lv_iconst (v := 0) hx hb dX1_init_20 (by decide) ?_
  refine va_put (D := D) (ci := 1) (v := .int 0) (ty := .int) (C := RX1) (T := TX1) (N := 6) hx hb hts hin1 tyX1 tyX1_ok nmX1 hown hK hP hD hS 0 rfl rfl 5 (by decide) (hts (.fieldLink RX1 19 "ClownsMourn$ComfortWalk" "enough" "I") (List.mem_of_getElem? (i := 4) rfl)) (fun _ h9 => h9) rfl (tyX1_ok 5 (by decide)) rfl rfl (Nat.le_of_ble_eq_true rfl) dX1_init_21 (fun H locs hP hD hS => ?_)
  have hP : va_P D vwCl [(h0, .inr (1, [.int 0, .null, .null, .int 0, .int 0, .int 0]))] H := hP
  have hD : va_D A [(h0, .inr (1, [.int 0, .null, .null, .int 0, .int 0, .int 0]))] := hD
  have hK : va_K D vwCl [] s := hK
  refine lv_aload_n hx hb dX1_init_24 rfl (lv_at hl 0 rfl) ?_
  refine lv_aload_n hx hb dX1_init_25 rfl (lv_at hl 1 rfl) ?_
  refine va_putF (D := D) (ci := 1) (v := .ref r1) (ty := .object "ClownsMourn$City") (C := RX1) (T := TX1) (N := 6) hx hb hts hin1 tyX1 tyX1_ok nmX1 hown hK hP hD hS 0 rfl rfl 1 (by decide) (hts (.fieldLink RX1 22 "ClownsMourn$ComfortWalk" "city" "LClownsMourn$City;") (List.mem_of_getElem? (i := 5) rfl)) (fun _ h9 => h9) rfl hnin rfl (tyX1_ok 1 (by decide)) rfl rfl (Nat.le_of_ble_eq_true rfl) dX1_init_26 (fun H locs hP hD hS => ?_)
  have hP : va_P D vwCl [(h0, .inr (1, [.int 0, .ref r1, .null, .int 0, .int 0, .int 0]))] H := hP
  have hD : va_D A [(h0, .inr (1, [.int 0, .ref r1, .null, .int 0, .int 0, .int 0]))] := hD
  have hK : va_K D vwCl [] s := hK
  refine lv_aload_n hx hb dX1_init_29 rfl (lv_at hl 0 rfl) ?_
  refine lv_aload_n hx hb dX1_init_30 rfl (lv_at hl 2 rfl) ?_
  refine va_putF (D := D) (ci := 1) (v := .ref r2) (ty := .object "ClownsMourn$Laws") (C := RX1) (T := TX1) (N := 6) hx hb hts hin1 tyX1 tyX1_ok nmX1 hown hK hP hD hS 0 rfl rfl 2 (by decide) (hts (.fieldLink RX1 26 "ClownsMourn$ComfortWalk" "laws" "LClownsMourn$Laws;") (List.mem_of_getElem? (i := 6) rfl)) (fun _ h9 => h9) rfl hnin rfl (tyX1_ok 2 (by decide)) rfl rfl (Nat.le_of_ble_eq_true rfl) dX1_init_31 (fun H locs hP hD hS => ?_)
  have hP : va_P D vwCl [(h0, .inr (1, [.int 0, .ref r1, .ref r2, .int 0, .int 0, .int 0]))] H := hP
  have hD : va_D A [(h0, .inr (1, [.int 0, .ref r1, .ref r2, .int 0, .int 0, .int 0]))] := hD
  have hK : va_K D vwCl [] s := hK
  exact W.vret hx hb hr (fun t ht hW => ⟨⟨(fun j => ([] : List Nat).getD j 0, fun j => ([] : List ClassId).getD j m.cls), rfl, trivial, by rw [ht]; exact hP, va_K.moved hW.alike hK, hD⟩, hS.F ht⟩) hS.2.2 dX1_init_34
set_option maxHeartbeats 4000000 in
set_option maxRecDepth 100000 in
theorem cI_4 (l : Launch) (D : va_G) (h0 r1 sz : Nat) : Met l yX4_init wsX4_init { frames := 1, cells := 2, slots := 10, locals := 20 } (va_Pc [.ref h0, .ref r1] (e_Pre ciE D [] (fun _ : Unit => [(h0, .inr (4, [.int 0, .null, .null, .null]))]) () sz)) (va_Qv (fun _ : (Nat → Nat) × (Nat → ClassId) => True) (fun u t => va_P D vwCl [(h0, .inr (4, [.int (-1), .ref (u.1 0), .ref r1, .ref (u.1 1)])), ((u.1 0), .inl ((u.2 0), 5, .inl (fun _ => 0))), ((u.1 1), .inl ((u.2 1), 5, .inl (fun _ => 0)))] t.heap ∧ va_K D vwCl [((u.2 0), .int), ((u.2 1), .int)] t ∧ va_D (va_A [(h0, .inr (4, [.int 0, .null, .null, .null]))] sz) [(h0, .inr (4, [.int (-1), .ref (u.1 0), .ref r1, .ref (u.1 1)])), ((u.1 0), .inl ((u.2 0), 5, .inl (fun _ => 0))), ((u.1 1), .inl ((u.2 1), 5, .inl (fun _ => 0)))]) (va_A [(h0, .inr (4, [.int 0, .null, .null, .null]))] sz)) 2 10 (va_A [(h0, .inr (4, [.int 0, .null, .null, .null]))] sz) := by
  refine Met.ofW (cc := cX4_init) (maxL := 2) (ret := none) (by decide) rfl ?_
  intro p e s m args below meth c s₁ B hml hv
  obtain ⟨rfl, hsz, hP, hK, hD0, hs⟩ := hv
  have hx := B.exec
  have hb := B.bytes
  have hr := B.returns
  have hlocks := B.notSynchronized
  have hts := atoms_spec (ws := wsX4_init) B.pre
  have hown : s.vm.findClass RX4 = some m.cls := findClass_of_methodNamed B.named
  have hnin : meth.name = "<init>" := (name_of_methodNamed B.named B.method).1
  subst hsz
  have hD := hD0.self (sz := s.heap.size)
  have hP : va_P D vwCl [(h0, .inr (4, [.int 0, .null, .null, .null]))] s.heap := hP
  have hD : va_D (va_A [(h0, .inr (4, [.int 0, .null, .null, .null]))] s.heap.size) [(h0, .inr (4, [.int 0, .null, .null, .null]))] := hD
  have hs : ciE (va_A [(h0, .inr (4, [.int 0, .null, .null, .null]))] s.heap.size) s := hs
  generalize hAe : va_A [(h0, .inr (4, [.int 0, .null, .null, .null]))] s.heap.size = A at hD hs ⊢
  have hA : ∀ q : Nat, s.heap.size ≤ q → A q := fun q h => by rw [← hAe]; exact Or.inr h
  have hS : va_S A s.heap s.heap [] := va_S.rf
  have hin4 : ∀ w ∈ wsX40, w ∈ wsX4_init := fun _ h => List.mem_cons_of_mem _ (List.mem_append_right _ h)
  have hl := lv_entry ([.ref h0, .ref r1]) (n := 2) (Nat.le_of_ble_eq_true rfl)
  rw [lg_entry_eq]
  generalize (lg_sl ([.ref h0, .ref r1]) ++ List.replicate (2 - (lg_sl ([.ref h0, .ref r1])).length) Slot.unset).toArray = ls at hl ⊢
  have hl : lv_has ls 2 [(0, .ref h0), (1, .ref r1)] := hl
  refine lv_aload_n hx hb dX4_init_0 rfl (lv_at hl 0 rfl) ?_
  refine W.objInit hx hb hown (hts (.methodLink RX4 3 objectInit) (List.mem_of_getElem? (i := 1) rfl)) (hts (.instanceMethod objectInit) (List.mem_of_getElem? (i := 2) rfl)) (hts (.code objectInit ⟨#[0xb1]⟩ 1 none) (List.mem_of_getElem? (i := 3) rfl)) rfl (by rw [hml]; exact hl.1) rfl dX4_init_1 (Nat.le_of_ble_eq_true rfl) (Nat.le_of_ble_eq_true rfl) ?_
  refine W.eq (g2 := F0 m 4 ls []) rfl ?_
  refine lv_aload_n hx hb dX4_init_4 rfl (lv_at hl 0 rfl) ?_
  refine lv_iconst (v := (-1)) hx hb dX4_init_5 (by decide) ?_
  refine va_put (D := D) (ci := 4) (v := .int (-1)) (ty := .int) (C := RX4) (T := TX4) (N := 4) hx hb hts hin4 tyX4 tyX4_ok nmX4 hown hK hP hD hS 0 rfl rfl 0 (by decide) (hts (.fieldLink RX4 9 "ClownsMourn$Match" "least" "I") (List.mem_of_getElem? (i := 4) rfl)) (fun _ h9 => h9) rfl (tyX4_ok 0 (by decide)) rfl rfl (Nat.le_of_ble_eq_true rfl) dX4_init_6 (fun H locs hP hD hS => ?_)
  have hP : va_P D vwCl [(h0, .inr (4, [.int (-1), .null, .null, .null]))] H := hP
  have hD : va_D A [(h0, .inr (4, [.int (-1), .null, .null, .null]))] := hD
  have hK : va_K D vwCl [] s := hK
  refine lv_aload_n hx hb dX4_init_9 rfl (lv_at hl 0 rfl) ?_
  refine lv_iconst (v := 5) hx hb dX4_init_10 (by decide) ?_
  refine va_newa (atype := .int) (ty := .int) (N' := 5) (a0 := (5, .inl (fun _ => 0))) hx hb (hts (.arrayClass .int) (List.mem_of_getElem? (i := 5) rfl)) rfl hK hP hD hS hA (fun _ => rfl) (by decide +kernel) (by decide +kernel) (Nat.le_of_ble_eq_true rfl) (Nat.le_of_ble_eq_true rfl) (Nat.le_of_ble_eq_true rfl) dX4_init_11 (fun q1 c2 H hK hP hD hS => ?_)
  refine W.widen (k := 1) (n := 5) (Nat.le_of_ble_eq_true rfl) (Nat.le_of_ble_eq_true rfl) ?_
  have hP : va_P D vwCl [(h0, .inr (4, [.int (-1), .null, .null, .null])), (q1, .inl (c2, 5, .inl (fun _ => 0)))] H := hP
  have hD : va_D A [(h0, .inr (4, [.int (-1), .null, .null, .null])), (q1, .inl (c2, 5, .inl (fun _ => 0)))] := hD
  have hK : va_K D vwCl [(c2, .int)] s := hK
  refine va_putF (D := D) (ci := 4) (v := .ref q1) (ty := .array .int) (C := RX4) (T := TX4) (N := 4) hx hb hts hin4 tyX4 tyX4_ok nmX4 hown hK hP hD hS 0 rfl rfl 1 (by decide) (hts (.fieldLink RX4 15 "ClownsMourn$Match" "best" "[I") (List.mem_of_getElem? (i := 6) rfl)) (fun _ h9 => h9) rfl hnin rfl (tyX4_ok 1 (by decide)) rfl rfl (Nat.le_of_ble_eq_true rfl) dX4_init_13 (fun H locs hP hD hS => ?_)
  have hP : va_P D vwCl [(h0, .inr (4, [.int (-1), .ref q1, .null, .null])), (q1, .inl (c2, 5, .inl (fun _ => 0)))] H := hP
  have hD : va_D A [(h0, .inr (4, [.int (-1), .ref q1, .null, .null])), (q1, .inl (c2, 5, .inl (fun _ => 0)))] := hD
  have hK : va_K D vwCl [(c2, .int)] s := hK
  refine lv_aload_n hx hb dX4_init_16 rfl (lv_at hl 0 rfl) ?_
  refine lv_iconst (v := 5) hx hb dX4_init_17 (by decide) ?_
  refine va_newa (atype := .int) (ty := .int) (N' := 5) (a0 := (5, .inl (fun _ => 0))) hx hb (hts (.arrayClass .int) (List.mem_of_getElem? (i := 5) rfl)) rfl hK hP hD hS hA (fun _ => rfl) (by decide +kernel) (by decide +kernel) (Nat.le_of_ble_eq_true rfl) (Nat.le_of_ble_eq_true rfl) (Nat.le_of_ble_eq_true rfl) dX4_init_18 (fun q3 c4 H hK hP hD hS => ?_)
  refine W.widen (k := 2) (n := 10) (Nat.le_of_ble_eq_true rfl) (Nat.le_of_ble_eq_true rfl) ?_
  have hP : va_P D vwCl [(h0, .inr (4, [.int (-1), .ref q1, .null, .null])), (q1, .inl (c2, 5, .inl (fun _ => 0))), (q3, .inl (c4, 5, .inl (fun _ => 0)))] H := hP
  have hD : va_D A [(h0, .inr (4, [.int (-1), .ref q1, .null, .null])), (q1, .inl (c2, 5, .inl (fun _ => 0))), (q3, .inl (c4, 5, .inl (fun _ => 0)))] := hD
  have hK : va_K D vwCl [(c2, .int), (c4, .int)] s := hK
  refine va_putF (D := D) (ci := 4) (v := .ref q3) (ty := .array .int) (C := RX4) (T := TX4) (N := 4) hx hb hts hin4 tyX4 tyX4_ok nmX4 hown hK hP hD hS 0 rfl rfl 3 (by decide) (hts (.fieldLink RX4 19 "ClownsMourn$Match" "goes" "[I") (List.mem_of_getElem? (i := 7) rfl)) (fun _ h9 => h9) rfl hnin rfl (tyX4_ok 3 (by decide)) rfl rfl (Nat.le_of_ble_eq_true rfl) dX4_init_20 (fun H locs hP hD hS => ?_)
  have hP : va_P D vwCl [(h0, .inr (4, [.int (-1), .ref q1, .null, .ref q3])), (q1, .inl (c2, 5, .inl (fun _ => 0))), (q3, .inl (c4, 5, .inl (fun _ => 0)))] H := hP
  have hD : va_D A [(h0, .inr (4, [.int (-1), .ref q1, .null, .ref q3])), (q1, .inl (c2, 5, .inl (fun _ => 0))), (q3, .inl (c4, 5, .inl (fun _ => 0)))] := hD
  have hK : va_K D vwCl [(c2, .int), (c4, .int)] s := hK
  refine lv_aload_n hx hb dX4_init_23 rfl (lv_at hl 0 rfl) ?_
  refine lv_aload_n hx hb dX4_init_24 rfl (lv_at hl 1 rfl) ?_
  refine va_putF (D := D) (ci := 4) (v := .ref r1) (ty := .object "ClownsMourn$City") (C := RX4) (T := TX4) (N := 4) hx hb hts hin4 tyX4 tyX4_ok nmX4 hown hK hP hD hS 0 rfl rfl 2 (by decide) (hts (.fieldLink RX4 22 "ClownsMourn$Match" "city" "LClownsMourn$City;") (List.mem_of_getElem? (i := 8) rfl)) (fun _ h9 => h9) rfl hnin rfl (tyX4_ok 2 (by decide)) rfl rfl (Nat.le_of_ble_eq_true rfl) dX4_init_25 (fun H locs hP hD hS => ?_)
  have hP : va_P D vwCl [(h0, .inr (4, [.int (-1), .ref q1, .ref r1, .ref q3])), (q1, .inl (c2, 5, .inl (fun _ => 0))), (q3, .inl (c4, 5, .inl (fun _ => 0)))] H := hP
  have hD : va_D A [(h0, .inr (4, [.int (-1), .ref q1, .ref r1, .ref q3])), (q1, .inl (c2, 5, .inl (fun _ => 0))), (q3, .inl (c4, 5, .inl (fun _ => 0)))] := hD
  have hK : va_K D vwCl [(c2, .int), (c4, .int)] s := hK
  exact W.vret hx hb hr (fun t ht hW => ⟨⟨(fun j => ([q1, q3] : List Nat).getD j 0, fun j => ([c2, c4] : List ClassId).getD j m.cls), rfl, trivial, by rw [ht]; exact hP, va_K.moved hW.alike hK, hD⟩, hS.F ht⟩) hS.2.2 dX4_init_28
