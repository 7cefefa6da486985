def wM_copy_a_image_2 (post : MS → Prop) : Nat → Int32 → MS → Prop
  | 0, _, _ => False
  | n + 1, x2, S => ((2454 ≤ x2 → post S) ∧ (¬ (2454 ≤ x2) → (vp_in x2 2454 ∧ (vp_in x2 2454 ∧ ∀ S_2 : MS, S_2 = (ms_set_image S (upd (ms_image S) (x2.toNatClampNeg) ((ms_a S) x2.toNatClampNeg))) → wM_copy_a_image_2 post n (x2 + 1) S_2))))
def wM_copy_a_image (S : MS) (post : MS → Prop) : Prop := ∃ k_ : Nat, wM_copy_a_image_2 post k_ 0 S
set_option maxHeartbeats 4000000 in
set_option maxRecDepth 100000 in
theorem cM_copy_a_image (l : Launch) (D : va_G) (h : Nat → Nat) (cy : Nat → ClassId) (S : MS) (post : MS → Prop) (hw : wM_copy_a_image S post) : k_Mv l yX12_copy wsX12_copy { frames := 0, cells := 0, slots := 0, locals := 0 } D (tyM cy) (wM h cy) [.ref (h 0), .ref (h 1)] S post := by
  intro sz
  refine Met.ofW (cc := cX12_copy) (maxL := 3) (ret := none) (by decide) rfl ?_
  intro p e s m args below meth c s₁ B hml hv
  obtain ⟨rfl, hsz, hP, hK, hD0⟩ := hv
  have hx := B.exec
  have hb := B.bytes
  have hr := B.returns
  have hts := atoms_spec (ws := wsX12_copy) B.pre
  have hown : s.vm.findClass RX12 = some m.cls := findClass_of_methodNamed B.named
  have hlocks := B.notSynchronized
  subst hsz
  have hD := hD0.self (sz := s.heap.size)
  generalize hAe : va_A (wM h cy S) s.heap.size = A at hD ⊢
  have hA : ∀ q : Nat, s.heap.size ≤ q → A q := fun q h => by rw [← hAe]; exact Or.inr h
  have hS : va_S A s.heap s.heap [] := va_S.rf
  have hl := lv_entry ([.ref (h 0), .ref (h 1)]) (n := 3) (Nat.le_of_ble_eq_true rfl)
  rw [lg_entry_eq]
  generalize (lg_sl ([.ref (h 0), .ref (h 1)]) ++ List.replicate (3 - (lg_sl ([.ref (h 0), .ref (h 1)])).length) Slot.unset).toArray = ls at hl ⊢
  have hl : lv_has ls 3 [(0, .ref (h 0)), (1, .ref (h 1))] := hl
  unfold wM_copy_a_image at hw
  clear hD0
  have L_2 : ∀ (n2 : Nat) (x2 : Int32) (S : MS) (H : Heap) (locs : List Loc) (ls : Array Slot), wM_copy_a_image_2 post n2 x2 S → va_P D vwCl (wM h cy S) H → va_D A (wM h cy S) → va_S A s.heap H locs → lv_has ls 3 [(0, .ref (h 0)), (1, .ref (h 1)), (2, .int x2)] → W p l e (headSpec wsX12_copy { frames := 0, cells := 0, slots := 0, locals := 0 }).room s m (([.ref (h 0), .ref (h 1)] : List Value).toArray) below meth c H locs 0 0 (MQ below (va_Qv post (k_Post D (tyM cy) (wM h cy) A) A) (([.ref (h 0), .ref (h 1)] : List Value).toArray) s 0 0 A) (F0 m 2 ls []) := by
    intro n2
    induction n2 with
    | zero => intro x2 S H locs ls hw; exact False.elim hw
    | succ n2 ih_2 =>
      intro x2 S H locs ls hw hP hD hS hl
      unfold wM_copy_a_image_2 at hw
      refine lv_iload_n hx hb dX12_copy_2 rfl (lv_at hl 2 rfl) ?_
      refine lv_sipush (v := 2454) hx hb dX12_copy_3 (by decide) ?_
      obtain ⟨hc_1t, hc_1f⟩ := hw
      refine lv_icmp_ge (tgt := 21) hx hb dX12_copy_6 (by decide) (fun c_1 => ?_) (fun c_1 => ?_)
      · have hw := hc_1t c_1
        clear hc_1t hc_1f
        exact W.vret hx hb hr (fun t ht hW => ⟨⟨S, rfl, hw, by rw [ht]; exact hP, va_K.moved hW.alike hK, hD⟩, hS.F ht⟩) hS.2.2 dX12_copy_21
      · have hw := hc_1f c_1
        clear hc_1t hc_1f
        refine lv_aload_n hx hb dX12_copy_9 rfl (lv_at hl 1 rfl) ?_
        refine lv_iload_n hx hb dX12_copy_10 rfl (lv_at hl 2 rfl) ?_
        refine lv_aload_n hx hb dX12_copy_11 rfl (lv_at hl 0 rfl) ?_
        refine lv_iload_n hx hb dX12_copy_12 rfl (lv_at hl 2 rfl) ?_
        obtain ⟨hi_4, hw⟩ := hw
        refine va_iald (f := (ms_a S)) hx hb hK hP 1 0 rfl rfl hi_4 dX12_copy_13 ?_
        obtain ⟨hi_3, hw⟩ := hw
        refine va_iast (f := (ms_image S)) hx hb hK hP hD hS 2 1 rfl rfl hi_3 dX12_copy_14 (fun H locs hP hD hS => ?_)
        obtain ⟨S_2, eS_2⟩ : ∃ z : MS, z = (ms_set_image S (upd (ms_image S) (x2.toNatClampNeg) ((ms_a S) x2.toNatClampNeg))) := ⟨_, rfl⟩
        have hw := hw S_2 eS_2
        have hP : va_P D vwCl (wM h cy S_2) H := by rw [eS_2, ← wMs_image]; exact hP
        have hD : va_D A (wM h cy S_2) := by rw [eS_2, ← wMs_image]; exact hD
        refine lv_iinc (v := x2 + 1) (lv' := [(2, .int (x2 + 1)), (0, .ref (h 0)), (1, .ref (h 1))]) hx hb dX12_copy_15 hl (k := 2) rfl (k_inc (by decide)) (by decide) rfl (fun ls hl => ?_)
        refine lv_goto (tgt := 2) hx hb dX12_copy_18 (by decide) ?_
        exact ih_2 (x2 + 1) S_2 _ _ _ hw hP hD hS (lv_sub hl [1, 2, 0] rfl)
  refine lv_iconst (v := 0) hx hb dX12_copy_0 (by decide) ?_
  refine lv_istore_n (lv' := [(2, .int 0), (0, .ref (h 0)), (1, .ref (h 1))]) hx hb dX12_copy_1 rfl hl (by decide) rfl (fun ls hl => ?_)
  obtain ⟨n_2, hw⟩ := hw
  exact L_2 n_2 0 S _ _ _ hw hP hD hS (lv_sub hl [1, 2, 0] rfl)
def wM_copy_image_a_2 (post : MS → Prop) : Nat → Int32 → MS → Prop
  | 0, _, _ => False
  | n + 1, x2, S => ((2454 ≤ x2 → post S) ∧ (¬ (2454 ≤ x2) → (vp_in x2 2454 ∧ (vp_in x2 2454 ∧ ∀ S_2 : MS, S_2 = (ms_set_a S (upd (ms_a S) (x2.toNatClampNeg) ((ms_image S) x2.toNatClampNeg))) → wM_copy_image_a_2 post n (x2 + 1) S_2))))
def wM_copy_image_a (S : MS) (post : MS → Prop) : Prop := ∃ k_ : Nat, wM_copy_image_a_2 post k_ 0 S
set_option maxHeartbeats 4000000 in
set_option maxRecDepth 100000 in
theorem cM_copy_image_a (l : Launch) (D : va_G) (h : Nat → Nat) (cy : Nat → ClassId) (S : MS) (post : MS → Prop) (hw : wM_copy_image_a S post) : k_Mv l yX12_copy wsX12_copy { frames := 0, cells := 0, slots := 0, locals := 0 } D (tyM cy) (wM h cy) [.ref (h 1), .ref (h 0)] S post := by
  intro sz
  refine Met.ofW (cc := cX12_copy) (maxL := 3) (ret := none) (by decide) rfl ?_
  intro p e s m args below meth c s₁ B hml hv
  obtain ⟨rfl, hsz, hP, hK, hD0⟩ := hv
  have hx := B.exec
  have hb := B.bytes
  have hr := B.returns
  have hts := atoms_spec (ws := wsX12_copy) B.pre
  have hown : s.vm.findClass RX12 = some m.cls := findClass_of_methodNamed B.named
  have hlocks := B.notSynchronized
  subst hsz
  have hD := hD0.self (sz := s.heap.size)
  generalize hAe : va_A (wM h cy S) s.heap.size = A at hD ⊢
  have hA : ∀ q : Nat, s.heap.size ≤ q → A q := fun q h => by rw [← hAe]; exact Or.inr h
  have hS : va_S A s.heap s.heap [] := va_S.rf
  have hl := lv_entry ([.ref (h 1), .ref (h 0)]) (n := 3) (Nat.le_of_ble_eq_true rfl)
  rw [lg_entry_eq]
  generalize (lg_sl ([.ref (h 1), .ref (h 0)]) ++ List.replicate (3 - (lg_sl ([.ref (h 1), .ref (h 0)])).length) Slot.unset).toArray = ls at hl ⊢
  have hl : lv_has ls 3 [(0, .ref (h 1)), (1, .ref (h 0))] := hl
  unfold wM_copy_image_a at hw
  clear hD0
  have L_2 : ∀ (n2 : Nat) (x2 : Int32) (S : MS) (H : Heap) (locs : List Loc) (ls : Array Slot), wM_copy_image_a_2 post n2 x2 S → va_P D vwCl (wM h cy S) H → va_D A (wM h cy S) → va_S A s.heap H locs → lv_has ls 3 [(0, .ref (h 1)), (1, .ref (h 0)), (2, .int x2)] → W p l e (headSpec wsX12_copy { frames := 0, cells := 0, slots := 0, locals := 0 }).room s m (([.ref (h 1), .ref (h 0)] : List Value).toArray) below meth c H locs 0 0 (MQ below (va_Qv post (k_Post D (tyM cy) (wM h cy) A) A) (([.ref (h 1), .ref (h 0)] : List Value).toArray) s 0 0 A) (F0 m 2 ls []) := by
    intro n2
    induction n2 with
    | zero => intro x2 S H locs ls hw; exact False.elim hw
    | succ n2 ih_2 =>
      intro x2 S H locs ls hw hP hD hS hl
      unfold wM_copy_image_a_2 at hw
      refine lv_iload_n hx hb dX12_copy_2 rfl (lv_at hl 2 rfl) ?_
      refine lv_sipush (v := 2454) hx hb dX12_copy_3 (by decide) ?_
      obtain ⟨hc_1t, hc_1f⟩ := hw
      refine lv_icmp_ge (tgt := 21) hx hb dX12_copy_6 (by decide) (fun c_1 => ?_) (fun c_1 => ?_)
      · have hw := hc_1t c_1
        clear hc_1t hc_1f
        exact W.vret hx hb hr (fun t ht hW => ⟨⟨S, rfl, hw, by rw [ht]; exact hP, va_K.moved hW.alike hK, hD⟩, hS.F ht⟩) hS.2.2 dX12_copy_21
      · have hw := hc_1f c_1
        clear hc_1t hc_1f
        refine lv_aload_n hx hb dX12_copy_9 rfl (lv_at hl 1 rfl) ?_
        refine lv_iload_n hx hb dX12_copy_10 rfl (lv_at hl 2 rfl) ?_
        refine lv_aload_n hx hb dX12_copy_11 rfl (lv_at hl 0 rfl) ?_
        refine lv_iload_n hx hb dX12_copy_12 rfl (lv_at hl 2 rfl) ?_
        obtain ⟨hi_4, hw⟩ := hw
        refine va_iald (f := (ms_image S)) hx hb hK hP 2 1 rfl rfl hi_4 dX12_copy_13 ?_
        obtain ⟨hi_3, hw⟩ := hw
        refine va_iast (f := (ms_a S)) hx hb hK hP hD hS 1 0 rfl rfl hi_3 dX12_copy_14 (fun H locs hP hD hS => ?_)
        obtain ⟨S_2, eS_2⟩ : ∃ z : MS, z = (ms_set_a S (upd (ms_a S) (x2.toNatClampNeg) ((ms_image S) x2.toNatClampNeg))) := ⟨_, rfl⟩
        have hw := hw S_2 eS_2
        have hP : va_P D vwCl (wM h cy S_2) H := by rw [eS_2, ← wMs_a]; exact hP
        have hD : va_D A (wM h cy S_2) := by rw [eS_2, ← wMs_a]; exact hD
        refine lv_iinc (v := x2 + 1) (lv' := [(2, .int (x2 + 1)), (0, .ref (h 1)), (1, .ref (h 0))]) hx hb dX12_copy_15 hl (k := 2) rfl (k_inc (by decide)) (by decide) rfl (fun ls hl => ?_)
        refine lv_goto (tgt := 2) hx hb dX12_copy_18 (by decide) ?_
        exact ih_2 (x2 + 1) S_2 _ _ _ hw hP hD hS (lv_sub hl [1, 2, 0] rfl)
  refine lv_iconst (v := 0) hx hb dX12_copy_0 (by decide) ?_
  refine lv_istore_n (lv' := [(2, .int 0), (0, .ref (h 1)), (1, .ref (h 0))]) hx hb dX12_copy_1 rfl hl (by decide) rfl (fun ls hl => ?_)
  obtain ⟨n_2, hw⟩ := hw
  exact L_2 n_2 0 S _ _ _ hw hP hD hS (lv_sub hl [1, 2, 0] rfl)
def wM_isIn (p1 : Int32) (p2 : Int32) (p3 : Int32) (S : MS) (post : Int32 → MS → Prop) : Prop := ((p1 < p2 → post 0 S) ∧ (¬ (p1 < p2) → ((p3 < p1 → post 0 S) ∧ (¬ (p3 < p1) → post 1 S))))
set_option maxHeartbeats 4000000 in
set_option maxRecDepth 100000 in
theorem cM_isIn (l : Launch) (D : va_G) (h : Nat → Nat) (cy : Nat → ClassId) (p1 : Int32) (p2 : Int32) (p3 : Int32) (S : MS) (post : Int32 → MS → Prop) (hw : wM_isIn p1 p2 p3 S post) : k_Mi l yX12_isIn wsX12_isIn { frames := 0, cells := 0, slots := 0, locals := 0 } D (tyM cy) (wM h cy) [.int p1, .int p2, .int p3] S post := by
  intro sz
  refine Met.ofW (cc := cX12_isIn) (maxL := 3) (ret := (some .boolean)) (by decide) rfl ?_
  intro p e s m args below meth c s₁ B hml hv
  obtain ⟨rfl, hsz, hP, hK, hD0⟩ := hv
  have hx := B.exec
  have hb := B.bytes
  have hr := B.returns
  have hts := atoms_spec (ws := wsX12_isIn) B.pre
  have hown : s.vm.findClass RX12 = some m.cls := findClass_of_methodNamed B.named
  have hlocks := B.notSynchronized
  subst hsz
  have hD := hD0.self (sz := s.heap.size)
  generalize hAe : va_A (wM h cy S) s.heap.size = A at hD ⊢
  have hA : ∀ q : Nat, s.heap.size ≤ q → A q := fun q h => by rw [← hAe]; exact Or.inr h
  have hS : va_S A s.heap s.heap [] := va_S.rf
  have hl := lv_entry ([.int p1, .int p2, .int p3]) (n := 3) (Nat.le_of_ble_eq_true rfl)
  rw [lg_entry_eq]
  generalize (lg_sl ([.int p1, .int p2, .int p3]) ++ List.replicate (3 - (lg_sl ([.int p1, .int p2, .int p3])).length) Slot.unset).toArray = ls at hl ⊢
  have hl : lv_has ls 3 [(0, .int p1), (1, .int p2), (2, .int p3)] := hl
  unfold wM_isIn at hw
  clear hD0
  refine lv_iload_n hx hb dX12_isIn_0 rfl (lv_at hl 0 rfl) ?_
  refine lv_iload_n hx hb dX12_isIn_1 rfl (lv_at hl 1 rfl) ?_
  obtain ⟨hc_1t, hc_1f⟩ := hw
  refine lv_icmp_lt (tgt := 14) hx hb dX12_isIn_2 (by decide) (fun c_1 => ?_) (fun c_1 => ?_)
  · have hw := hc_1t c_1
    clear hc_1t hc_1f
    refine lv_iconst (v := 0) hx hb dX12_isIn_14 (by decide) ?_
    exact W.zret (v := 0) hx hb hr (by decide +kernel) (fun t ht hW => ⟨⟨0, S, rfl, hw, by rw [ht]; exact hP, va_K.moved hW.alike hK, hD⟩, hS.F ht⟩) hS.2.2 dX12_isIn_15
  · have hw := hc_1f c_1
    clear hc_1t hc_1f
    refine lv_iload_n hx hb dX12_isIn_5 rfl (lv_at hl 0 rfl) ?_
    refine lv_iload_n hx hb dX12_isIn_6 rfl (lv_at hl 2 rfl) ?_
    obtain ⟨hc_2t, hc_2f⟩ := hw
    refine lv_icmp_gt (tgt := 14) hx hb dX12_isIn_7 (by decide) (fun c_2 => ?_) (fun c_2 => ?_)
    · have hw := hc_2t c_2
      clear hc_2t hc_2f
      refine lv_iconst (v := 0) hx hb dX12_isIn_14 (by decide) ?_
      exact W.zret (v := 0) hx hb hr (by decide +kernel) (fun t ht hW => ⟨⟨0, S, rfl, hw, by rw [ht]; exact hP, va_K.moved hW.alike hK, hD⟩, hS.F ht⟩) hS.2.2 dX12_isIn_15
    · have hw := hc_2f c_2
      clear hc_2t hc_2f
      refine lv_iconst (v := 1) hx hb dX12_isIn_10 (by decide) ?_
      refine lv_goto (tgt := 15) hx hb dX12_isIn_11 (by decide) ?_
      exact W.zret (v := 1) hx hb hr (by decide +kernel) (fun t ht hW => ⟨⟨1, S, rfl, hw, by rw [ht]; exact hP, va_K.moved hW.alike hK, hD⟩, hS.F ht⟩) hS.2.2 dX12_isIn_15
def wM_cut (p1 : Int64) (p2 : Int32) (p3 : Int32) (S : MS) (post : Int32 → MS → Prop) : Prop := (((Int32.toInt64 p2) ≤ p1 → ((p1 ≤ (Int32.toInt64 p3) → post (Int64.toInt32 p1) S) ∧ (¬ (p1 ≤ (Int32.toInt64 p3)) → post p3 S))) ∧ (¬ ((Int32.toInt64 p2) ≤ p1) → post p2 S))
set_option maxHeartbeats 4000000 in
set_option maxRecDepth 100000 in
theorem cM_cut (l : Launch) (D : va_G) (h : Nat → Nat) (cy : Nat → ClassId) (p1 : Int64) (p2 : Int32) (p3 : Int32) (S : MS) (post : Int32 → MS → Prop) (hw : wM_cut p1 p2 p3 S post) : k_Mi l yX12_cut wsX12_cut { frames := 0, cells := 0, slots := 0, locals := 0 } D (tyM cy) (wM h cy) [.long p1, .int p2, .int p3] S post := by
  intro sz
  refine Met.ofW (cc := cX12_cut) (maxL := 4) (ret := (some .int)) (by decide) rfl ?_
  intro p e s m args below meth c s₁ B hml hv
  obtain ⟨rfl, hsz, hP, hK, hD0⟩ := hv
  have hx := B.exec
  have hb := B.bytes
  have hr := B.returns
  have hts := atoms_spec (ws := wsX12_cut) B.pre
  have hown : s.vm.findClass RX12 = some m.cls := findClass_of_methodNamed B.named
  have hlocks := B.notSynchronized
  subst hsz
  have hD := hD0.self (sz := s.heap.size)
  generalize hAe : va_A (wM h cy S) s.heap.size = A at hD ⊢
  have hA : ∀ q : Nat, s.heap.size ≤ q → A q := fun q h => by rw [← hAe]; exact Or.inr h
  have hS : va_S A s.heap s.heap [] := va_S.rf
  have hl := lv_entry ([.long p1, .int p2, .int p3]) (n := 4) (Nat.le_of_ble_eq_true rfl)
  rw [lg_entry_eq]
  generalize (lg_sl ([.long p1, .int p2, .int p3]) ++ List.replicate (4 - (lg_sl ([.long p1, .int p2, .int p3])).length) Slot.unset).toArray = ls at hl ⊢
  have hl : lv_has ls 4 [(0, .long p1), (2, .int p2), (3, .int p3)] := hl
  unfold wM_cut at hw
  clear hD0
  refine lv_lload_n hx hb dX12_cut_0 rfl (lv_at hl 0 rfl) ?_
  refine lv_iload_n hx hb dX12_cut_1 rfl (lv_at hl 1 rfl) ?_
  refine lv_i2l (v := Int32.toInt64 p2) hx hb dX12_cut_2 rfl ?_
  refine W.lcmp hx hb dX12_cut_3 ?_
  obtain ⟨hc_1t, hc_1f⟩ := hw
  refine lv_if_ge (tgt := 11) hx hb dX12_cut_4 (by decide) (fun c_1 => ?_) (fun c_1 => ?_)
  · have hw := hc_1t ((k_cge _ _).mp c_1)
    clear hc_1t hc_1f
    refine lv_lload_n hx hb dX12_cut_11 rfl (lv_at hl 0 rfl) ?_
    refine lv_iload_n hx hb dX12_cut_12 rfl (lv_at hl 2 rfl) ?_
    refine lv_i2l (v := Int32.toInt64 p3) hx hb dX12_cut_13 rfl ?_
    refine W.lcmp hx hb dX12_cut_14 ?_
    obtain ⟨hc_2t, hc_2f⟩ := hw
    refine lv_if_le (tgt := 22) hx hb dX12_cut_15 (by decide) (fun c_2 => ?_) (fun c_2 => ?_)
    · have hw := hc_2t ((k_cle _ _).mp c_2)
      clear hc_2t hc_2f
      refine lv_lload_n hx hb dX12_cut_22 rfl (lv_at hl 0 rfl) ?_
      refine lv_l2i (v := Int64.toInt32 p1) hx hb dX12_cut_23 rfl ?_
      exact W.iret (v := Int64.toInt32 p1) hx hb hr (fun t ht hW => ⟨⟨Int64.toInt32 p1, S, rfl, hw, by rw [ht]; exact hP, va_K.moved hW.alike hK, hD⟩, hS.F ht⟩) hS.2.2 dX12_cut_24
    · have hw := hc_2f (fun q => c_2 ((k_cle _ _).mpr q))
      clear hc_2t hc_2f
      refine lv_iload_n hx hb dX12_cut_18 rfl (lv_at hl 2 rfl) ?_
      refine lv_goto (tgt := 24) hx hb dX12_cut_19 (by decide) ?_
      exact W.iret (v := p3) hx hb hr (fun t ht hW => ⟨⟨p3, S, rfl, hw, by rw [ht]; exact hP, va_K.moved hW.alike hK, hD⟩, hS.F ht⟩) hS.2.2 dX12_cut_24
  · have hw := hc_1f (fun q => c_1 ((k_cge _ _).mpr q))
    clear hc_1t hc_1f
    refine lv_iload_n hx hb dX12_cut_7 rfl (lv_at hl 1 rfl) ?_
    refine lv_goto (tgt := 24) hx hb dX12_cut_8 (by decide) ?_
    exact W.iret (v := p2) hx hb hr (fun t ht hW => ⟨⟨p2, S, rfl, hw, by rw [ht]; exact hP, va_K.moved hW.alike hK, hD⟩, hS.F ht⟩) hS.2.2 dX12_cut_24
def wM_has (p1 : Int32) (p2 : Int32) (S : MS) (post : Int32 → MS → Prop) : Prop := ((((k_shr p1 p2) &&& 1) = 1 → post 1 S) ∧ (¬ (((k_shr p1 p2) &&& 1) = 1) → post 0 S))
set_option maxHeartbeats 4000000 in
set_option maxRecDepth 100000 in
theorem cM_has (l : Launch) (D : va_G) (h : Nat → Nat) (cy : Nat → ClassId) (p1 : Int32) (p2 : Int32) (S : MS) (post : Int32 → MS → Prop) (hw : wM_has p1 p2 S post) : k_Mi l yX12_has wsX12_has { frames := 0, cells := 0, slots := 0, locals := 0 } D (tyM cy) (wM h cy) [.int p1, .int p2] S post := by
  intro sz
  refine Met.ofW (cc := cX12_has) (maxL := 2) (ret := (some .boolean)) (by decide) rfl ?_
  intro p e s m args below meth c s₁ B hml hv
  obtain ⟨rfl, hsz, hP, hK, hD0⟩ := hv
  have hx := B.exec
  have hb := B.bytes
  have hr := B.returns
  have hts := atoms_spec (ws := wsX12_has) B.pre
  have hown : s.vm.findClass RX12 = some m.cls := findClass_of_methodNamed B.named
  have hlocks := B.notSynchronized
  subst hsz
  have hD := hD0.self (sz := s.heap.size)
  generalize hAe : va_A (wM h cy S) s.heap.size = A at hD ⊢
  have hA : ∀ q : Nat, s.heap.size ≤ q → A q := fun q h => by rw [← hAe]; exact Or.inr h
  have hS : va_S A s.heap s.heap [] := va_S.rf
  have hl := lv_entry ([.int p1, .int p2]) (n := 2) (Nat.le_of_ble_eq_true rfl)
  rw [lg_entry_eq]
  generalize (lg_sl ([.int p1, .int p2]) ++ List.replicate (2 - (lg_sl ([.int p1, .int p2])).length) Slot.unset).toArray = ls at hl ⊢
  have hl : lv_has ls 2 [(0, .int p1), (1, .int p2)] := hl
  unfold wM_has at hw
  clear hD0
  refine lv_iload_n hx hb dX12_has_0 rfl (lv_at hl 0 rfl) ?_
  refine lv_iload_n hx hb dX12_has_1 rfl (lv_at hl 1 rfl) ?_
  refine k_ishr hx hb dX12_has_2 ?_
  refine lv_iconst (v := 1) hx hb dX12_has_3 (by decide) ?_
  refine lv_iand hx hb dX12_has_4 ?_
  refine lv_iconst (v := 1) hx hb dX12_has_5 (by decide) ?_
  obtain ⟨hc_1t, hc_1f⟩ := hw
  refine lv_icmp_ne (tgt := 13) hx hb dX12_has_6 (by decide) (fun c_1 => ?_) (fun c_1 => ?_)
  · have hw := hc_1f c_1
    clear hc_1t hc_1f
    refine lv_iconst (v := 0) hx hb dX12_has_13 (by decide) ?_
    exact W.zret (v := 0) hx hb hr (by decide +kernel) (fun t ht hW => ⟨⟨0, S, rfl, hw, by rw [ht]; exact hP, va_K.moved hW.alike hK, hD⟩, hS.F ht⟩) hS.2.2 dX12_has_14
  · have hw := hc_1t c_1
    clear hc_1t hc_1f
    refine lv_iconst (v := 1) hx hb dX12_has_9 (by decide) ?_
    refine lv_goto (tgt := 14) hx hb dX12_has_10 (by decide) ?_
    exact W.zret (v := 1) hx hb hr (by decide +kernel) (fun t ht hW => ⟨⟨1, S, rfl, hw, by rw [ht]; exact hP, va_K.moved hW.alike hK, hD⟩, hS.F ht⟩) hS.2.2 dX12_has_14
def wM_bits_4 (post : Int32 → MS → Prop) : Nat → Int32 → Int32 → MS → Prop
  | 0, _, _, _ => False
  | n + 1, x1, x2, S => ((x2 = 0 → post x1 S) ∧ (¬ (x2 = 0) → wM_bits_4 post n (x1 + 1) (x2 &&& (x2 - 1)) S))
def wM_bits (p1 : Int32) (S : MS) (post : Int32 → MS → Prop) : Prop := ∃ k_ : Nat, wM_bits_4 post k_ 0 p1 S
set_option maxHeartbeats 4000000 in
set_option maxRecDepth 100000 in
theorem cM_bits (l : Launch) (D : va_G) (h : Nat → Nat) (cy : Nat → ClassId) (p1 : Int32) (S : MS) (post : Int32 → MS → Prop) (hw : wM_bits p1 S post) : k_Mi l yX12_bits wsX12_bits { frames := 0, cells := 0, slots := 0, locals := 0 } D (tyM cy) (wM h cy) [.int p1] S post := by
  intro sz
  refine Met.ofW (cc := cX12_bits) (maxL := 3) (ret := (some .int)) (by decide) rfl ?_
  intro p e s m args below meth c s₁ B hml hv
  obtain ⟨rfl, hsz, hP, hK, hD0⟩ := hv
  have hx := B.exec
  have hb := B.bytes
  have hr := B.returns
  have hts := atoms_spec (ws := wsX12_bits) B.pre
  have hown : s.vm.findClass RX12 = some m.cls := findClass_of_methodNamed B.named
  have hlocks := B.notSynchronized
  subst hsz
  have hD := hD0.self (sz := s.heap.size)
  generalize hAe : va_A (wM h cy S) s.heap.size = A at hD ⊢
  have hA : ∀ q : Nat, s.heap.size ≤ q → A q := fun q h => by rw [← hAe]; exact Or.inr h
  have hS : va_S A s.heap s.heap [] := va_S.rf
  have hl := lv_entry ([.int p1]) (n := 3) (Nat.le_of_ble_eq_true rfl)
  rw [lg_entry_eq]
  generalize (lg_sl ([.int p1]) ++ List.replicate (3 - (lg_sl ([.int p1])).length) Slot.unset).toArray = ls at hl ⊢
  have hl : lv_has ls 3 [(0, .int p1)] := hl
  unfold wM_bits at hw
  clear hD0
  have L_4 : ∀ (n4 : Nat) (x1 : Int32) (x2 : Int32) (S : MS) (H : Heap) (locs : List Loc) (ls : Array Slot), wM_bits_4 post n4 x1 x2 S → va_P D vwCl (wM h cy S) H → va_D A (wM h cy S) → va_S A s.heap H locs → lv_has ls 3 [(1, .int x1), (2, .int x2)] → W p l e (headSpec wsX12_bits { frames := 0, cells := 0, slots := 0, locals := 0 }).room s m (([.int p1] : List Value).toArray) below meth c H locs 0 0 (MQ below (va_Qi post (k_Post D (tyM cy) (wM h cy) A) A) (([.int p1] : List Value).toArray) s 0 0 A) (F0 m 4 ls []) := by
    intro n4
    induction n4 with
    | zero => intro x1 x2 S H locs ls hw; exact False.elim hw
    | succ n4 ih_4 =>
      intro x1 x2 S H locs ls hw hP hD hS hl
      unfold wM_bits_4 at hw
      refine lv_iload_n hx hb dX12_bits_4 rfl (lv_at hl 1 rfl) ?_
      obtain ⟨hc_1t, hc_1f⟩ := hw
      refine lv_if_eq (tgt := 20) hx hb dX12_bits_5 (by decide) (fun c_1 => ?_) (fun c_1 => ?_)
      · have hw := hc_1t c_1
        clear hc_1t hc_1f
        refine lv_iload_n hx hb dX12_bits_20 rfl (lv_at hl 0 rfl) ?_
        exact W.iret (v := x1) hx hb hr (fun t ht hW => ⟨⟨x1, S, rfl, hw, by rw [ht]; exact hP, va_K.moved hW.alike hK, hD⟩, hS.F ht⟩) hS.2.2 dX12_bits_21
      · have hw := hc_1f c_1
        clear hc_1t hc_1f
        refine lv_iinc (v := x1 + 1) (lv' := [(1, .int (x1 + 1)), (2, .int x2)]) hx hb dX12_bits_8 hl (k := 0) rfl (k_inc (by decide)) (by decide) rfl (fun ls hl => ?_)
        refine lv_iload_n hx hb dX12_bits_11 rfl (lv_at hl 1 rfl) ?_
        refine lv_iload_n hx hb dX12_bits_12 rfl (lv_at hl 1 rfl) ?_
        refine lv_iconst (v := 1) hx hb dX12_bits_13 (by decide) ?_
        refine lv_isub hx hb dX12_bits_14 ?_
        refine lv_iand hx hb dX12_bits_15 ?_
        refine lv_istore_n (lv' := [(2, .int (x2 &&& (x2 - 1))), (1, .int (x1 + 1))]) hx hb dX12_bits_16 rfl hl (by decide) rfl (fun ls hl => ?_)
        refine lv_goto (tgt := 4) hx hb dX12_bits_17 (by decide) ?_
        exact ih_4 (x1 + 1) (x2 &&& (x2 - 1)) S _ _ _ hw hP hD hS (lv_sub hl [1, 0] rfl)
  refine lv_iconst (v := 0) hx hb dX12_bits_0 (by decide) ?_
  refine lv_istore_n (lv' := [(1, .int 0), (0, .int p1)]) hx hb dX12_bits_1 rfl hl (by decide) rfl (fun ls hl => ?_)
  refine lv_iload_n hx hb dX12_bits_2 rfl (lv_at hl 1 rfl) ?_
  refine lv_istore_n (lv' := [(2, .int p1), (1, .int 0), (0, .int p1)]) hx hb dX12_bits_3 rfl hl (by decide) rfl (fun ls hl => ?_)
  obtain ⟨n_4, hw⟩ := hw
  exact L_4 n_4 0 p1 S _ _ _ hw hP hD hS (lv_sub hl [1, 0] rfl)
def wM_isHouse (p1 : Int32) (S : MS) (post : Int32 → MS → Prop) : Prop := wM_isIn p1 0 (((ms_a S) 0) - 1) S (fun r_1 S_2 => (narrow .boolean (.int r_1) = .int r_1 ∧ post r_1 S_2))
set_option maxHeartbeats 4000000 in
set_option maxRecDepth 100000 in
theorem cM_isHouse (l : Launch) (D : va_G) (h : Nat → Nat) (cy : Nat → ClassId) (p1 : Int32) (S : MS) (post : Int32 → MS → Prop) (hw : wM_isHouse p1 S post) : k_Mi l yX12_isHouse wsX12_isHouse { frames := 1, cells := 0, slots := 0, locals := 22 } D (tyM cy) (wM h cy) [.ref (h 31), .int p1] S post := by
  intro sz
  refine Met.ofW (cc := cX12_isHouse) (maxL := 2) (ret := (some .boolean)) (by decide) rfl ?_
  intro p e s m args below meth c s₁ B hml hv
  obtain ⟨rfl, hsz, hP, hK, hD0⟩ := hv
  have hx := B.exec
  have hb := B.bytes
  have hr := B.returns
  have hts := atoms_spec (ws := wsX12_isHouse) B.pre
  have hown : s.vm.findClass RX12 = some m.cls := findClass_of_methodNamed B.named
  have hlocks := B.notSynchronized
  subst hsz
  have hD := hD0.self (sz := s.heap.size)
  generalize hAe : va_A (wM h cy S) s.heap.size = A at hD ⊢
  have hA : ∀ q : Nat, s.heap.size ≤ q → A q := fun q h => by rw [← hAe]; exact Or.inr h
  have hS : va_S A s.heap s.heap [] := va_S.rf
  have hin : ∀ w ∈ wsX120, w ∈ wsX12_isHouse := fun _ h => List.mem_cons_of_mem _ (List.mem_append_right _ h)
  have w7 := hts (.fieldLink RX12 7 "ClownsMournModel" "a" "[I") (List.mem_of_getElem? (i := 1) rfl)
  have hl := lv_entry ([.ref (h 31), .int p1]) (n := 2) (Nat.le_of_ble_eq_true rfl)
  rw [lg_entry_eq]
  generalize (lg_sl ([.ref (h 31), .int p1]) ++ List.replicate (2 - (lg_sl ([.ref (h 31), .int p1])).length) Slot.unset).toArray = ls at hl ⊢
  have hl : lv_has ls 2 [(0, .ref (h 31)), (1, .int p1)] := hl
  unfold wM_isHouse at hw
  clear hD0
  refine lv_iload_n hx hb dX12_isHouse_0 rfl (lv_at hl 1 rfl) ?_
  refine lv_iconst (v := 0) hx hb dX12_isHouse_1 (by decide) ?_
  refine lv_aload_n hx hb dX12_isHouse_2 rfl (lv_at hl 0 rfl) ?_
  refine va_get (D := D) (ci := 11) (v := .ref (h 0)) (C := RX12) (T := TX12) (N := 31) hx hb hts hin hown hK hP 0 rfl rfl 0 (by decide) w7 (fun _ h9 => h9) rfl dX12_isHouse_3 ?_
  refine lv_iconst (v := 0) hx hb dX12_isHouse_6 (by decide) ?_
  refine k_iald (f := (ms_a S)) (j := 0) hx hb hK hP 1 0 rfl rfl (by decide +kernel) rfl dX12_isHouse_7 ?_
  refine lv_iconst (v := 1) hx hb dX12_isHouse_8 (by decide) ?_
  refine lv_isub hx hb dX12_isHouse_9 ?_
  refine k_callSi (As := [.int p1, .int 0, .int (((ms_a S) 0) - 1)]) (rest := []) ⟨hx, hb, hml, hown, hts⟩ (cM_isIn l D h cy _ _ _ _ _ hw) (va_cwS 3 hts gX12_isHouse_X12_isIn rfl rfl rfl (by decide +kernel) ⟨Nat.le_of_ble_eq_true rfl, Nat.le_of_ble_eq_true rfl⟩) hK hP hD hS hA rfl hl.1 rfl (Nat.le_of_ble_eq_true rfl) dX12_isHouse_10 ⟨Nat.zero_le _, Nat.zero_le _⟩ (fun r_1 S_2 H locs hw hP hD hS => ?_)
  obtain ⟨hn, hw⟩ := hw
  exact W.zret (v := r_1) hx hb hr hn (fun t ht hW => ⟨⟨r_1, S_2, rfl, hw, by rw [ht]; exact hP, va_K.moved hW.alike hK, hD⟩, hS.F ht⟩) hS.2.2 dX12_isHouse_13
def wM_isClown (p1 : Int32) (S : MS) (post : Int32 → MS → Prop) : Prop := wM_isIn p1 0 (((ms_a S) 1) - 1) S (fun r_1 S_2 => (narrow .boolean (.int r_1) = .int r_1 ∧ post r_1 S_2))
set_option maxHeartbeats 4000000 in
set_option maxRecDepth 100000 in
theorem cM_isClown (l : Launch) (D : va_G) (h : Nat → Nat) (cy : Nat → ClassId) (p1 : Int32) (S : MS) (post : Int32 → MS → Prop) (hw : wM_isClown p1 S post) : k_Mi l yX12_isClown wsX12_isClown { frames := 1, cells := 0, slots := 0, locals := 22 } D (tyM cy) (wM h cy) [.ref (h 31), .int p1] S post := by
  intro sz
  refine Met.ofW (cc := cX12_isClown) (maxL := 2) (ret := (some .boolean)) (by decide) rfl ?_
  intro p e s m args below meth c s₁ B hml hv
  obtain ⟨rfl, hsz, hP, hK, hD0⟩ := hv
  have hx := B.exec
  have hb := B.bytes
  have hr := B.returns
  have hts := atoms_spec (ws := wsX12_isClown) B.pre
  have hown : s.vm.findClass RX12 = some m.cls := findClass_of_methodNamed B.named
  have hlocks := B.notSynchronized
  subst hsz
  have hD := hD0.self (sz := s.heap.size)
  generalize hAe : va_A (wM h cy S) s.heap.size = A at hD ⊢
  have hA : ∀ q : Nat, s.heap.size ≤ q → A q := fun q h => by rw [← hAe]; exact Or.inr h
  have hS : va_S A s.heap s.heap [] := va_S.rf
  have hin : ∀ w ∈ wsX120, w ∈ wsX12_isClown := fun _ h => List.mem_cons_of_mem _ (List.mem_append_right _ h)
  have w7 := hts (.fieldLink RX12 7 "ClownsMournModel" "a" "[I") (List.mem_of_getElem? (i := 1) rfl)
  have hl := lv_entry ([.ref (h 31), .int p1]) (n := 2) (Nat.le_of_ble_eq_true rfl)
  rw [lg_entry_eq]
  generalize (lg_sl ([.ref (h 31), .int p1]) ++ List.replicate (2 - (lg_sl ([.ref (h 31), .int p1])).length) Slot.unset).toArray = ls at hl ⊢
  have hl : lv_has ls 2 [(0, .ref (h 31)), (1, .int p1)] := hl
  unfold wM_isClown at hw
  clear hD0
  refine lv_iload_n hx hb dX12_isClown_0 rfl (lv_at hl 1 rfl) ?_
  refine lv_iconst (v := 0) hx hb dX12_isClown_1 (by decide) ?_
  refine lv_aload_n hx hb dX12_isClown_2 rfl (lv_at hl 0 rfl) ?_
  refine va_get (D := D) (ci := 11) (v := .ref (h 0)) (C := RX12) (T := TX12) (N := 31) hx hb hts hin hown hK hP 0 rfl rfl 0 (by decide) w7 (fun _ h9 => h9) rfl dX12_isClown_3 ?_
  refine lv_iconst (v := 1) hx hb dX12_isClown_6 (by decide) ?_
  refine k_iald (f := (ms_a S)) (j := 1) hx hb hK hP 1 0 rfl rfl (by decide +kernel) rfl dX12_isClown_7 ?_
  refine lv_iconst (v := 1) hx hb dX12_isClown_8 (by decide) ?_
  refine lv_isub hx hb dX12_isClown_9 ?_
  refine k_callSi (As := [.int p1, .int 0, .int (((ms_a S) 1) - 1)]) (rest := []) ⟨hx, hb, hml, hown, hts⟩ (cM_isIn l D h cy _ _ _ _ _ hw) (va_cwS 3 hts gX12_isClown_X12_isIn rfl rfl rfl (by decide +kernel) ⟨Nat.le_of_ble_eq_true rfl, Nat.le_of_ble_eq_true rfl⟩) hK hP hD hS hA rfl hl.1 rfl (Nat.le_of_ble_eq_true rfl) dX12_isClown_10 ⟨Nat.zero_le _, Nat.zero_le _⟩ (fun r_1 S_2 H locs hw hP hD hS => ?_)
  obtain ⟨hn, hw⟩ := hw
  exact W.zret (v := r_1) hx hb hr hn (fun t ht hW => ⟨⟨r_1, S_2, rfl, hw, by rw [ht]; exact hP, va_K.moved hW.alike hK, hD⟩, hS.F ht⟩) hS.2.2 dX12_isClown_13
def wM_isKind (p1 : Int32) (S : MS) (post : Int32 → MS → Prop) : Prop := wM_isIn p1 0 4 S (fun r_1 S_2 => (narrow .boolean (.int r_1) = .int r_1 ∧ post r_1 S_2))
set_option maxHeartbeats 4000000 in
set_option maxRecDepth 100000 in
theorem cM_isKind (l : Launch) (D : va_G) (h : Nat → Nat) (cy : Nat → ClassId) (p1 : Int32) (S : MS) (post : Int32 → MS → Prop) (hw : wM_isKind p1 S post) : k_Mi l yX12_isKind wsX12_isKind { frames := 1, cells := 0, slots := 0, locals := 22 } D (tyM cy) (wM h cy) [.int p1] S post := by
  intro sz
  refine Met.ofW (cc := cX12_isKind) (maxL := 1) (ret := (some .boolean)) (by decide) rfl ?_
  intro p e s m args below meth c s₁ B hml hv
  obtain ⟨rfl, hsz, hP, hK, hD0⟩ := hv
  have hx := B.exec
  have hb := B.bytes
  have hr := B.returns
  have hts := atoms_spec (ws := wsX12_isKind) B.pre
  have hown : s.vm.findClass RX12 = some m.cls := findClass_of_methodNamed B.named
  have hlocks := B.notSynchronized
  subst hsz
  have hD := hD0.self (sz := s.heap.size)
  generalize hAe : va_A (wM h cy S) s.heap.size = A at hD ⊢
  have hA : ∀ q : Nat, s.heap.size ≤ q → A q := fun q h => by rw [← hAe]; exact Or.inr h
  have hS : va_S A s.heap s.heap [] := va_S.rf
  have hl := lv_entry ([.int p1]) (n := 1) (Nat.le_of_ble_eq_true rfl)
  rw [lg_entry_eq]
  generalize (lg_sl ([.int p1]) ++ List.replicate (1 - (lg_sl ([.int p1])).length) Slot.unset).toArray = ls at hl ⊢
  have hl : lv_has ls 1 [(0, .int p1)] := hl
  unfold wM_isKind at hw
  clear hD0
  refine lv_iload_n hx hb dX12_isKind_0 rfl (lv_at hl 0 rfl) ?_
  refine lv_iconst (v := 0) hx hb dX12_isKind_1 (by decide) ?_
  refine lv_iconst (v := 4) hx hb dX12_isKind_2 (by decide) ?_
  refine k_callSi (As := [.int p1, .int 0, .int 4]) (rest := []) ⟨hx, hb, hml, hown, hts⟩ (cM_isIn l D h cy _ _ _ _ _ hw) (va_cwS 3 hts gX12_isKind_X12_isIn rfl rfl rfl (by decide +kernel) ⟨Nat.le_of_ble_eq_true rfl, Nat.le_of_ble_eq_true rfl⟩) hK hP hD hS hA rfl hl.1 rfl (Nat.le_of_ble_eq_true rfl) dX12_isKind_3 ⟨Nat.zero_le _, Nat.zero_le _⟩ (fun r_1 S_2 H locs hw hP hD hS => ?_)
  obtain ⟨hn, hw⟩ := hw
  exact W.zret (v := r_1) hx hb hr hn (fun t ht hW => ⟨⟨r_1, S_2, rfl, hw, by rw [ht]; exact hP, va_K.moved hW.alike hK, hD⟩, hS.F ht⟩) hS.2.2 dX12_isKind_6
def wM_get (p1 : Int32) (p2 : Int32) (S : MS) (post : Int32 → MS → Prop) : Prop := (vp_in ((10 + (6 * p1)) + p2) 2454 ∧ post ((ms_a S) ((10 + (6 * p1)) + p2).toNatClampNeg) S)
set_option maxHeartbeats 4000000 in
set_option maxRecDepth 100000 in
theorem cM_get (l : Launch) (D : va_G) (h : Nat → Nat) (cy : Nat → ClassId) (p1 : Int32) (p2 : Int32) (S : MS) (post : Int32 → MS → Prop) (hw : wM_get p1 p2 S post) : k_Mi l yX12_get wsX12_get { frames := 0, cells := 0, slots := 0, locals := 0 } D (tyM cy) (wM h cy) [.ref (h 31), .int p1, .int p2] S post := by
  intro sz
  refine Met.ofW (cc := cX12_get) (maxL := 3) (ret := (some .int)) (by decide) rfl ?_
  intro p e s m args below meth c s₁ B hml hv
  obtain ⟨rfl, hsz, hP, hK, hD0⟩ := hv
  have hx := B.exec
  have hb := B.bytes
  have hr := B.returns
  have hts := atoms_spec (ws := wsX12_get) B.pre
  have hown : s.vm.findClass RX12 = some m.cls := findClass_of_methodNamed B.named
  have hlocks := B.notSynchronized
  subst hsz
  have hD := hD0.self (sz := s.heap.size)
  generalize hAe : va_A (wM h cy S) s.heap.size = A at hD ⊢
  have hA : ∀ q : Nat, s.heap.size ≤ q → A q := fun q h => by rw [← hAe]; exact Or.inr h
  have hS : va_S A s.heap s.heap [] := va_S.rf
  have hin : ∀ w ∈ wsX120, w ∈ wsX12_get := fun _ h => List.mem_cons_of_mem _ (List.mem_append_right _ h)
  have w7 := hts (.fieldLink RX12 7 "ClownsMournModel" "a" "[I") (List.mem_of_getElem? (i := 1) rfl)
  have hl := lv_entry ([.ref (h 31), .int p1, .int p2]) (n := 3) (Nat.le_of_ble_eq_true rfl)
  rw [lg_entry_eq]
  generalize (lg_sl ([.ref (h 31), .int p1, .int p2]) ++ List.replicate (3 - (lg_sl ([.ref (h 31), .int p1, .int p2])).length) Slot.unset).toArray = ls at hl ⊢
  have hl : lv_has ls 3 [(0, .ref (h 31)), (1, .int p1), (2, .int p2)] := hl
  unfold wM_get at hw
  clear hD0
  refine lv_aload_n hx hb dX12_get_0 rfl (lv_at hl 0 rfl) ?_
  refine va_get (D := D) (ci := 11) (v := .ref (h 0)) (C := RX12) (T := TX12) (N := 31) hx hb hts hin hown hK hP 0 rfl rfl 0 (by decide) w7 (fun _ h9 => h9) rfl dX12_get_1 ?_
  refine lv_bipush (v := 10) hx hb dX12_get_4 (by decide) ?_
  refine lv_bipush (v := 6) hx hb dX12_get_6 (by decide) ?_
  refine lv_iload_n hx hb dX12_get_8 rfl (lv_at hl 1 rfl) ?_
  refine lv_imul hx hb dX12_get_9 ?_
  refine lv_iadd hx hb dX12_get_10 ?_
  refine lv_iload_n hx hb dX12_get_11 rfl (lv_at hl 2 rfl) ?_
  refine lv_iadd hx hb dX12_get_12 ?_
  obtain ⟨hi_1, hw⟩ := hw
  refine va_iald (f := (ms_a S)) hx hb hK hP 1 0 rfl rfl hi_1 dX12_get_13 ?_
  exact W.iret (v := (ms_a S) ((10 + (6 * p1)) + p2).toNatClampNeg) hx hb hr (fun t ht hW => ⟨⟨(ms_a S) ((10 + (6 * p1)) + p2).toNatClampNeg, S, rfl, hw, by rw [ht]; exact hP, va_K.moved hW.alike hK, hD⟩, hS.F ht⟩) hS.2.2 dX12_get_14
def wM_put (p1 : Int32) (p2 : Int32) (p3 : Int32) (S : MS) (post : MS → Prop) : Prop := (vp_in ((10 + (6 * p1)) + p2) 2454 ∧ ∀ S_1 : MS, S_1 = (ms_set_a S (upd (ms_a S) (((10 + (6 * p1)) + p2).toNatClampNeg) p3)) → post S_1)
set_option maxHeartbeats 4000000 in
set_option maxRecDepth 100000 in
theorem cM_put (l : Launch) (D : va_G) (h : Nat → Nat) (cy : Nat → ClassId) (p1 : Int32) (p2 : Int32) (p3 : Int32) (S : MS) (post : MS → Prop) (hw : wM_put p1 p2 p3 S post) : k_Mv l yX12_put wsX12_put { frames := 0, cells := 0, slots := 0, locals := 0 } D (tyM cy) (wM h cy) [.ref (h 31), .int p1, .int p2, .int p3] S post := by
  intro sz
  refine Met.ofW (cc := cX12_put) (maxL := 4) (ret := none) (by decide) rfl ?_
  intro p e s m args below meth c s₁ B hml hv
  obtain ⟨rfl, hsz, hP, hK, hD0⟩ := hv
  have hx := B.exec
  have hb := B.bytes
  have hr := B.returns
  have hts := atoms_spec (ws := wsX12_put) B.pre
  have hown : s.vm.findClass RX12 = some m.cls := findClass_of_methodNamed B.named
  have hlocks := B.notSynchronized
  subst hsz
  have hD := hD0.self (sz := s.heap.size)
  generalize hAe : va_A (wM h cy S) s.heap.size = A at hD ⊢
  have hA : ∀ q : Nat, s.heap.size ≤ q → A q := fun q h => by rw [← hAe]; exact Or.inr h
  have hS : va_S A s.heap s.heap [] := va_S.rf
  have hin : ∀ w ∈ wsX120, w ∈ wsX12_put := fun _ h => List.mem_cons_of_mem _ (List.mem_append_right _ h)
  have w7 := hts (.fieldLink RX12 7 "ClownsMournModel" "a" "[I") (List.mem_of_getElem? (i := 1) rfl)
  have hl := lv_entry ([.ref (h 31), .int p1, .int p2, .int p3]) (n := 4) (Nat.le_of_ble_eq_true rfl)
  rw [lg_entry_eq]
  generalize (lg_sl ([.ref (h 31), .int p1, .int p2, .int p3]) ++ List.replicate (4 - (lg_sl ([.ref (h 31), .int p1, .int p2, .int p3])).length) Slot.unset).toArray = ls at hl ⊢
  have hl : lv_has ls 4 [(0, .ref (h 31)), (1, .int p1), (2, .int p2), (3, .int p3)] := hl
  unfold wM_put at hw
  clear hD0
  refine lv_aload_n hx hb dX12_put_0 rfl (lv_at hl 0 rfl) ?_
  refine va_get (D := D) (ci := 11) (v := .ref (h 0)) (C := RX12) (T := TX12) (N := 31) hx hb hts hin hown hK hP 0 rfl rfl 0 (by decide) w7 (fun _ h9 => h9) rfl dX12_put_1 ?_
  refine lv_bipush (v := 10) hx hb dX12_put_4 (by decide) ?_
  refine lv_bipush (v := 6) hx hb dX12_put_6 (by decide) ?_
  refine lv_iload_n hx hb dX12_put_8 rfl (lv_at hl 1 rfl) ?_
  refine lv_imul hx hb dX12_put_9 ?_
  refine lv_iadd hx hb dX12_put_10 ?_
  refine lv_iload_n hx hb dX12_put_11 rfl (lv_at hl 2 rfl) ?_
  refine lv_iadd hx hb dX12_put_12 ?_
  refine lv_iload_n hx hb dX12_put_13 rfl (lv_at hl 3 rfl) ?_
  obtain ⟨hi_2, hw⟩ := hw
  refine va_iast (f := (ms_a S)) hx hb hK hP hD hS 1 0 rfl rfl hi_2 dX12_put_14 (fun H locs hP hD hS => ?_)
  obtain ⟨S_1, eS_1⟩ : ∃ z : MS, z = (ms_set_a S (upd (ms_a S) (((10 + (6 * p1)) + p2).toNatClampNeg) p3)) := ⟨_, rfl⟩
  have hw := hw S_1 eS_1
  have hP : va_P D vwCl (wM h cy S_1) H := by rw [eS_1, ← wMs_a]; exact hP
  have hD : va_D A (wM h cy S_1) := by rw [eS_1, ← wMs_a]; exact hD
  exact W.vret hx hb hr (fun t ht hW => ⟨⟨S_1, rfl, hw, by rw [ht]; exact hP, va_K.moved hW.alike hK, hD⟩, hS.F ht⟩) hS.2.2 dX12_put_15
def wM_own (p1 : Int32) (p2 : Int32) (S : MS) (post : Int32 → MS → Prop) : Prop := (vp_in ((46 + (5 * p1)) + p2) 2454 ∧ post ((ms_a S) ((46 + (5 * p1)) + p2).toNatClampNeg) S)
set_option maxHeartbeats 4000000 in
set_option maxRecDepth 100000 in
theorem cM_own (l : Launch) (D : va_G) (h : Nat → Nat) (cy : Nat → ClassId) (p1 : Int32) (p2 : Int32) (S : MS) (post : Int32 → MS → Prop) (hw : wM_own p1 p2 S post) : k_Mi l yX12_own wsX12_own { frames := 0, cells := 0, slots := 0, locals := 0 } D (tyM cy) (wM h cy) [.ref (h 31), .int p1, .int p2] S post := by
  intro sz
  refine Met.ofW (cc := cX12_own) (maxL := 3) (ret := (some .int)) (by decide) rfl ?_
  intro p e s m args below meth c s₁ B hml hv
  obtain ⟨rfl, hsz, hP, hK, hD0⟩ := hv
  have hx := B.exec
  have hb := B.bytes
  have hr := B.returns
  have hts := atoms_spec (ws := wsX12_own) B.pre
  have hown : s.vm.findClass RX12 = some m.cls := findClass_of_methodNamed B.named
  have hlocks := B.notSynchronized
  subst hsz
  have hD := hD0.self (sz := s.heap.size)
  generalize hAe : va_A (wM h cy S) s.heap.size = A at hD ⊢
  have hA : ∀ q : Nat, s.heap.size ≤ q → A q := fun q h => by rw [← hAe]; exact Or.inr h
  have hS : va_S A s.heap s.heap [] := va_S.rf
  have hin : ∀ w ∈ wsX120, w ∈ wsX12_own := fun _ h => List.mem_cons_of_mem _ (List.mem_append_right _ h)
  have w7 := hts (.fieldLink RX12 7 "ClownsMournModel" "a" "[I") (List.mem_of_getElem? (i := 1) rfl)
  have hl := lv_entry ([.ref (h 31), .int p1, .int p2]) (n := 3) (Nat.le_of_ble_eq_true rfl)
  rw [lg_entry_eq]
  generalize (lg_sl ([.ref (h 31), .int p1, .int p2]) ++ List.replicate (3 - (lg_sl ([.ref (h 31), .int p1, .int p2])).length) Slot.unset).toArray = ls at hl ⊢
  have hl : lv_has ls 3 [(0, .ref (h 31)), (1, .int p1), (2, .int p2)] := hl
  unfold wM_own at hw
  clear hD0
  refine lv_aload_n hx hb dX12_own_0 rfl (lv_at hl 0 rfl) ?_
  refine va_get (D := D) (ci := 11) (v := .ref (h 0)) (C := RX12) (T := TX12) (N := 31) hx hb hts hin hown hK hP 0 rfl rfl 0 (by decide) w7 (fun _ h9 => h9) rfl dX12_own_1 ?_
  refine lv_bipush (v := 46) hx hb dX12_own_4 (by decide) ?_
  refine lv_iconst (v := 5) hx hb dX12_own_6 (by decide) ?_
  refine lv_iload_n hx hb dX12_own_7 rfl (lv_at hl 1 rfl) ?_
  refine lv_imul hx hb dX12_own_8 ?_
  refine lv_iadd hx hb dX12_own_9 ?_
  refine lv_iload_n hx hb dX12_own_10 rfl (lv_at hl 2 rfl) ?_
  refine lv_iadd hx hb dX12_own_11 ?_
  obtain ⟨hi_1, hw⟩ := hw
  refine va_iald (f := (ms_a S)) hx hb hK hP 1 0 rfl rfl hi_1 dX12_own_12 ?_
  exact W.iret (v := (ms_a S) ((46 + (5 * p1)) + p2).toNatClampNeg) hx hb hr (fun t ht hW => ⟨⟨(ms_a S) ((46 + (5 * p1)) + p2).toNatClampNeg, S, rfl, hw, by rw [ht]; exact hP, va_K.moved hW.alike hK, hD⟩, hS.F ht⟩) hS.2.2 dX12_own_13
def wM_lay (p1 : Int32) (p2 : Int32) (p3 : Int32) (S : MS) (post : MS → Prop) : Prop := (vp_in ((46 + (5 * p1)) + p2) 2454 ∧ ∀ S_1 : MS, S_1 = (ms_set_a S (upd (ms_a S) (((46 + (5 * p1)) + p2).toNatClampNeg) p3)) → post S_1)
set_option maxHeartbeats 4000000 in
set_option maxRecDepth 100000 in
theorem cM_lay (l : Launch) (D : va_G) (h : Nat → Nat) (cy : Nat → ClassId) (p1 : Int32) (p2 : Int32) (p3 : Int32) (S : MS) (post : MS → Prop) (hw : wM_lay p1 p2 p3 S post) : k_Mv l yX12_lay wsX12_lay { frames := 0, cells := 0, slots := 0, locals := 0 } D (tyM cy) (wM h cy) [.ref (h 31), .int p1, .int p2, .int p3] S post := by
  intro sz
  refine Met.ofW (cc := cX12_lay) (maxL := 4) (ret := none) (by decide) rfl ?_
  intro p e s m args below meth c s₁ B hml hv
  obtain ⟨rfl, hsz, hP, hK, hD0⟩ := hv
  have hx := B.exec
  have hb := B.bytes
  have hr := B.returns
  have hts := atoms_spec (ws := wsX12_lay) B.pre
  have hown : s.vm.findClass RX12 = some m.cls := findClass_of_methodNamed B.named
  have hlocks := B.notSynchronized
  subst hsz
  have hD := hD0.self (sz := s.heap.size)
  generalize hAe : va_A (wM h cy S) s.heap.size = A at hD ⊢
  have hA : ∀ q : Nat, s.heap.size ≤ q → A q := fun q h => by rw [← hAe]; exact Or.inr h
  have hS : va_S A s.heap s.heap [] := va_S.rf
  have hin : ∀ w ∈ wsX120, w ∈ wsX12_lay := fun _ h => List.mem_cons_of_mem _ (List.mem_append_right _ h)
  have w7 := hts (.fieldLink RX12 7 "ClownsMournModel" "a" "[I") (List.mem_of_getElem? (i := 1) rfl)
  have hl := lv_entry ([.ref (h 31), .int p1, .int p2, .int p3]) (n := 4) (Nat.le_of_ble_eq_true rfl)
  rw [lg_entry_eq]
  generalize (lg_sl ([.ref (h 31), .int p1, .int p2, .int p3]) ++ List.replicate (4 - (lg_sl ([.ref (h 31), .int p1, .int p2, .int p3])).length) Slot.unset).toArray = ls at hl ⊢
  have hl : lv_has ls 4 [(0, .ref (h 31)), (1, .int p1), (2, .int p2), (3, .int p3)] := hl
  unfold wM_lay at hw
  clear hD0
  refine lv_aload_n hx hb dX12_lay_0 rfl (lv_at hl 0 rfl) ?_
  refine va_get (D := D) (ci := 11) (v := .ref (h 0)) (C := RX12) (T := TX12) (N := 31) hx hb hts hin hown hK hP 0 rfl rfl 0 (by decide) w7 (fun _ h9 => h9) rfl dX12_lay_1 ?_
  refine lv_bipush (v := 46) hx hb dX12_lay_4 (by decide) ?_
  refine lv_iconst (v := 5) hx hb dX12_lay_6 (by decide) ?_
  refine lv_iload_n hx hb dX12_lay_7 rfl (lv_at hl 1 rfl) ?_
  refine lv_imul hx hb dX12_lay_8 ?_
  refine lv_iadd hx hb dX12_lay_9 ?_
  refine lv_iload_n hx hb dX12_lay_10 rfl (lv_at hl 2 rfl) ?_
  refine lv_iadd hx hb dX12_lay_11 ?_
  refine lv_iload_n hx hb dX12_lay_12 rfl (lv_at hl 3 rfl) ?_
  obtain ⟨hi_2, hw⟩ := hw
  refine va_iast (f := (ms_a S)) hx hb hK hP hD hS 1 0 rfl rfl hi_2 dX12_lay_13 (fun H locs hP hD hS => ?_)
  obtain ⟨S_1, eS_1⟩ : ∃ z : MS, z = (ms_set_a S (upd (ms_a S) (((46 + (5 * p1)) + p2).toNatClampNeg) p3)) := ⟨_, rfl⟩
  have hw := hw S_1 eS_1
  have hP : va_P D vwCl (wM h cy S_1) H := by rw [eS_1, ← wMs_a]; exact hP
  have hD : va_D A (wM h cy S_1) := by rw [eS_1, ← wMs_a]; exact hD
  exact W.vret hx hb hr (fun t ht hW => ⟨⟨S_1, rfl, hw, by rw [ht]; exact hP, va_K.moved hW.alike hK, hD⟩, hS.F ht⟩) hS.2.2 dX12_lay_14
def wM_moodBy (p1 : Int32) (p2 : Int32) (S : MS) (post : Int32 → MS → Prop) : Prop := (vp_in ((71 + (10 * p1)) + p2) 2454 ∧ post ((ms_a S) ((71 + (10 * p1)) + p2).toNatClampNeg) S)
set_option maxHeartbeats 4000000 in
set_option maxRecDepth 100000 in
theorem cM_moodBy (l : Launch) (D : va_G) (h : Nat → Nat) (cy : Nat → ClassId) (p1 : Int32) (p2 : Int32) (S : MS) (post : Int32 → MS → Prop) (hw : wM_moodBy p1 p2 S post) : k_Mi l yX12_moodBy wsX12_moodBy { frames := 0, cells := 0, slots := 0, locals := 0 } D (tyM cy) (wM h cy) [.ref (h 31), .int p1, .int p2] S post := by
  intro sz
  refine Met.ofW (cc := cX12_moodBy) (maxL := 3) (ret := (some .int)) (by decide) rfl ?_
  intro p e s m args below meth c s₁ B hml hv
  obtain ⟨rfl, hsz, hP, hK, hD0⟩ := hv
  have hx := B.exec
  have hb := B.bytes
  have hr := B.returns
  have hts := atoms_spec (ws := wsX12_moodBy) B.pre
  have hown : s.vm.findClass RX12 = some m.cls := findClass_of_methodNamed B.named
  have hlocks := B.notSynchronized
  subst hsz
  have hD := hD0.self (sz := s.heap.size)
  generalize hAe : va_A (wM h cy S) s.heap.size = A at hD ⊢
  have hA : ∀ q : Nat, s.heap.size ≤ q → A q := fun q h => by rw [← hAe]; exact Or.inr h
  have hS : va_S A s.heap s.heap [] := va_S.rf
  have hin : ∀ w ∈ wsX120, w ∈ wsX12_moodBy := fun _ h => List.mem_cons_of_mem _ (List.mem_append_right _ h)
  have w7 := hts (.fieldLink RX12 7 "ClownsMournModel" "a" "[I") (List.mem_of_getElem? (i := 1) rfl)
  have hl := lv_entry ([.ref (h 31), .int p1, .int p2]) (n := 3) (Nat.le_of_ble_eq_true rfl)
  rw [lg_entry_eq]
  generalize (lg_sl ([.ref (h 31), .int p1, .int p2]) ++ List.replicate (3 - (lg_sl ([.ref (h 31), .int p1, .int p2])).length) Slot.unset).toArray = ls at hl ⊢
  have hl : lv_has ls 3 [(0, .ref (h 31)), (1, .int p1), (2, .int p2)] := hl
  unfold wM_moodBy at hw
  clear hD0
  refine lv_aload_n hx hb dX12_moodBy_0 rfl (lv_at hl 0 rfl) ?_
  refine va_get (D := D) (ci := 11) (v := .ref (h 0)) (C := RX12) (T := TX12) (N := 31) hx hb hts hin hown hK hP 0 rfl rfl 0 (by decide) w7 (fun _ h9 => h9) rfl dX12_moodBy_1 ?_
  refine lv_bipush (v := 71) hx hb dX12_moodBy_4 (by decide) ?_
  refine lv_bipush (v := 10) hx hb dX12_moodBy_6 (by decide) ?_
  refine lv_iload_n hx hb dX12_moodBy_8 rfl (lv_at hl 1 rfl) ?_
  refine lv_imul hx hb dX12_moodBy_9 ?_
  refine lv_iadd hx hb dX12_moodBy_10 ?_
  refine lv_iload_n hx hb dX12_moodBy_11 rfl (lv_at hl 2 rfl) ?_
  refine lv_iadd hx hb dX12_moodBy_12 ?_
  obtain ⟨hi_1, hw⟩ := hw
  refine va_iald (f := (ms_a S)) hx hb hK hP 1 0 rfl rfl hi_1 dX12_moodBy_13 ?_
  exact W.iret (v := (ms_a S) ((71 + (10 * p1)) + p2).toNatClampNeg) hx hb hr (fun t ht hW => ⟨⟨(ms_a S) ((71 + (10 * p1)) + p2).toNatClampNeg, S, rfl, hw, by rw [ht]; exact hP, va_K.moved hW.alike hK, hD⟩, hS.F ht⟩) hS.2.2 dX12_moodBy_14
def wM_thereAt_4 (post : Int32 → MS → Prop) : Nat → Int32 → Int32 → Int32 → MS → Prop
  | 0, _, _, _, _ => False
  | n + 1, x1, x2, x3, S => ((((ms_a S) 1) ≤ x3 → post x2 S) ∧ (¬ (((ms_a S) 1) ≤ x3) → wM_own x3 1 S (fun r_2 S_3 => ((r_2 = x1 → wM_thereAt_4 post n x1 (x2 ||| (k_shl 1 x3)) (x3 + 1) S_3) ∧ (¬ (r_2 = x1) → wM_thereAt_4 post n x1 (x2 ||| 0) (x3 + 1) S_3)))))
def wM_thereAt (p1 : Int32) (S : MS) (post : Int32 → MS → Prop) : Prop := ∃ k_ : Nat, wM_thereAt_4 post k_ p1 0 0 S
set_option maxHeartbeats 4000000 in
set_option maxRecDepth 100000 in
theorem cM_thereAt (l : Launch) (D : va_G) (h : Nat → Nat) (cy : Nat → ClassId) (p1 : Int32) (S : MS) (post : Int32 → MS → Prop) (hw : wM_thereAt p1 S post) : k_Mi l yX12_thereAt wsX12_thereAt { frames := 1, cells := 0, slots := 0, locals := 22 } D (tyM cy) (wM h cy) [.ref (h 31), .int p1] S post := by
  intro sz
  refine Met.ofW (cc := cX12_thereAt) (maxL := 4) (ret := (some .int)) (by decide) rfl ?_
  intro p e s m args below meth c s₁ B hml hv
  obtain ⟨rfl, hsz, hP, hK, hD0⟩ := hv
  have hx := B.exec
  have hb := B.bytes
  have hr := B.returns
  have hts := atoms_spec (ws := wsX12_thereAt) B.pre
  have hown : s.vm.findClass RX12 = some m.cls := findClass_of_methodNamed B.named
  have hlocks := B.notSynchronized
  subst hsz
  have hD := hD0.self (sz := s.heap.size)
  generalize hAe : va_A (wM h cy S) s.heap.size = A at hD ⊢
  have hA : ∀ q : Nat, s.heap.size ≤ q → A q := fun q h => by rw [← hAe]; exact Or.inr h
  have hS : va_S A s.heap s.heap [] := va_S.rf
  have hin : ∀ w ∈ wsX120, w ∈ wsX12_thereAt := fun _ h => List.mem_cons_of_mem _ (List.mem_append_right _ h)
  have w7 := hts (.fieldLink RX12 7 "ClownsMournModel" "a" "[I") (List.mem_of_getElem? (i := 1) rfl)
  have hl := lv_entry ([.ref (h 31), .int p1]) (n := 4) (Nat.le_of_ble_eq_true rfl)
  rw [lg_entry_eq]
  generalize (lg_sl ([.ref (h 31), .int p1]) ++ List.replicate (4 - (lg_sl ([.ref (h 31), .int p1])).length) Slot.unset).toArray = ls at hl ⊢
  have hl : lv_has ls 4 [(0, .ref (h 31)), (1, .int p1)] := hl
  unfold wM_thereAt at hw
  clear hD0
  have L_4 : ∀ (n4 : Nat) (x1 : Int32) (x2 : Int32) (x3 : Int32) (S : MS) (H : Heap) (locs : List Loc) (ls : Array Slot), wM_thereAt_4 post n4 x1 x2 x3 S → va_P D vwCl (wM h cy S) H → va_D A (wM h cy S) → va_S A s.heap H locs → lv_has ls 4 [(0, .ref (h 31)), (1, .int x1), (2, .int x2), (3, .int x3)] → W p l e (headSpec wsX12_thereAt { frames := 1, cells := 0, slots := 0, locals := 22 }).room s m (([.ref (h 31), .int p1] : List Value).toArray) below meth c H locs 0 0 (MQ below (va_Qi post (k_Post D (tyM cy) (wM h cy) A) A) (([.ref (h 31), .int p1] : List Value).toArray) s 0 0 A) (F0 m 4 ls []) := by
    intro n4
    induction n4 with
    | zero => intro x1 x2 x3 S H locs ls hw; exact False.elim hw
    | succ n4 ih_4 =>
      intro x1 x2 x3 S H locs ls hw hP hD hS hl
      unfold wM_thereAt_4 at hw
      refine lv_iload_n hx hb dX12_thereAt_4 rfl (lv_at hl 3 rfl) ?_
      refine lv_aload_n hx hb dX12_thereAt_5 rfl (lv_at hl 0 rfl) ?_
      refine va_get (D := D) (ci := 11) (v := .ref (h 0)) (C := RX12) (T := TX12) (N := 31) hx hb hts hin hown hK hP 0 rfl rfl 0 (by decide) w7 (fun _ h9 => h9) rfl dX12_thereAt_6 ?_
      refine lv_iconst (v := 1) hx hb dX12_thereAt_9 (by decide) ?_
      refine k_iald (f := (ms_a S)) (j := 1) hx hb hK hP 1 0 rfl rfl (by decide +kernel) rfl dX12_thereAt_10 ?_
      obtain ⟨hc_1t, hc_1f⟩ := hw
      refine lv_icmp_ge (tgt := 40) hx hb dX12_thereAt_11 (by decide) (fun c_1 => ?_) (fun c_1 => ?_)
      · have hw := hc_1t c_1
        clear hc_1t hc_1f
        refine lv_iload_n hx hb dX12_thereAt_40 rfl (lv_at hl 2 rfl) ?_
        exact W.iret (v := x2) hx hb hr (fun t ht hW => ⟨⟨x2, S, rfl, hw, by rw [ht]; exact hP, va_K.moved hW.alike hK, hD⟩, hS.F ht⟩) hS.2.2 dX12_thereAt_41
      · have hw := hc_1f c_1
        clear hc_1t hc_1f
        refine lv_iload_n hx hb dX12_thereAt_14 rfl (lv_at hl 2 rfl) ?_
        refine lv_aload_n hx hb dX12_thereAt_15 rfl (lv_at hl 0 rfl) ?_
        refine lv_iload_n hx hb dX12_thereAt_16 rfl (lv_at hl 3 rfl) ?_
        refine lv_iconst (v := 1) hx hb dX12_thereAt_17 (by decide) ?_
        refine k_callVi (As := [.int x3, .int 1]) (rest := [.int x2]) ⟨hx, hb, hml, hown, hts⟩ (cM_own l D h cy _ _ _ _ hw) (cwV 2 hts gX12_thereAt_X12_own rfl rfl rfl (by decide +kernel) ⟨Nat.le_of_ble_eq_true rfl, Nat.le_of_ble_eq_true rfl⟩) (va_recv hK hP (ci := 11) (q0 := 0) rfl rfl) hK hP hD hS hA rfl hl.1 rfl (Nat.le_of_ble_eq_true rfl) dX12_thereAt_18 ⟨Nat.zero_le _, Nat.zero_le _⟩ (fun r_2 S_3 H locs hw hP hD hS => ?_)
        refine lv_iload_n hx hb dX12_thereAt_21 rfl (lv_at hl 1 rfl) ?_
        obtain ⟨hc_4t, hc_4f⟩ := hw
        refine lv_icmp_ne (tgt := 31) hx hb dX12_thereAt_22 (by decide) (fun c_4 => ?_) (fun c_4 => ?_)
        · have hw := hc_4f c_4
          clear hc_4t hc_4f
          refine lv_iconst (v := 0) hx hb dX12_thereAt_31 (by decide) ?_
          refine lv_ior hx hb dX12_thereAt_32 ?_
          refine lv_istore_n (lv' := [(2, .int (x2 ||| 0)), (0, .ref (h 31)), (1, .int x1), (3, .int x3)]) hx hb dX12_thereAt_33 rfl hl (by decide) rfl (fun ls hl => ?_)
          refine lv_iinc (v := x3 + 1) (lv' := [(3, .int (x3 + 1)), (2, .int (x2 ||| 0)), (0, .ref (h 31)), (1, .int x1)]) hx hb dX12_thereAt_34 hl (k := 3) rfl (k_inc (by decide)) (by decide) rfl (fun ls hl => ?_)
          refine lv_goto (tgt := 4) hx hb dX12_thereAt_37 (by decide) ?_
          exact ih_4 x1 (x2 ||| 0) (x3 + 1) S_3 _ _ _ hw hP hD hS (lv_sub hl [2, 3, 1, 0] rfl)
        · have hw := hc_4t c_4
          clear hc_4t hc_4f
          refine lv_iconst (v := 1) hx hb dX12_thereAt_25 (by decide) ?_
          refine lv_iload_n hx hb dX12_thereAt_26 rfl (lv_at hl 3 rfl) ?_
          refine k_ishl hx hb dX12_thereAt_27 ?_
          refine lv_goto (tgt := 32) hx hb dX12_thereAt_28 (by decide) ?_
          refine lv_ior hx hb dX12_thereAt_32 ?_
          refine lv_istore_n (lv' := [(2, .int (x2 ||| (k_shl 1 x3))), (0, .ref (h 31)), (1, .int x1), (3, .int x3)]) hx hb dX12_thereAt_33 rfl hl (by decide) rfl (fun ls hl => ?_)
          refine lv_iinc (v := x3 + 1) (lv' := [(3, .int (x3 + 1)), (2, .int (x2 ||| (k_shl 1 x3))), (0, .ref (h 31)), (1, .int x1)]) hx hb dX12_thereAt_34 hl (k := 3) rfl (k_inc (by decide)) (by decide) rfl (fun ls hl => ?_)
          refine lv_goto (tgt := 4) hx hb dX12_thereAt_37 (by decide) ?_
          exact ih_4 x1 (x2 ||| (k_shl 1 x3)) (x3 + 1) S_3 _ _ _ hw hP hD hS (lv_sub hl [2, 3, 1, 0] rfl)
  refine lv_iconst (v := 0) hx hb dX12_thereAt_0 (by decide) ?_
  refine lv_istore_n (lv' := [(2, .int 0), (0, .ref (h 31)), (1, .int p1)]) hx hb dX12_thereAt_1 rfl hl (by decide) rfl (fun ls hl => ?_)
  refine lv_iconst (v := 0) hx hb dX12_thereAt_2 (by decide) ?_
  refine lv_istore_n (lv' := [(3, .int 0), (2, .int 0), (0, .ref (h 31)), (1, .int p1)]) hx hb dX12_thereAt_3 rfl hl (by decide) rfl (fun ls hl => ?_)
  obtain ⟨n_4, hw⟩ := hw
  exact L_4 n_4 p1 0 0 S _ _ _ hw hP hD hS (lv_sub hl [2, 3, 1, 0] rfl)
def wM_begin (p1 : Int32) (S : MS) (post : MS → Prop) : Prop := wM_get p1 5 S (fun r_1 S_2 => wM_put p1 0 r_1 S_2 (fun S_4 => wM_put p1 1 0 S_4 (fun S_6 => wM_put p1 2 (-1) S_6 (fun S_8 => wM_put p1 3 0 S_8 (fun S_10 => post S_10)))))
set_option maxHeartbeats 4000000 in
set_option maxRecDepth 100000 in
theorem cM_begin (l : Launch) (D : va_G) (h : Nat → Nat) (cy : Nat → ClassId) (p1 : Int32) (S : MS) (post : MS → Prop) (hw : wM_begin p1 S post) : k_Mv l yX12_begin wsX12_begin { frames := 1, cells := 0, slots := 0, locals := 23 } D (tyM cy) (wM h cy) [.ref (h 31), .int p1] S post := by
  intro sz
  refine Met.ofW (cc := cX12_begin) (maxL := 2) (ret := none) (by decide) rfl ?_
  intro p e s m args below meth c s₁ B hml hv
  obtain ⟨rfl, hsz, hP, hK, hD0⟩ := hv
  have hx := B.exec
  have hb := B.bytes
  have hr := B.returns
  have hts := atoms_spec (ws := wsX12_begin) B.pre
  have hown : s.vm.findClass RX12 = some m.cls := findClass_of_methodNamed B.named
  have hlocks := B.notSynchronized
  subst hsz
  have hD := hD0.self (sz := s.heap.size)
  generalize hAe : va_A (wM h cy S) s.heap.size = A at hD ⊢
  have hA : ∀ q : Nat, s.heap.size ≤ q → A q := fun q h => by rw [← hAe]; exact Or.inr h
  have hS : va_S A s.heap s.heap [] := va_S.rf
  have hl := lv_entry ([.ref (h 31), .int p1]) (n := 2) (Nat.le_of_ble_eq_true rfl)
  rw [lg_entry_eq]
  generalize (lg_sl ([.ref (h 31), .int p1]) ++ List.replicate (2 - (lg_sl ([.ref (h 31), .int p1])).length) Slot.unset).toArray = ls at hl ⊢
  have hl : lv_has ls 2 [(0, .ref (h 31)), (1, .int p1)] := hl
  unfold wM_begin at hw
  clear hD0
  refine lv_aload_n hx hb dX12_begin_0 rfl (lv_at hl 0 rfl) ?_
  refine lv_iload_n hx hb dX12_begin_1 rfl (lv_at hl 1 rfl) ?_
  refine lv_iconst (v := 0) hx hb dX12_begin_2 (by decide) ?_
  refine lv_aload_n hx hb dX12_begin_3 rfl (lv_at hl 0 rfl) ?_
  refine lv_iload_n hx hb dX12_begin_4 rfl (lv_at hl 1 rfl) ?_
  refine lv_iconst (v := 5) hx hb dX12_begin_5 (by decide) ?_
  refine k_callVi (As := [.int p1, .int 5]) (rest := [.int 0, .int p1, .ref (h 31)]) ⟨hx, hb, hml, hown, hts⟩ (cM_get l D h cy _ _ _ _ hw) (cwV 2 hts gX12_begin_X12_get rfl rfl rfl (by decide +kernel) ⟨Nat.le_of_ble_eq_true rfl, Nat.le_of_ble_eq_true rfl⟩) (va_recv hK hP (ci := 11) (q0 := 0) rfl rfl) hK hP hD hS hA rfl hl.1 rfl (Nat.le_of_ble_eq_true rfl) dX12_begin_6 ⟨Nat.zero_le _, Nat.zero_le _⟩ (fun r_1 S_2 H locs hw hP hD hS => ?_)
  refine k_callVv (As := [.int p1, .int 0, .int r_1]) (rest := []) ⟨hx, hb, hml, hown, hts⟩ (cM_put l D h cy _ _ _ _ _ hw) (cwV 3 hts gX12_begin_X12_put rfl rfl rfl (by decide +kernel) ⟨Nat.le_of_ble_eq_true rfl, Nat.le_of_ble_eq_true rfl⟩) (va_recv hK hP (ci := 11) (q0 := 0) rfl rfl) hK hP hD hS hA rfl hl.1 rfl (Nat.le_of_ble_eq_true rfl) dX12_begin_9 ⟨Nat.zero_le _, Nat.zero_le _⟩ (fun S_4 H locs hw hP hD hS => ?_)
  refine lv_aload_n hx hb dX12_begin_12 rfl (lv_at hl 0 rfl) ?_
  refine lv_iload_n hx hb dX12_begin_13 rfl (lv_at hl 1 rfl) ?_
  refine lv_iconst (v := 1) hx hb dX12_begin_14 (by decide) ?_
  refine lv_iconst (v := 0) hx hb dX12_begin_15 (by decide) ?_
  refine k_callVv (As := [.int p1, .int 1, .int 0]) (rest := []) ⟨hx, hb, hml, hown, hts⟩ (cM_put l D h cy _ _ _ _ _ hw) (cwV 3 hts gX12_begin_X12_put rfl rfl rfl (by decide +kernel) ⟨Nat.le_of_ble_eq_true rfl, Nat.le_of_ble_eq_true rfl⟩) (va_recv hK hP (ci := 11) (q0 := 0) rfl rfl) hK hP hD hS hA rfl hl.1 rfl (Nat.le_of_ble_eq_true rfl) dX12_begin_16 ⟨Nat.zero_le _, Nat.zero_le _⟩ (fun S_6 H locs hw hP hD hS => ?_)
  refine lv_aload_n hx hb dX12_begin_19 rfl (lv_at hl 0 rfl) ?_
  refine lv_iload_n hx hb dX12_begin_20 rfl (lv_at hl 1 rfl) ?_
  refine lv_iconst (v := 2) hx hb dX12_begin_21 (by decide) ?_
  refine lv_iconst (v := (-1)) hx hb dX12_begin_22 (by decide) ?_
  refine k_callVv (As := [.int p1, .int 2, .int (-1)]) (rest := []) ⟨hx, hb, hml, hown, hts⟩ (cM_put l D h cy _ _ _ _ _ hw) (cwV 3 hts gX12_begin_X12_put rfl rfl rfl (by decide +kernel) ⟨Nat.le_of_ble_eq_true rfl, Nat.le_of_ble_eq_true rfl⟩) (va_recv hK hP (ci := 11) (q0 := 0) rfl rfl) hK hP hD hS hA rfl hl.1 rfl (Nat.le_of_ble_eq_true rfl) dX12_begin_23 ⟨Nat.zero_le _, Nat.zero_le _⟩ (fun S_8 H locs hw hP hD hS => ?_)
  refine lv_aload_n hx hb dX12_begin_26 rfl (lv_at hl 0 rfl) ?_
  refine lv_iload_n hx hb dX12_begin_27 rfl (lv_at hl 1 rfl) ?_
  refine lv_iconst (v := 3) hx hb dX12_begin_28 (by decide) ?_
  refine lv_iconst (v := 0) hx hb dX12_begin_29 (by decide) ?_
  refine k_callVv (As := [.int p1, .int 3, .int 0]) (rest := []) ⟨hx, hb, hml, hown, hts⟩ (cM_put l D h cy _ _ _ _ _ hw) (cwV 3 hts gX12_begin_X12_put rfl rfl rfl (by decide +kernel) ⟨Nat.le_of_ble_eq_true rfl, Nat.le_of_ble_eq_true rfl⟩) (va_recv hK hP (ci := 11) (q0 := 0) rfl rfl) hK hP hD hS hA rfl hl.1 rfl (Nat.le_of_ble_eq_true rfl) dX12_begin_30 ⟨Nat.zero_le _, Nat.zero_le _⟩ (fun S_10 H locs hw hP hD hS => ?_)
  exact W.vret hx hb hr (fun t ht hW => ⟨⟨S_10, rfl, hw, by rw [ht]; exact hP, va_K.moved hW.alike hK, hD⟩, hS.F ht⟩) hS.2.2 dX12_begin_33
def wM_house (p1 : Int32) (p2 : Int32) (S : MS) (post : Int32 → MS → Prop) : Prop := wM_isIn p1 0 3 S (fun r_1 S_2 => ((r_1 = 0 → post (-1) S_2) ∧ (¬ (r_1 = 0) → wM_isIn p2 0 99 S_2 (fun r_4 S_5 => ((r_4 = 0 → post (-1) S_5) ∧ (¬ (r_4 = 0) → ((((ms_a S_5) 0) = 6 → post (-1) S_5) ∧ (¬ (((ms_a S_5) 0) = 6) → wM_put ((ms_a S_5) 0) 4 p1 S_5 (fun S_9 => wM_put ((ms_a S_5) 0) 5 p2 S_9 (fun S_11 => wM_begin ((ms_a S_5) 0) S_11 (fun S_13 => (∀ S_14 : MS, S_14 = (ms_set_a S_13 (upd (ms_a S_13) 0 (((ms_a S_13) 0) + 1))) → post ((ms_a S_5) 0) S_14))))))))))))
set_option maxHeartbeats 4000000 in
set_option maxRecDepth 100000 in
theorem cM_house (l : Launch) (D : va_G) (h : Nat → Nat) (cy : Nat → ClassId) (p1 : Int32) (p2 : Int32) (S : MS) (post : Int32 → MS → Prop) (hw : wM_house p1 p2 S post) : k_Mi l yX12_house wsX12_house { frames := 2, cells := 0, slots := 0, locals := 44 } D (tyM cy) (wM h cy) [.ref (h 31), .int p1, .int p2] S post := by
  intro sz
  refine Met.ofW (cc := cX12_house) (maxL := 4) (ret := (some .int)) (by decide) rfl ?_
  intro p e s m args below meth c s₁ B hml hv
  obtain ⟨rfl, hsz, hP, hK, hD0⟩ := hv
  have hx := B.exec
  have hb := B.bytes
  have hr := B.returns
  have hts := atoms_spec (ws := wsX12_house) B.pre
  have hown : s.vm.findClass RX12 = some m.cls := findClass_of_methodNamed B.named
  have hlocks := B.notSynchronized
  subst hsz
  have hD := hD0.self (sz := s.heap.size)
  generalize hAe : va_A (wM h cy S) s.heap.size = A at hD ⊢
  have hA : ∀ q : Nat, s.heap.size ≤ q → A q := fun q h => by rw [← hAe]; exact Or.inr h
  have hS : va_S A s.heap s.heap [] := va_S.rf
  have hin : ∀ w ∈ wsX120, w ∈ wsX12_house := fun _ h => List.mem_cons_of_mem _ (List.mem_append_right _ h)
  have w7 := hts (.fieldLink RX12 7 "ClownsMournModel" "a" "[I") (List.mem_of_getElem? (i := 1) rfl)
  have hl := lv_entry ([.ref (h 31), .int p1, .int p2]) (n := 4) (Nat.le_of_ble_eq_true rfl)
  rw [lg_entry_eq]
  generalize (lg_sl ([.ref (h 31), .int p1, .int p2]) ++ List.replicate (4 - (lg_sl ([.ref (h 31), .int p1, .int p2])).length) Slot.unset).toArray = ls at hl ⊢
  have hl : lv_has ls 4 [(0, .ref (h 31)), (1, .int p1), (2, .int p2)] := hl
  unfold wM_house at hw
  clear hD0
  refine lv_iload_n hx hb dX12_house_0 rfl (lv_at hl 1 rfl) ?_
  refine lv_iconst (v := 0) hx hb dX12_house_1 (by decide) ?_
  refine lv_iconst (v := 3) hx hb dX12_house_2 (by decide) ?_
  refine k_callSi (As := [.int p1, .int 0, .int 3]) (rest := []) ⟨hx, hb, hml, hown, hts⟩ (cM_isIn l D h cy _ _ _ _ _ hw) (va_cwS 3 hts gX12_house_X12_isIn rfl rfl rfl (by decide +kernel) ⟨Nat.le_of_ble_eq_true rfl, Nat.le_of_ble_eq_true rfl⟩) hK hP hD hS hA rfl hl.1 rfl (Nat.le_of_ble_eq_true rfl) dX12_house_3 ⟨Nat.zero_le _, Nat.zero_le _⟩ (fun r_1 S_2 H locs hw hP hD hS => ?_)
  obtain ⟨hc_3t, hc_3f⟩ := hw
  refine lv_if_eq (tgt := 30) hx hb dX12_house_6 (by decide) (fun c_3 => ?_) (fun c_3 => ?_)
  · have hw := hc_3t c_3
    clear hc_3t hc_3f
    refine lv_iconst (v := (-1)) hx hb dX12_house_30 (by decide) ?_
    exact W.iret (v := (-1)) hx hb hr (fun t ht hW => ⟨⟨(-1), S_2, rfl, hw, by rw [ht]; exact hP, va_K.moved hW.alike hK, hD⟩, hS.F ht⟩) hS.2.2 dX12_house_31
  · have hw := hc_3f c_3
    clear hc_3t hc_3f
    refine lv_iload_n hx hb dX12_house_9 rfl (lv_at hl 2 rfl) ?_
    refine lv_iconst (v := 0) hx hb dX12_house_10 (by decide) ?_
    refine lv_bipush (v := 99) hx hb dX12_house_11 (by decide) ?_
    refine k_callSi (As := [.int p2, .int 0, .int 99]) (rest := []) ⟨hx, hb, hml, hown, hts⟩ (cM_isIn l D h cy _ _ _ _ _ hw) (va_cwS 3 hts gX12_house_X12_isIn rfl rfl rfl (by decide +kernel) ⟨Nat.le_of_ble_eq_true rfl, Nat.le_of_ble_eq_true rfl⟩) hK hP hD hS hA rfl hl.1 rfl (Nat.le_of_ble_eq_true rfl) dX12_house_13 ⟨Nat.zero_le _, Nat.zero_le _⟩ (fun r_4 S_5 H locs hw hP hD hS => ?_)
    obtain ⟨hc_6t, hc_6f⟩ := hw
    refine lv_if_eq (tgt := 30) hx hb dX12_house_16 (by decide) (fun c_6 => ?_) (fun c_6 => ?_)
    · have hw := hc_6t c_6
      clear hc_6t hc_6f
      refine lv_iconst (v := (-1)) hx hb dX12_house_30 (by decide) ?_
      exact W.iret (v := (-1)) hx hb hr (fun t ht hW => ⟨⟨(-1), S_5, rfl, hw, by rw [ht]; exact hP, va_K.moved hW.alike hK, hD⟩, hS.F ht⟩) hS.2.2 dX12_house_31
    · have hw := hc_6f c_6
      clear hc_6t hc_6f
      refine lv_aload_n hx hb dX12_house_19 rfl (lv_at hl 0 rfl) ?_
      refine va_get (D := D) (ci := 11) (v := .ref (h 0)) (C := RX12) (T := TX12) (N := 31) hx hb hts hin hown hK hP 0 rfl rfl 0 (by decide) w7 (fun _ h9 => h9) rfl dX12_house_20 ?_
      refine lv_iconst (v := 0) hx hb dX12_house_23 (by decide) ?_
      refine k_iald (f := (ms_a S_5)) (j := 0) hx hb hK hP 1 0 rfl rfl (by decide +kernel) rfl dX12_house_24 ?_
      refine lv_bipush (v := 6) hx hb dX12_house_25 (by decide) ?_
      obtain ⟨hc_7t, hc_7f⟩ := hw
      refine lv_icmp_ne (tgt := 32) hx hb dX12_house_27 (by decide) (fun c_7 => ?_) (fun c_7 => ?_)
      · have hw := hc_7f c_7
        clear hc_7t hc_7f
        refine lv_aload_n hx hb dX12_house_32 rfl (lv_at hl 0 rfl) ?_
        refine va_get (D := D) (ci := 11) (v := .ref (h 0)) (C := RX12) (T := TX12) (N := 31) hx hb hts hin hown hK hP 0 rfl rfl 0 (by decide) w7 (fun _ h9 => h9) rfl dX12_house_33 ?_
        refine lv_iconst (v := 0) hx hb dX12_house_36 (by decide) ?_
        refine k_iald (f := (ms_a S_5)) (j := 0) hx hb hK hP 1 0 rfl rfl (by decide +kernel) rfl dX12_house_37 ?_
        refine lv_istore_n (lv' := [(3, .int ((ms_a S_5) 0)), (0, .ref (h 31)), (1, .int p1), (2, .int p2)]) hx hb dX12_house_38 rfl hl (by decide) rfl (fun ls hl => ?_)
        refine lv_aload_n hx hb dX12_house_39 rfl (lv_at hl 1 rfl) ?_
        refine lv_iload_n hx hb dX12_house_40 rfl (lv_at hl 0 rfl) ?_
        refine lv_iconst (v := 4) hx hb dX12_house_41 (by decide) ?_
        refine lv_iload_n hx hb dX12_house_42 rfl (lv_at hl 2 rfl) ?_
        refine k_callVv (As := [.int ((ms_a S_5) 0), .int 4, .int p1]) (rest := []) ⟨hx, hb, hml, hown, hts⟩ (cM_put l D h cy _ _ _ _ _ hw) (cwV 3 hts gX12_house_X12_put rfl rfl rfl (by decide +kernel) ⟨Nat.le_of_ble_eq_true rfl, Nat.le_of_ble_eq_true rfl⟩) (va_recv hK hP (ci := 11) (q0 := 0) rfl rfl) hK hP hD hS hA rfl hl.1 rfl (Nat.le_of_ble_eq_true rfl) dX12_house_43 ⟨Nat.zero_le _, Nat.zero_le _⟩ (fun S_9 H locs hw hP hD hS => ?_)
        refine lv_aload_n hx hb dX12_house_46 rfl (lv_at hl 1 rfl) ?_
        refine lv_iload_n hx hb dX12_house_47 rfl (lv_at hl 0 rfl) ?_
        refine lv_iconst (v := 5) hx hb dX12_house_48 (by decide) ?_
        refine lv_iload_n hx hb dX12_house_49 rfl (lv_at hl 3 rfl) ?_
        refine k_callVv (As := [.int ((ms_a S_5) 0), .int 5, .int p2]) (rest := []) ⟨hx, hb, hml, hown, hts⟩ (cM_put l D h cy _ _ _ _ _ hw) (cwV 3 hts gX12_house_X12_put rfl rfl rfl (by decide +kernel) ⟨Nat.le_of_ble_eq_true rfl, Nat.le_of_ble_eq_true rfl⟩) (va_recv hK hP (ci := 11) (q0 := 0) rfl rfl) hK hP hD hS hA rfl hl.1 rfl (Nat.le_of_ble_eq_true rfl) dX12_house_50 ⟨Nat.zero_le _, Nat.zero_le _⟩ (fun S_11 H locs hw hP hD hS => ?_)
        refine lv_aload_n hx hb dX12_house_53 rfl (lv_at hl 1 rfl) ?_
        refine lv_iload_n hx hb dX12_house_54 rfl (lv_at hl 0 rfl) ?_
        refine k_callVv (As := [.int ((ms_a S_5) 0)]) (rest := []) ⟨hx, hb, hml, hown, hts⟩ (cM_begin l D h cy _ _ _ hw) (cwV 1 hts gX12_house_X12_begin rfl rfl rfl (by decide +kernel) ⟨Nat.le_of_ble_eq_true rfl, Nat.le_of_ble_eq_true rfl⟩) (va_recv hK hP (ci := 11) (q0 := 0) rfl rfl) hK hP hD hS hA rfl hl.1 rfl (Nat.le_of_ble_eq_true rfl) dX12_house_55 ⟨Nat.zero_le _, Nat.zero_le _⟩ (fun S_13 H locs hw hP hD hS => ?_)
        refine lv_aload_n hx hb dX12_house_58 rfl (lv_at hl 1 rfl) ?_
        refine va_get (D := D) (ci := 11) (v := .ref (h 0)) (C := RX12) (T := TX12) (N := 31) hx hb hts hin hown hK hP 0 rfl rfl 0 (by decide) w7 (fun _ h9 => h9) rfl dX12_house_59 ?_
        refine lv_iconst (v := 0) hx hb dX12_house_62 (by decide) ?_
        refine lv_dup2_11 hx hb dX12_house_63 rfl rfl ?_
        refine k_iald (f := (ms_a S_13)) (j := 0) hx hb hK hP 1 0 rfl rfl (by decide +kernel) rfl dX12_house_64 ?_
        refine lv_iconst (v := 1) hx hb dX12_house_65 (by decide) ?_
        refine lv_iadd hx hb dX12_house_66 ?_
        refine k_iast (f := (ms_a S_13)) (j := 0) hx hb hK hP hD hS 1 0 rfl rfl (by decide +kernel) rfl dX12_house_67 (fun H locs hP hD hS => ?_)
        obtain ⟨S_14, eS_14⟩ : ∃ z : MS, z = (ms_set_a S_13 (upd (ms_a S_13) 0 (((ms_a S_13) 0) + 1))) := ⟨_, rfl⟩
        have hw := hw S_14 eS_14
        have hP : va_P D vwCl (wM h cy S_14) H := by rw [eS_14, ← wMs_a]; exact hP
        have hD : va_D A (wM h cy S_14) := by rw [eS_14, ← wMs_a]; exact hD
        refine lv_iload_n hx hb dX12_house_68 rfl (lv_at hl 0 rfl) ?_
        exact W.iret (v := (ms_a S_5) 0) hx hb hr (fun t ht hW => ⟨⟨(ms_a S_5) 0, S_14, rfl, hw, by rw [ht]; exact hP, va_K.moved hW.alike hK, hD⟩, hS.F ht⟩) hS.2.2 dX12_house_69
      · have hw := hc_7t c_7
        clear hc_7t hc_7f
        refine lv_iconst (v := (-1)) hx hb dX12_house_30 (by decide) ?_
        exact W.iret (v := (-1)) hx hb hr (fun t ht hW => ⟨⟨(-1), S_5, rfl, hw, by rw [ht]; exact hP, va_K.moved hW.alike hK, hD⟩, hS.F ht⟩) hS.2.2 dX12_house_31
def wM_arrive (p1 : Int32) (S : MS) (post : MS → Prop) : Prop := wM_lay p1 0 0 S (fun S_2 => wM_lay p1 1 (-1) S_2 (fun S_4 => wM_lay p1 2 0 S_4 (fun S_6 => post S_6)))
set_option maxHeartbeats 4000000 in
set_option maxRecDepth 100000 in
theorem cM_arrive (l : Launch) (D : va_G) (h : Nat → Nat) (cy : Nat → ClassId) (p1 : Int32) (S : MS) (post : MS → Prop) (hw : wM_arrive p1 S post) : k_Mv l yX12_arrive wsX12_arrive { frames := 1, cells := 0, slots := 0, locals := 23 } D (tyM cy) (wM h cy) [.ref (h 31), .int p1] S post := by
  intro sz
  refine Met.ofW (cc := cX12_arrive) (maxL := 2) (ret := none) (by decide) rfl ?_
  intro p e s m args below meth c s₁ B hml hv
  obtain ⟨rfl, hsz, hP, hK, hD0⟩ := hv
  have hx := B.exec
  have hb := B.bytes
  have hr := B.returns
  have hts := atoms_spec (ws := wsX12_arrive) B.pre
  have hown : s.vm.findClass RX12 = some m.cls := findClass_of_methodNamed B.named
  have hlocks := B.notSynchronized
  subst hsz
  have hD := hD0.self (sz := s.heap.size)
  generalize hAe : va_A (wM h cy S) s.heap.size = A at hD ⊢
  have hA : ∀ q : Nat, s.heap.size ≤ q → A q := fun q h => by rw [← hAe]; exact Or.inr h
  have hS : va_S A s.heap s.heap [] := va_S.rf
  have hl := lv_entry ([.ref (h 31), .int p1]) (n := 2) (Nat.le_of_ble_eq_true rfl)
  rw [lg_entry_eq]
  generalize (lg_sl ([.ref (h 31), .int p1]) ++ List.replicate (2 - (lg_sl ([.ref (h 31), .int p1])).length) Slot.unset).toArray = ls at hl ⊢
  have hl : lv_has ls 2 [(0, .ref (h 31)), (1, .int p1)] := hl
  unfold wM_arrive at hw
  clear hD0
  refine lv_aload_n hx hb dX12_arrive_0 rfl (lv_at hl 0 rfl) ?_
  refine lv_iload_n hx hb dX12_arrive_1 rfl (lv_at hl 1 rfl) ?_
  refine lv_iconst (v := 0) hx hb dX12_arrive_2 (by decide) ?_
  refine lv_iconst (v := 0) hx hb dX12_arrive_3 (by decide) ?_
  refine k_callVv (As := [.int p1, .int 0, .int 0]) (rest := []) ⟨hx, hb, hml, hown, hts⟩ (cM_lay l D h cy _ _ _ _ _ hw) (cwV 3 hts gX12_arrive_X12_lay rfl rfl rfl (by decide +kernel) ⟨Nat.le_of_ble_eq_true rfl, Nat.le_of_ble_eq_true rfl⟩) (va_recv hK hP (ci := 11) (q0 := 0) rfl rfl) hK hP hD hS hA rfl hl.1 rfl (Nat.le_of_ble_eq_true rfl) dX12_arrive_4 ⟨Nat.zero_le _, Nat.zero_le _⟩ (fun S_2 H locs hw hP hD hS => ?_)
  refine lv_aload_n hx hb dX12_arrive_7 rfl (lv_at hl 0 rfl) ?_
  refine lv_iload_n hx hb dX12_arrive_8 rfl (lv_at hl 1 rfl) ?_
  refine lv_iconst (v := 1) hx hb dX12_arrive_9 (by decide) ?_
  refine lv_iconst (v := (-1)) hx hb dX12_arrive_10 (by decide) ?_
  refine k_callVv (As := [.int p1, .int 1, .int (-1)]) (rest := []) ⟨hx, hb, hml, hown, hts⟩ (cM_lay l D h cy _ _ _ _ _ hw) (cwV 3 hts gX12_arrive_X12_lay rfl rfl rfl (by decide +kernel) ⟨Nat.le_of_ble_eq_true rfl, Nat.le_of_ble_eq_true rfl⟩) (va_recv hK hP (ci := 11) (q0 := 0) rfl rfl) hK hP hD hS hA rfl hl.1 rfl (Nat.le_of_ble_eq_true rfl) dX12_arrive_11 ⟨Nat.zero_le _, Nat.zero_le _⟩ (fun S_4 H locs hw hP hD hS => ?_)
  refine lv_aload_n hx hb dX12_arrive_14 rfl (lv_at hl 0 rfl) ?_
  refine lv_iload_n hx hb dX12_arrive_15 rfl (lv_at hl 1 rfl) ?_
  refine lv_iconst (v := 2) hx hb dX12_arrive_16 (by decide) ?_
  refine lv_iconst (v := 0) hx hb dX12_arrive_17 (by decide) ?_
  refine k_callVv (As := [.int p1, .int 2, .int 0]) (rest := []) ⟨hx, hb, hml, hown, hts⟩ (cM_lay l D h cy _ _ _ _ _ hw) (cwV 3 hts gX12_arrive_X12_lay rfl rfl rfl (by decide +kernel) ⟨Nat.le_of_ble_eq_true rfl, Nat.le_of_ble_eq_true rfl⟩) (va_recv hK hP (ci := 11) (q0 := 0) rfl rfl) hK hP hD hS hA rfl hl.1 rfl (Nat.le_of_ble_eq_true rfl) dX12_arrive_18 ⟨Nat.zero_le _, Nat.zero_le _⟩ (fun S_6 H locs hw hP hD hS => ?_)
  exact W.vret hx hb hr (fun t ht hW => ⟨⟨S_6, rfl, hw, by rw [ht]; exact hP, va_K.moved hW.alike hK, hD⟩, hS.F ht⟩) hS.2.2 dX12_arrive_21
def wM_clown (p1 : Int32) (p2 : Int32) (S : MS) (post : Int32 → MS → Prop) : Prop := wM_isIn p1 1 9 S (fun r_1 S_2 => ((r_1 = 0 → post (-1) S_2) ∧ (¬ (r_1 = 0) → wM_isIn p2 0 99 S_2 (fun r_4 S_5 => ((r_4 = 0 → post (-1) S_5) ∧ (¬ (r_4 = 0) → ((((ms_a S_5) 1) = 5 → post (-1) S_5) ∧ (¬ (((ms_a S_5) 1) = 5) → wM_lay ((ms_a S_5) 1) 3 p1 S_5 (fun S_9 => wM_lay ((ms_a S_5) 1) 4 p2 S_9 (fun S_11 => wM_arrive ((ms_a S_5) 1) S_11 (fun S_13 => (∀ S_14 : MS, S_14 = (ms_set_a S_13 (upd (ms_a S_13) 1 (((ms_a S_13) 1) + 1))) → post ((ms_a S_5) 1) S_14))))))))))))
set_option maxHeartbeats 4000000 in
set_option maxRecDepth 100000 in
theorem cM_clown (l : Launch) (D : va_G) (h : Nat → Nat) (cy : Nat → ClassId) (p1 : Int32) (p2 : Int32) (S : MS) (post : Int32 → MS → Prop) (hw : wM_clown p1 p2 S post) : k_Mi l yX12_clown wsX12_clown { frames := 2, cells := 0, slots := 0, locals := 44 } D (tyM cy) (wM h cy) [.ref (h 31), .int p1, .int p2] S post := by
  intro sz
  refine Met.ofW (cc := cX12_clown) (maxL := 4) (ret := (some .int)) (by decide) rfl ?_
  intro p e s m args below meth c s₁ B hml hv
  obtain ⟨rfl, hsz, hP, hK, hD0⟩ := hv
  have hx := B.exec
  have hb := B.bytes
  have hr := B.returns
  have hts := atoms_spec (ws := wsX12_clown) B.pre
  have hown : s.vm.findClass RX12 = some m.cls := findClass_of_methodNamed B.named
  have hlocks := B.notSynchronized
  subst hsz
  have hD := hD0.self (sz := s.heap.size)
  generalize hAe : va_A (wM h cy S) s.heap.size = A at hD ⊢
  have hA : ∀ q : Nat, s.heap.size ≤ q → A q := fun q h => by rw [← hAe]; exact Or.inr h
  have hS : va_S A s.heap s.heap [] := va_S.rf
  have hin : ∀ w ∈ wsX120, w ∈ wsX12_clown := fun _ h => List.mem_cons_of_mem _ (List.mem_append_right _ h)
  have w7 := hts (.fieldLink RX12 7 "ClownsMournModel" "a" "[I") (List.mem_of_getElem? (i := 1) rfl)
  have hl := lv_entry ([.ref (h 31), .int p1, .int p2]) (n := 4) (Nat.le_of_ble_eq_true rfl)
  rw [lg_entry_eq]
  generalize (lg_sl ([.ref (h 31), .int p1, .int p2]) ++ List.replicate (4 - (lg_sl ([.ref (h 31), .int p1, .int p2])).length) Slot.unset).toArray = ls at hl ⊢
  have hl : lv_has ls 4 [(0, .ref (h 31)), (1, .int p1), (2, .int p2)] := hl
  unfold wM_clown at hw
  clear hD0
  refine lv_iload_n hx hb dX12_clown_0 rfl (lv_at hl 1 rfl) ?_
  refine lv_iconst (v := 1) hx hb dX12_clown_1 (by decide) ?_
  refine lv_bipush (v := 9) hx hb dX12_clown_2 (by decide) ?_
  refine k_callSi (As := [.int p1, .int 1, .int 9]) (rest := []) ⟨hx, hb, hml, hown, hts⟩ (cM_isIn l D h cy _ _ _ _ _ hw) (va_cwS 3 hts gX12_clown_X12_isIn rfl rfl rfl (by decide +kernel) ⟨Nat.le_of_ble_eq_true rfl, Nat.le_of_ble_eq_true rfl⟩) hK hP hD hS hA rfl hl.1 rfl (Nat.le_of_ble_eq_true rfl) dX12_clown_4 ⟨Nat.zero_le _, Nat.zero_le _⟩ (fun r_1 S_2 H locs hw hP hD hS => ?_)
  obtain ⟨hc_3t, hc_3f⟩ := hw
  refine lv_if_eq (tgt := 30) hx hb dX12_clown_7 (by decide) (fun c_3 => ?_) (fun c_3 => ?_)
  · have hw := hc_3t c_3
    clear hc_3t hc_3f
    refine lv_iconst (v := (-1)) hx hb dX12_clown_30 (by decide) ?_
    exact W.iret (v := (-1)) hx hb hr (fun t ht hW => ⟨⟨(-1), S_2, rfl, hw, by rw [ht]; exact hP, va_K.moved hW.alike hK, hD⟩, hS.F ht⟩) hS.2.2 dX12_clown_31
  · have hw := hc_3f c_3
    clear hc_3t hc_3f
    refine lv_iload_n hx hb dX12_clown_10 rfl (lv_at hl 2 rfl) ?_
    refine lv_iconst (v := 0) hx hb dX12_clown_11 (by decide) ?_
    refine lv_bipush (v := 99) hx hb dX12_clown_12 (by decide) ?_
    refine k_callSi (As := [.int p2, .int 0, .int 99]) (rest := []) ⟨hx, hb, hml, hown, hts⟩ (cM_isIn l D h cy _ _ _ _ _ hw) (va_cwS 3 hts gX12_clown_X12_isIn rfl rfl rfl (by decide +kernel) ⟨Nat.le_of_ble_eq_true rfl, Nat.le_of_ble_eq_true rfl⟩) hK hP hD hS hA rfl hl.1 rfl (Nat.le_of_ble_eq_true rfl) dX12_clown_14 ⟨Nat.zero_le _, Nat.zero_le _⟩ (fun r_4 S_5 H locs hw hP hD hS => ?_)
    obtain ⟨hc_6t, hc_6f⟩ := hw
    refine lv_if_eq (tgt := 30) hx hb dX12_clown_17 (by decide) (fun c_6 => ?_) (fun c_6 => ?_)
    · have hw := hc_6t c_6
      clear hc_6t hc_6f
      refine lv_iconst (v := (-1)) hx hb dX12_clown_30 (by decide) ?_
      exact W.iret (v := (-1)) hx hb hr (fun t ht hW => ⟨⟨(-1), S_5, rfl, hw, by rw [ht]; exact hP, va_K.moved hW.alike hK, hD⟩, hS.F ht⟩) hS.2.2 dX12_clown_31
    · have hw := hc_6f c_6
      clear hc_6t hc_6f
      refine lv_aload_n hx hb dX12_clown_20 rfl (lv_at hl 0 rfl) ?_
      refine va_get (D := D) (ci := 11) (v := .ref (h 0)) (C := RX12) (T := TX12) (N := 31) hx hb hts hin hown hK hP 0 rfl rfl 0 (by decide) w7 (fun _ h9 => h9) rfl dX12_clown_21 ?_
      refine lv_iconst (v := 1) hx hb dX12_clown_24 (by decide) ?_
      refine k_iald (f := (ms_a S_5)) (j := 1) hx hb hK hP 1 0 rfl rfl (by decide +kernel) rfl dX12_clown_25 ?_
      refine lv_iconst (v := 5) hx hb dX12_clown_26 (by decide) ?_
      obtain ⟨hc_7t, hc_7f⟩ := hw
      refine lv_icmp_ne (tgt := 32) hx hb dX12_clown_27 (by decide) (fun c_7 => ?_) (fun c_7 => ?_)
      · have hw := hc_7f c_7
        clear hc_7t hc_7f
        refine lv_aload_n hx hb dX12_clown_32 rfl (lv_at hl 0 rfl) ?_
        refine va_get (D := D) (ci := 11) (v := .ref (h 0)) (C := RX12) (T := TX12) (N := 31) hx hb hts hin hown hK hP 0 rfl rfl 0 (by decide) w7 (fun _ h9 => h9) rfl dX12_clown_33 ?_
        refine lv_iconst (v := 1) hx hb dX12_clown_36 (by decide) ?_
        refine k_iald (f := (ms_a S_5)) (j := 1) hx hb hK hP 1 0 rfl rfl (by decide +kernel) rfl dX12_clown_37 ?_
        refine lv_istore_n (lv' := [(3, .int ((ms_a S_5) 1)), (0, .ref (h 31)), (1, .int p1), (2, .int p2)]) hx hb dX12_clown_38 rfl hl (by decide) rfl (fun ls hl => ?_)
        refine lv_aload_n hx hb dX12_clown_39 rfl (lv_at hl 1 rfl) ?_
        refine lv_iload_n hx hb dX12_clown_40 rfl (lv_at hl 0 rfl) ?_
        refine lv_iconst (v := 3) hx hb dX12_clown_41 (by decide) ?_
        refine lv_iload_n hx hb dX12_clown_42 rfl (lv_at hl 2 rfl) ?_
        refine k_callVv (As := [.int ((ms_a S_5) 1), .int 3, .int p1]) (rest := []) ⟨hx, hb, hml, hown, hts⟩ (cM_lay l D h cy _ _ _ _ _ hw) (cwV 3 hts gX12_clown_X12_lay rfl rfl rfl (by decide +kernel) ⟨Nat.le_of_ble_eq_true rfl, Nat.le_of_ble_eq_true rfl⟩) (va_recv hK hP (ci := 11) (q0 := 0) rfl rfl) hK hP hD hS hA rfl hl.1 rfl (Nat.le_of_ble_eq_true rfl) dX12_clown_43 ⟨Nat.zero_le _, Nat.zero_le _⟩ (fun S_9 H locs hw hP hD hS => ?_)
        refine lv_aload_n hx hb dX12_clown_46 rfl (lv_at hl 1 rfl) ?_
        refine lv_iload_n hx hb dX12_clown_47 rfl (lv_at hl 0 rfl) ?_
        refine lv_iconst (v := 4) hx hb dX12_clown_48 (by decide) ?_
        refine lv_iload_n hx hb dX12_clown_49 rfl (lv_at hl 3 rfl) ?_
        refine k_callVv (As := [.int ((ms_a S_5) 1), .int 4, .int p2]) (rest := []) ⟨hx, hb, hml, hown, hts⟩ (cM_lay l D h cy _ _ _ _ _ hw) (cwV 3 hts gX12_clown_X12_lay rfl rfl rfl (by decide +kernel) ⟨Nat.le_of_ble_eq_true rfl, Nat.le_of_ble_eq_true rfl⟩) (va_recv hK hP (ci := 11) (q0 := 0) rfl rfl) hK hP hD hS hA rfl hl.1 rfl (Nat.le_of_ble_eq_true rfl) dX12_clown_50 ⟨Nat.zero_le _, Nat.zero_le _⟩ (fun S_11 H locs hw hP hD hS => ?_)
        refine lv_aload_n hx hb dX12_clown_53 rfl (lv_at hl 1 rfl) ?_
        refine lv_iload_n hx hb dX12_clown_54 rfl (lv_at hl 0 rfl) ?_
        refine k_callVv (As := [.int ((ms_a S_5) 1)]) (rest := []) ⟨hx, hb, hml, hown, hts⟩ (cM_arrive l D h cy _ _ _ hw) (cwV 1 hts gX12_clown_X12_arrive rfl rfl rfl (by decide +kernel) ⟨Nat.le_of_ble_eq_true rfl, Nat.le_of_ble_eq_true rfl⟩) (va_recv hK hP (ci := 11) (q0 := 0) rfl rfl) hK hP hD hS hA rfl hl.1 rfl (Nat.le_of_ble_eq_true rfl) dX12_clown_55 ⟨Nat.zero_le _, Nat.zero_le _⟩ (fun S_13 H locs hw hP hD hS => ?_)
        refine lv_aload_n hx hb dX12_clown_58 rfl (lv_at hl 1 rfl) ?_
        refine va_get (D := D) (ci := 11) (v := .ref (h 0)) (C := RX12) (T := TX12) (N := 31) hx hb hts hin hown hK hP 0 rfl rfl 0 (by decide) w7 (fun _ h9 => h9) rfl dX12_clown_59 ?_
        refine lv_iconst (v := 1) hx hb dX12_clown_62 (by decide) ?_
        refine lv_dup2_11 hx hb dX12_clown_63 rfl rfl ?_
        refine k_iald (f := (ms_a S_13)) (j := 1) hx hb hK hP 1 0 rfl rfl (by decide +kernel) rfl dX12_clown_64 ?_
        refine lv_iconst (v := 1) hx hb dX12_clown_65 (by decide) ?_
        refine lv_iadd hx hb dX12_clown_66 ?_
        refine k_iast (f := (ms_a S_13)) (j := 1) hx hb hK hP hD hS 1 0 rfl rfl (by decide +kernel) rfl dX12_clown_67 (fun H locs hP hD hS => ?_)
        obtain ⟨S_14, eS_14⟩ : ∃ z : MS, z = (ms_set_a S_13 (upd (ms_a S_13) 1 (((ms_a S_13) 1) + 1))) := ⟨_, rfl⟩
        have hw := hw S_14 eS_14
        have hP : va_P D vwCl (wM h cy S_14) H := by rw [eS_14, ← wMs_a]; exact hP
        have hD : va_D A (wM h cy S_14) := by rw [eS_14, ← wMs_a]; exact hD
        refine lv_iload_n hx hb dX12_clown_68 rfl (lv_at hl 0 rfl) ?_
        exact W.iret (v := (ms_a S_5) 1) hx hb hr (fun t ht hW => ⟨⟨(ms_a S_5) 1, S_14, rfl, hw, by rw [ht]; exact hP, va_K.moved hW.alike hK, hD⟩, hS.F ht⟩) hS.2.2 dX12_clown_69
      · have hw := hc_7t c_7
        clear hc_7t hc_7f
        refine lv_iconst (v := (-1)) hx hb dX12_clown_30 (by decide) ?_
        exact W.iret (v := (-1)) hx hb hr (fun t ht hW => ⟨⟨(-1), S_5, rfl, hw, by rw [ht]; exact hP, va_K.moved hW.alike hK, hD⟩, hS.F ht⟩) hS.2.2 dX12_clown_31
def wM_mood (p1 : Int32) (p2 : Int32) (p3 : Int32) (S : MS) (post : Int32 → MS → Prop) : Prop := wM_isKind p1 S (fun r_1 S_2 => ((r_1 = 0 → post 0 S_2) ∧ (¬ (r_1 = 0) → wM_isIn p2 0 9 S_2 (fun r_4 S_5 => ((r_4 = 0 → post 0 S_5) ∧ (¬ (r_4 = 0) → wM_isIn p3 0 9 S_5 (fun r_7 S_8 => ((r_7 = 0 → post 0 S_8) ∧ (¬ (r_7 = 0) → (vp_in ((71 + (10 * p1)) + p2) 2454 ∧ ∀ S_10 : MS, S_10 = (ms_set_a S_8 (upd (ms_a S_8) (((71 + (10 * p1)) + p2).toNatClampNeg) p3)) → post 1 S_10))))))))))
set_option maxHeartbeats 4000000 in
set_option maxRecDepth 100000 in
theorem cM_mood (l : Launch) (D : va_G) (h : Nat → Nat) (cy : Nat → ClassId) (p1 : Int32) (p2 : Int32) (p3 : Int32) (S : MS) (post : Int32 → MS → Prop) (hw : wM_mood p1 p2 p3 S post) : k_Mi l yX12_mood wsX12_mood { frames := 2, cells := 0, slots := 0, locals := 42 } D (tyM cy) (wM h cy) [.ref (h 31), .int p1, .int p2, .int p3] S post := by
  intro sz
  refine Met.ofW (cc := cX12_mood) (maxL := 4) (ret := (some .boolean)) (by decide) rfl ?_
  intro p e s m args below meth c s₁ B hml hv
  obtain ⟨rfl, hsz, hP, hK, hD0⟩ := hv
  have hx := B.exec
  have hb := B.bytes
  have hr := B.returns
  have hts := atoms_spec (ws := wsX12_mood) B.pre
  have hown : s.vm.findClass RX12 = some m.cls := findClass_of_methodNamed B.named
  have hlocks := B.notSynchronized
  subst hsz
  have hD := hD0.self (sz := s.heap.size)
  generalize hAe : va_A (wM h cy S) s.heap.size = A at hD ⊢
  have hA : ∀ q : Nat, s.heap.size ≤ q → A q := fun q h => by rw [← hAe]; exact Or.inr h
  have hS : va_S A s.heap s.heap [] := va_S.rf
  have hin : ∀ w ∈ wsX120, w ∈ wsX12_mood := fun _ h => List.mem_cons_of_mem _ (List.mem_append_right _ h)
  have w7 := hts (.fieldLink RX12 7 "ClownsMournModel" "a" "[I") (List.mem_of_getElem? (i := 1) rfl)
  have hl := lv_entry ([.ref (h 31), .int p1, .int p2, .int p3]) (n := 4) (Nat.le_of_ble_eq_true rfl)
  rw [lg_entry_eq]
  generalize (lg_sl ([.ref (h 31), .int p1, .int p2, .int p3]) ++ List.replicate (4 - (lg_sl ([.ref (h 31), .int p1, .int p2, .int p3])).length) Slot.unset).toArray = ls at hl ⊢
  have hl : lv_has ls 4 [(0, .ref (h 31)), (1, .int p1), (2, .int p2), (3, .int p3)] := hl
  unfold wM_mood at hw
  clear hD0
  refine lv_iload_n hx hb dX12_mood_0 rfl (lv_at hl 1 rfl) ?_
  refine k_callSi (As := [.int p1]) (rest := []) ⟨hx, hb, hml, hown, hts⟩ (cM_isKind l D h cy _ _ _ hw) (va_cwS 1 hts gX12_mood_X12_isKind rfl rfl rfl (by decide +kernel) ⟨Nat.le_of_ble_eq_true rfl, Nat.le_of_ble_eq_true rfl⟩) hK hP hD hS hA rfl hl.1 rfl (Nat.le_of_ble_eq_true rfl) dX12_mood_1 ⟨Nat.zero_le _, Nat.zero_le _⟩ (fun r_1 S_2 H locs hw hP hD hS => ?_)
  obtain ⟨hc_3t, hc_3f⟩ := hw
  refine lv_if_eq (tgt := 27) hx hb dX12_mood_4 (by decide) (fun c_3 => ?_) (fun c_3 => ?_)
  · have hw := hc_3t c_3
    clear hc_3t hc_3f
    refine lv_iconst (v := 0) hx hb dX12_mood_27 (by decide) ?_
    exact W.zret (v := 0) hx hb hr (by decide +kernel) (fun t ht hW => ⟨⟨0, S_2, rfl, hw, by rw [ht]; exact hP, va_K.moved hW.alike hK, hD⟩, hS.F ht⟩) hS.2.2 dX12_mood_28
  · have hw := hc_3f c_3
    clear hc_3t hc_3f
    refine lv_iload_n hx hb dX12_mood_7 rfl (lv_at hl 2 rfl) ?_
    refine lv_iconst (v := 0) hx hb dX12_mood_8 (by decide) ?_
    refine lv_bipush (v := 9) hx hb dX12_mood_9 (by decide) ?_
    refine k_callSi (As := [.int p2, .int 0, .int 9]) (rest := []) ⟨hx, hb, hml, hown, hts⟩ (cM_isIn l D h cy _ _ _ _ _ hw) (va_cwS 3 hts gX12_mood_X12_isIn rfl rfl rfl (by decide +kernel) ⟨Nat.le_of_ble_eq_true rfl, Nat.le_of_ble_eq_true rfl⟩) hK hP hD hS hA rfl hl.1 rfl (Nat.le_of_ble_eq_true rfl) dX12_mood_11 ⟨Nat.zero_le _, Nat.zero_le _⟩ (fun r_4 S_5 H locs hw hP hD hS => ?_)
    obtain ⟨hc_6t, hc_6f⟩ := hw
    refine lv_if_eq (tgt := 27) hx hb dX12_mood_14 (by decide) (fun c_6 => ?_) (fun c_6 => ?_)
    · have hw := hc_6t c_6
      clear hc_6t hc_6f
      refine lv_iconst (v := 0) hx hb dX12_mood_27 (by decide) ?_
      exact W.zret (v := 0) hx hb hr (by decide +kernel) (fun t ht hW => ⟨⟨0, S_5, rfl, hw, by rw [ht]; exact hP, va_K.moved hW.alike hK, hD⟩, hS.F ht⟩) hS.2.2 dX12_mood_28
    · have hw := hc_6f c_6
      clear hc_6t hc_6f
      refine lv_iload_n hx hb dX12_mood_17 rfl (lv_at hl 3 rfl) ?_
      refine lv_iconst (v := 0) hx hb dX12_mood_18 (by decide) ?_
      refine lv_bipush (v := 9) hx hb dX12_mood_19 (by decide) ?_
      refine k_callSi (As := [.int p3, .int 0, .int 9]) (rest := []) ⟨hx, hb, hml, hown, hts⟩ (cM_isIn l D h cy _ _ _ _ _ hw) (va_cwS 3 hts gX12_mood_X12_isIn rfl rfl rfl (by decide +kernel) ⟨Nat.le_of_ble_eq_true rfl, Nat.le_of_ble_eq_true rfl⟩) hK hP hD hS hA rfl hl.1 rfl (Nat.le_of_ble_eq_true rfl) dX12_mood_21 ⟨Nat.zero_le _, Nat.zero_le _⟩ (fun r_7 S_8 H locs hw hP hD hS => ?_)
      obtain ⟨hc_9t, hc_9f⟩ := hw
      refine lv_if_ne (tgt := 29) hx hb dX12_mood_24 (by decide) (fun c_9 => ?_) (fun c_9 => ?_)
      · have hw := hc_9f c_9
        clear hc_9t hc_9f
        refine lv_aload_n hx hb dX12_mood_29 rfl (lv_at hl 0 rfl) ?_
        refine va_get (D := D) (ci := 11) (v := .ref (h 0)) (C := RX12) (T := TX12) (N := 31) hx hb hts hin hown hK hP 0 rfl rfl 0 (by decide) w7 (fun _ h9 => h9) rfl dX12_mood_30 ?_
        refine lv_bipush (v := 71) hx hb dX12_mood_33 (by decide) ?_
        refine lv_bipush (v := 10) hx hb dX12_mood_35 (by decide) ?_
        refine lv_iload_n hx hb dX12_mood_37 rfl (lv_at hl 1 rfl) ?_
        refine lv_imul hx hb dX12_mood_38 ?_
        refine lv_iadd hx hb dX12_mood_39 ?_
        refine lv_iload_n hx hb dX12_mood_40 rfl (lv_at hl 2 rfl) ?_
        refine lv_iadd hx hb dX12_mood_41 ?_
        refine lv_iload_n hx hb dX12_mood_42 rfl (lv_at hl 3 rfl) ?_
        obtain ⟨hi_11, hw⟩ := hw
        refine va_iast (f := (ms_a S_8)) hx hb hK hP hD hS 1 0 rfl rfl hi_11 dX12_mood_43 (fun H locs hP hD hS => ?_)
        obtain ⟨S_10, eS_10⟩ : ∃ z : MS, z = (ms_set_a S_8 (upd (ms_a S_8) (((71 + (10 * p1)) + p2).toNatClampNeg) p3)) := ⟨_, rfl⟩
        have hw := hw S_10 eS_10
        have hP : va_P D vwCl (wM h cy S_10) H := by rw [eS_10, ← wMs_a]; exact hP
        have hD : va_D A (wM h cy S_10) := by rw [eS_10, ← wMs_a]; exact hD
        refine lv_iconst (v := 1) hx hb dX12_mood_44 (by decide) ?_
        exact W.zret (v := 1) hx hb hr (by decide +kernel) (fun t ht hW => ⟨⟨1, S_10, rfl, hw, by rw [ht]; exact hP, va_K.moved hW.alike hK, hD⟩, hS.F ht⟩) hS.2.2 dX12_mood_45
      · have hw := hc_9t c_9
        clear hc_9t hc_9f
        refine lv_iconst (v := 0) hx hb dX12_mood_27 (by decide) ?_
        exact W.zret (v := 0) hx hb hr (by decide +kernel) (fun t ht hW => ⟨⟨0, S_8, rfl, hw, by rw [ht]; exact hP, va_K.moved hW.alike hK, hD⟩, hS.F ht⟩) hS.2.2 dX12_mood_28
def wM_four_3 (post : MS → Prop) : Nat → Int32 → Int32 → MS → Prop
  | 0, _, _, _ => False
  | n + 1, x1, x2, S => ((x2 < 0 → post S) ∧ (¬ (x2 < 0) → (vp_in (ms_taped S) 300 ∧ ∀ S_2 : MS, S_2 = (ms_set_tape S (upd (ms_tape S) ((ms_taped S).toNatClampNeg) ((k_shr x1 x2) &&& 255))) → (∀ S_3 : MS, S_3 = (ms_set_taped S_2 ((ms_taped S_2) + 1)) → wM_four_3 post n x1 (x2 + (-8)) S_3))))
def wM_four (p1 : Int32) (S : MS) (post : MS → Prop) : Prop := ∃ k_ : Nat, wM_four_3 post k_ p1 24 S
set_option maxHeartbeats 4000000 in
set_option maxRecDepth 100000 in
theorem cM_four (l : Launch) (D : va_G) (h : Nat → Nat) (cy : Nat → ClassId) (p1 : Int32) (S : MS) (post : MS → Prop) (hw : wM_four p1 S post) : k_Mv l yX12_four wsX12_four { frames := 0, cells := 0, slots := 0, locals := 0 } D (tyM cy) (wM h cy) [.ref (h 31), .int p1] S post := by
  intro sz
  refine Met.ofW (cc := cX12_four) (maxL := 3) (ret := none) (by decide) rfl ?_
  intro p e s m args below meth c s₁ B hml hv
  obtain ⟨rfl, hsz, hP, hK, hD0⟩ := hv
  have hx := B.exec
  have hb := B.bytes
  have hr := B.returns
  have hts := atoms_spec (ws := wsX12_four) B.pre
  have hown : s.vm.findClass RX12 = some m.cls := findClass_of_methodNamed B.named
  have hlocks := B.notSynchronized
  subst hsz
  have hD := hD0.self (sz := s.heap.size)
  generalize hAe : va_A (wM h cy S) s.heap.size = A at hD ⊢
  have hA : ∀ q : Nat, s.heap.size ≤ q → A q := fun q h => by rw [← hAe]; exact Or.inr h
  have hS : va_S A s.heap s.heap [] := va_S.rf
  have hin : ∀ w ∈ wsX120, w ∈ wsX12_four := fun _ h => List.mem_cons_of_mem _ (List.mem_append_right _ h)
  have w19 := hts (.fieldLink RX12 19 "ClownsMournModel" "tape" "[I") (List.mem_of_getElem? (i := 1) rfl)
  have w97 := hts (.fieldLink RX12 97 "ClownsMournModel" "taped" "I") (List.mem_of_getElem? (i := 2) rfl)
  have hl := lv_entry ([.ref (h 31), .int p1]) (n := 3) (Nat.le_of_ble_eq_true rfl)
  rw [lg_entry_eq]
  generalize (lg_sl ([.ref (h 31), .int p1]) ++ List.replicate (3 - (lg_sl ([.ref (h 31), .int p1])).length) Slot.unset).toArray = ls at hl ⊢
  have hl : lv_has ls 3 [(0, .ref (h 31)), (1, .int p1)] := hl
  unfold wM_four at hw
  clear hD0
  have L_3 : ∀ (n3 : Nat) (x1 : Int32) (x2 : Int32) (S : MS) (H : Heap) (locs : List Loc) (ls : Array Slot), wM_four_3 post n3 x1 x2 S → va_P D vwCl (wM h cy S) H → va_D A (wM h cy S) → va_S A s.heap H locs → lv_has ls 3 [(0, .ref (h 31)), (1, .int x1), (2, .int x2)] → W p l e (headSpec wsX12_four { frames := 0, cells := 0, slots := 0, locals := 0 }).room s m (([.ref (h 31), .int p1] : List Value).toArray) below meth c H locs 0 0 (MQ below (va_Qv post (k_Post D (tyM cy) (wM h cy) A) A) (([.ref (h 31), .int p1] : List Value).toArray) s 0 0 A) (F0 m 3 ls []) := by
    intro n3
    induction n3 with
    | zero => intro x1 x2 S H locs ls hw; exact False.elim hw
    | succ n3 ih_3 =>
      intro x1 x2 S H locs ls hw hP hD hS hl
      unfold wM_four_3 at hw
      refine lv_iload_n hx hb dX12_four_3 rfl (lv_at hl 2 rfl) ?_
      obtain ⟨hc_1t, hc_1f⟩ := hw
      refine lv_if_lt (tgt := 39) hx hb dX12_four_4 (by decide) (fun c_1 => ?_) (fun c_1 => ?_)
      · have hw := hc_1t c_1
        clear hc_1t hc_1f
        exact W.vret hx hb hr (fun t ht hW => ⟨⟨S, rfl, hw, by rw [ht]; exact hP, va_K.moved hW.alike hK, hD⟩, hS.F ht⟩) hS.2.2 dX12_four_39
      · have hw := hc_1f c_1
        clear hc_1t hc_1f
        refine lv_aload_n hx hb dX12_four_7 rfl (lv_at hl 0 rfl) ?_
        refine va_get (D := D) (ci := 11) (v := .ref (h 3)) (C := RX12) (T := TX12) (N := 31) hx hb hts hin hown hK hP 0 rfl rfl 3 (by decide) w19 (fun _ h9 => h9) rfl dX12_four_8 ?_
        refine lv_aload_n hx hb dX12_four_11 rfl (lv_at hl 0 rfl) ?_
        refine va_get (D := D) (ci := 11) (v := .int (ms_taped S)) (C := RX12) (T := TX12) (N := 31) hx hb hts hin hown hK hP 0 rfl rfl 4 (by decide) w97 (fun _ h9 => h9) rfl dX12_four_12 ?_
        refine lv_iload_n hx hb dX12_four_15 rfl (lv_at hl 1 rfl) ?_
        refine lv_iload_n hx hb dX12_four_16 rfl (lv_at hl 2 rfl) ?_
        refine k_ishr hx hb dX12_four_17 ?_
        refine lv_sipush (v := 255) hx hb dX12_four_18 (by decide) ?_
        refine lv_iand hx hb dX12_four_21 ?_
        obtain ⟨hi_4, hw⟩ := hw
        refine va_iast (f := (ms_tape S)) hx hb hK hP hD hS 4 3 rfl rfl hi_4 dX12_four_22 (fun H locs hP hD hS => ?_)
        obtain ⟨S_2, eS_2⟩ : ∃ z : MS, z = (ms_set_tape S (upd (ms_tape S) ((ms_taped S).toNatClampNeg) ((k_shr x1 x2) &&& 255))) := ⟨_, rfl⟩
        have hw := hw S_2 eS_2
        have hP : va_P D vwCl (wM h cy S_2) H := by rw [eS_2, ← wMs_tape]; exact hP
        have hD : va_D A (wM h cy S_2) := by rw [eS_2, ← wMs_tape]; exact hD
        refine lv_aload_n hx hb dX12_four_23 rfl (lv_at hl 0 rfl) ?_
        refine lv_dup hx hb dX12_four_24 rfl ?_
        refine va_get (D := D) (ci := 11) (v := .int (ms_taped S_2)) (C := RX12) (T := TX12) (N := 31) hx hb hts hin hown hK hP 0 rfl rfl 4 (by decide) w97 (fun _ h9 => h9) rfl dX12_four_25 ?_
        refine lv_iconst (v := 1) hx hb dX12_four_28 (by decide) ?_
        refine lv_iadd hx hb dX12_four_29 ?_
        refine va_put (D := D) (ci := 11) (v := .int ((ms_taped S_2) + 1)) (ty := .int) (C := RX12) (T := TX12) (N := 31) hx hb hts hin tyX12 tyX12_ok nmX12 hown hK hP hD hS 0 rfl rfl 4 (by decide) w97 (fun _ h9 => h9) rfl (tyX12_ok 4 (by decide)) rfl rfl (Nat.le_of_ble_eq_true rfl) dX12_four_30 (fun H locs hP hD hS => ?_)
        obtain ⟨S_3, eS_3⟩ : ∃ z : MS, z = (ms_set_taped S_2 ((ms_taped S_2) + 1)) := ⟨_, rfl⟩
        have hw := hw S_3 eS_3
        have hP : va_P D vwCl (wM h cy S_3) H := by rw [eS_3, ← wMp_taped]; exact hP
        have hD : va_D A (wM h cy S_3) := by rw [eS_3, ← wMp_taped]; exact hD
        refine lv_iinc (v := x2 + (-8)) (lv' := [(2, .int (x2 + (-8))), (0, .ref (h 31)), (1, .int x1)]) hx hb dX12_four_33 hl (k := 2) rfl (k_inc (by decide)) (by decide) rfl (fun ls hl => ?_)
        refine lv_goto (tgt := 3) hx hb dX12_four_36 (by decide) ?_
        exact ih_3 x1 (x2 + (-8)) S_3 _ _ _ hw hP hD hS (lv_sub hl [1, 2, 0] rfl)
  refine lv_bipush (v := 24) hx hb dX12_four_0 (by decide) ?_
  refine lv_istore_n (lv' := [(2, .int 24), (0, .ref (h 31)), (1, .int p1)]) hx hb dX12_four_2 rfl hl (by decide) rfl (fun ls hl => ?_)
  obtain ⟨n_3, hw⟩ := hw
  exact L_3 n_3 p1 24 S _ _ _ hw hP hD hS (lv_sub hl [1, 2, 0] rfl)
def wM_feed (p1 : Int32) (p2 : Int32) (p3 : Int32) (p4 : Int32) (p5 : Int32) (S : MS) (post : Int32 → MS → Prop) : Prop := ((((ms_taped S) + 20) ≤ 300 → wM_four p1 S (fun S_3 => wM_four p2 S_3 (fun S_5 => wM_four p3 S_5 (fun S_7 => wM_four p4 S_7 (fun S_9 => wM_four p5 S_9 (fun S_11 => post (ms_taped S_11) S_11)))))) ∧ (¬ (((ms_taped S) + 20) ≤ 300) → post (-1) S))
set_option maxHeartbeats 4000000 in
set_option maxRecDepth 100000 in
theorem cM_feed (l : Launch) (D : va_G) (h : Nat → Nat) (cy : Nat → ClassId) (p1 : Int32) (p2 : Int32) (p3 : Int32) (p4 : Int32) (p5 : Int32) (S : MS) (post : Int32 → MS → Prop) (hw : wM_feed p1 p2 p3 p4 p5 S post) : k_Mi l yX12_feed wsX12_feed { frames := 1, cells := 0, slots := 0, locals := 22 } D (tyM cy) (wM h cy) [.ref (h 31), .int p1, .int p2, .int p3, .int p4, .int p5] S post := by
  intro sz
  refine Met.ofW (cc := cX12_feed) (maxL := 6) (ret := (some .int)) (by decide) rfl ?_
  intro p e s m args below meth c s₁ B hml hv
  obtain ⟨rfl, hsz, hP, hK, hD0⟩ := hv
  have hx := B.exec
  have hb := B.bytes
  have hr := B.returns
  have hts := atoms_spec (ws := wsX12_feed) B.pre
  have hown : s.vm.findClass RX12 = some m.cls := findClass_of_methodNamed B.named
  have hlocks := B.notSynchronized
  subst hsz
  have hD := hD0.self (sz := s.heap.size)
  generalize hAe : va_A (wM h cy S) s.heap.size = A at hD ⊢
  have hA : ∀ q : Nat, s.heap.size ≤ q → A q := fun q h => by rw [← hAe]; exact Or.inr h
  have hS : va_S A s.heap s.heap [] := va_S.rf
  have hin : ∀ w ∈ wsX120, w ∈ wsX12_feed := fun _ h => List.mem_cons_of_mem _ (List.mem_append_right _ h)
  have w97 := hts (.fieldLink RX12 97 "ClownsMournModel" "taped" "I") (List.mem_of_getElem? (i := 1) rfl)
  have hl := lv_entry ([.ref (h 31), .int p1, .int p2, .int p3, .int p4, .int p5]) (n := 6) (Nat.le_of_ble_eq_true rfl)
  rw [lg_entry_eq]
  generalize (lg_sl ([.ref (h 31), .int p1, .int p2, .int p3, .int p4, .int p5]) ++ List.replicate (6 - (lg_sl ([.ref (h 31), .int p1, .int p2, .int p3, .int p4, .int p5])).length) Slot.unset).toArray = ls at hl ⊢
  have hl : lv_has ls 6 [(0, .ref (h 31)), (1, .int p1), (2, .int p2), (3, .int p3), (4, .int p4), (5, .int p5)] := hl
  unfold wM_feed at hw
  clear hD0
  refine lv_aload_n hx hb dX12_feed_0 rfl (lv_at hl 0 rfl) ?_
  refine va_get (D := D) (ci := 11) (v := .int (ms_taped S)) (C := RX12) (T := TX12) (N := 31) hx hb hts hin hown hK hP 0 rfl rfl 4 (by decide) w97 (fun _ h9 => h9) rfl dX12_feed_1 ?_
  refine lv_bipush (v := 20) hx hb dX12_feed_4 (by decide) ?_
  refine lv_iadd hx hb dX12_feed_6 ?_
  refine lv_sipush (v := 300) hx hb dX12_feed_7 (by decide) ?_
  obtain ⟨hc_1t, hc_1f⟩ := hw
  refine lv_icmp_le (tgt := 15) hx hb dX12_feed_10 (by decide) (fun c_1 => ?_) (fun c_1 => ?_)
  · have hw := hc_1t c_1
    clear hc_1t hc_1f
    refine lv_aload_n hx hb dX12_feed_15 rfl (lv_at hl 0 rfl) ?_
    refine lv_iload_n hx hb dX12_feed_16 rfl (lv_at hl 1 rfl) ?_
    refine k_callVv (As := [.int p1]) (rest := []) ⟨hx, hb, hml, hown, hts⟩ (cM_four l D h cy _ _ _ hw) (cwV 1 hts gX12_feed_X12_four rfl rfl rfl (by decide +kernel) ⟨Nat.le_of_ble_eq_true rfl, Nat.le_of_ble_eq_true rfl⟩) (va_recv hK hP (ci := 11) (q0 := 0) rfl rfl) hK hP hD hS hA rfl hl.1 rfl (Nat.le_of_ble_eq_true rfl) dX12_feed_17 ⟨Nat.zero_le _, Nat.zero_le _⟩ (fun S_3 H locs hw hP hD hS => ?_)
    refine lv_aload_n hx hb dX12_feed_20 rfl (lv_at hl 0 rfl) ?_
    refine lv_iload_n hx hb dX12_feed_21 rfl (lv_at hl 2 rfl) ?_
    refine k_callVv (As := [.int p2]) (rest := []) ⟨hx, hb, hml, hown, hts⟩ (cM_four l D h cy _ _ _ hw) (cwV 1 hts gX12_feed_X12_four rfl rfl rfl (by decide +kernel) ⟨Nat.le_of_ble_eq_true rfl, Nat.le_of_ble_eq_true rfl⟩) (va_recv hK hP (ci := 11) (q0 := 0) rfl rfl) hK hP hD hS hA rfl hl.1 rfl (Nat.le_of_ble_eq_true rfl) dX12_feed_22 ⟨Nat.zero_le _, Nat.zero_le _⟩ (fun S_5 H locs hw hP hD hS => ?_)
    refine lv_aload_n hx hb dX12_feed_25 rfl (lv_at hl 0 rfl) ?_
    refine lv_iload_n hx hb dX12_feed_26 rfl (lv_at hl 3 rfl) ?_
    refine k_callVv (As := [.int p3]) (rest := []) ⟨hx, hb, hml, hown, hts⟩ (cM_four l D h cy _ _ _ hw) (cwV 1 hts gX12_feed_X12_four rfl rfl rfl (by decide +kernel) ⟨Nat.le_of_ble_eq_true rfl, Nat.le_of_ble_eq_true rfl⟩) (va_recv hK hP (ci := 11) (q0 := 0) rfl rfl) hK hP hD hS hA rfl hl.1 rfl (Nat.le_of_ble_eq_true rfl) dX12_feed_27 ⟨Nat.zero_le _, Nat.zero_le _⟩ (fun S_7 H locs hw hP hD hS => ?_)
    refine lv_aload_n hx hb dX12_feed_30 rfl (lv_at hl 0 rfl) ?_
    refine lv_iload hx hb dX12_feed_31 (lv_at hl 4 rfl) ?_
    refine k_callVv (As := [.int p4]) (rest := []) ⟨hx, hb, hml, hown, hts⟩ (cM_four l D h cy _ _ _ hw) (cwV 1 hts gX12_feed_X12_four rfl rfl rfl (by decide +kernel) ⟨Nat.le_of_ble_eq_true rfl, Nat.le_of_ble_eq_true rfl⟩) (va_recv hK hP (ci := 11) (q0 := 0) rfl rfl) hK hP hD hS hA rfl hl.1 rfl (Nat.le_of_ble_eq_true rfl) dX12_feed_33 ⟨Nat.zero_le _, Nat.zero_le _⟩ (fun S_9 H locs hw hP hD hS => ?_)
    refine lv_aload_n hx hb dX12_feed_36 rfl (lv_at hl 0 rfl) ?_
    refine lv_iload hx hb dX12_feed_37 (lv_at hl 5 rfl) ?_
    refine k_callVv (As := [.int p5]) (rest := []) ⟨hx, hb, hml, hown, hts⟩ (cM_four l D h cy _ _ _ hw) (cwV 1 hts gX12_feed_X12_four rfl rfl rfl (by decide +kernel) ⟨Nat.le_of_ble_eq_true rfl, Nat.le_of_ble_eq_true rfl⟩) (va_recv hK hP (ci := 11) (q0 := 0) rfl rfl) hK hP hD hS hA rfl hl.1 rfl (Nat.le_of_ble_eq_true rfl) dX12_feed_39 ⟨Nat.zero_le _, Nat.zero_le _⟩ (fun S_11 H locs hw hP hD hS => ?_)
    refine lv_aload_n hx hb dX12_feed_42 rfl (lv_at hl 0 rfl) ?_
    refine va_get (D := D) (ci := 11) (v := .int (ms_taped S_11)) (C := RX12) (T := TX12) (N := 31) hx hb hts hin hown hK hP 0 rfl rfl 4 (by decide) w97 (fun _ h9 => h9) rfl dX12_feed_43 ?_
    exact W.iret (v := (ms_taped S_11)) hx hb hr (fun t ht hW => ⟨⟨(ms_taped S_11), S_11, rfl, hw, by rw [ht]; exact hP, va_K.moved hW.alike hK, hD⟩, hS.F ht⟩) hS.2.2 dX12_feed_46
  · have hw := hc_1f c_1
    clear hc_1t hc_1f
    refine lv_iconst (v := (-1)) hx hb dX12_feed_13 (by decide) ?_
    exact W.iret (v := (-1)) hx hb hr (fun t ht hW => ⟨⟨(-1), S, rfl, hw, by rw [ht]; exact hP, va_K.moved hW.alike hK, hD⟩, hS.F ht⟩) hS.2.2 dX12_feed_14
def wM_end (p1 : Int32) (S : MS) (post : Int32 → MS → Prop) : Prop := wM_isIn p1 0 (ms_taped S) S (fun r_1 S_2 => ((r_1 = 0 → post (-1) S_2) ∧ (¬ (r_1 = 0) → (∀ S_4 : MS, S_4 = (ms_set_taped S_2 p1) → post p1 S_4))))
set_option maxHeartbeats 4000000 in
set_option maxRecDepth 100000 in
theorem cM_end (l : Launch) (D : va_G) (h : Nat → Nat) (cy : Nat → ClassId) (p1 : Int32) (S : MS) (post : Int32 → MS → Prop) (hw : wM_end p1 S post) : k_Mi l yX12_end wsX12_end { frames := 1, cells := 0, slots := 0, locals := 22 } D (tyM cy) (wM h cy) [.ref (h 31), .int p1] S post := by
  intro sz
  refine Met.ofW (cc := cX12_end) (maxL := 2) (ret := (some .int)) (by decide) rfl ?_
  intro p e s m args below meth c s₁ B hml hv
  obtain ⟨rfl, hsz, hP, hK, hD0⟩ := hv
  have hx := B.exec
  have hb := B.bytes
  have hr := B.returns
  have hts := atoms_spec (ws := wsX12_end) B.pre
  have hown : s.vm.findClass RX12 = some m.cls := findClass_of_methodNamed B.named
  have hlocks := B.notSynchronized
  subst hsz
  have hD := hD0.self (sz := s.heap.size)
  generalize hAe : va_A (wM h cy S) s.heap.size = A at hD ⊢
  have hA : ∀ q : Nat, s.heap.size ≤ q → A q := fun q h => by rw [← hAe]; exact Or.inr h
  have hS : va_S A s.heap s.heap [] := va_S.rf
  have hin : ∀ w ∈ wsX120, w ∈ wsX12_end := fun _ h => List.mem_cons_of_mem _ (List.mem_append_right _ h)
  have w97 := hts (.fieldLink RX12 97 "ClownsMournModel" "taped" "I") (List.mem_of_getElem? (i := 1) rfl)
  have hl := lv_entry ([.ref (h 31), .int p1]) (n := 2) (Nat.le_of_ble_eq_true rfl)
  rw [lg_entry_eq]
  generalize (lg_sl ([.ref (h 31), .int p1]) ++ List.replicate (2 - (lg_sl ([.ref (h 31), .int p1])).length) Slot.unset).toArray = ls at hl ⊢
  have hl : lv_has ls 2 [(0, .ref (h 31)), (1, .int p1)] := hl
  unfold wM_end at hw
  clear hD0
  refine lv_iload_n hx hb dX12_end_0 rfl (lv_at hl 1 rfl) ?_
  refine lv_iconst (v := 0) hx hb dX12_end_1 (by decide) ?_
  refine lv_aload_n hx hb dX12_end_2 rfl (lv_at hl 0 rfl) ?_
  refine va_get (D := D) (ci := 11) (v := .int (ms_taped S)) (C := RX12) (T := TX12) (N := 31) hx hb hts hin hown hK hP 0 rfl rfl 4 (by decide) w97 (fun _ h9 => h9) rfl dX12_end_3 ?_
  refine k_callSi (As := [.int p1, .int 0, .int (ms_taped S)]) (rest := []) ⟨hx, hb, hml, hown, hts⟩ (cM_isIn l D h cy _ _ _ _ _ hw) (va_cwS 3 hts gX12_end_X12_isIn rfl rfl rfl (by decide +kernel) ⟨Nat.le_of_ble_eq_true rfl, Nat.le_of_ble_eq_true rfl⟩) hK hP hD hS hA rfl hl.1 rfl (Nat.le_of_ble_eq_true rfl) dX12_end_6 ⟨Nat.zero_le _, Nat.zero_le _⟩ (fun r_1 S_2 H locs hw hP hD hS => ?_)
  obtain ⟨hc_3t, hc_3f⟩ := hw
  refine lv_if_ne (tgt := 14) hx hb dX12_end_9 (by decide) (fun c_3 => ?_) (fun c_3 => ?_)
  · have hw := hc_3f c_3
    clear hc_3t hc_3f
    refine lv_aload_n hx hb dX12_end_14 rfl (lv_at hl 0 rfl) ?_
    refine lv_iload_n hx hb dX12_end_15 rfl (lv_at hl 1 rfl) ?_
    refine va_put (D := D) (ci := 11) (v := .int p1) (ty := .int) (C := RX12) (T := TX12) (N := 31) hx hb hts hin tyX12 tyX12_ok nmX12 hown hK hP hD hS 0 rfl rfl 4 (by decide) w97 (fun _ h9 => h9) rfl (tyX12_ok 4 (by decide)) rfl rfl (Nat.le_of_ble_eq_true rfl) dX12_end_16 (fun H locs hP hD hS => ?_)
    obtain ⟨S_4, eS_4⟩ : ∃ z : MS, z = (ms_set_taped S_2 p1) := ⟨_, rfl⟩
    have hw := hw S_4 eS_4
    have hP : va_P D vwCl (wM h cy S_4) H := by rw [eS_4, ← wMp_taped]; exact hP
    have hD : va_D A (wM h cy S_4) := by rw [eS_4, ← wMp_taped]; exact hD
    refine lv_iload_n hx hb dX12_end_19 rfl (lv_at hl 1 rfl) ?_
    exact W.iret (v := p1) hx hb hr (fun t ht hW => ⟨⟨p1, S_4, rfl, hw, by rw [ht]; exact hP, va_K.moved hW.alike hK, hD⟩, hS.F ht⟩) hS.2.2 dX12_end_20
  · have hw := hc_3t c_3
    clear hc_3t hc_3f
    refine lv_iconst (v := (-1)) hx hb dX12_end_12 (by decide) ?_
    exact W.iret (v := (-1)) hx hb hr (fun t ht hW => ⟨⟨(-1), S_2, rfl, hw, by rw [ht]; exact hP, va_K.moved hW.alike hK, hD⟩, hS.F ht⟩) hS.2.2 dX12_end_13
def wM_byteAt (p1 : Int32) (S : MS) (post : Int32 → MS → Prop) : Prop := (((ms_taped S) ≤ p1 → post (-1) S) ∧ (¬ ((ms_taped S) ≤ p1) → (vp_in p1 300 ∧ post ((ms_tape S) p1.toNatClampNeg) S)))
set_option maxHeartbeats 4000000 in
set_option maxRecDepth 100000 in
theorem cM_byteAt (l : Launch) (D : va_G) (h : Nat → Nat) (cy : Nat → ClassId) (p1 : Int32) (S : MS) (post : Int32 → MS → Prop) (hw : wM_byteAt p1 S post) : k_Mi l yX12_byteAt wsX12_byteAt { frames := 0, cells := 0, slots := 0, locals := 0 } D (tyM cy) (wM h cy) [.ref (h 31), .int p1] S post := by
  intro sz
  refine Met.ofW (cc := cX12_byteAt) (maxL := 2) (ret := (some .int)) (by decide) rfl ?_
  intro p e s m args below meth c s₁ B hml hv
  obtain ⟨rfl, hsz, hP, hK, hD0⟩ := hv
  have hx := B.exec
  have hb := B.bytes
  have hr := B.returns
  have hts := atoms_spec (ws := wsX12_byteAt) B.pre
  have hown : s.vm.findClass RX12 = some m.cls := findClass_of_methodNamed B.named
  have hlocks := B.notSynchronized
  subst hsz
  have hD := hD0.self (sz := s.heap.size)
  generalize hAe : va_A (wM h cy S) s.heap.size = A at hD ⊢
  have hA : ∀ q : Nat, s.heap.size ≤ q → A q := fun q h => by rw [← hAe]; exact Or.inr h
  have hS : va_S A s.heap s.heap [] := va_S.rf
  have hin : ∀ w ∈ wsX120, w ∈ wsX12_byteAt := fun _ h => List.mem_cons_of_mem _ (List.mem_append_right _ h)
  have w19 := hts (.fieldLink RX12 19 "ClownsMournModel" "tape" "[I") (List.mem_of_getElem? (i := 2) rfl)
  have w97 := hts (.fieldLink RX12 97 "ClownsMournModel" "taped" "I") (List.mem_of_getElem? (i := 1) rfl)
  have hl := lv_entry ([.ref (h 31), .int p1]) (n := 2) (Nat.le_of_ble_eq_true rfl)
  rw [lg_entry_eq]
  generalize (lg_sl ([.ref (h 31), .int p1]) ++ List.replicate (2 - (lg_sl ([.ref (h 31), .int p1])).length) Slot.unset).toArray = ls at hl ⊢
  have hl : lv_has ls 2 [(0, .ref (h 31)), (1, .int p1)] := hl
  unfold wM_byteAt at hw
  clear hD0
  refine lv_iload_n hx hb dX12_byteAt_0 rfl (lv_at hl 1 rfl) ?_
  refine lv_aload_n hx hb dX12_byteAt_1 rfl (lv_at hl 0 rfl) ?_
  refine va_get (D := D) (ci := 11) (v := .int (ms_taped S)) (C := RX12) (T := TX12) (N := 31) hx hb hts hin hown hK hP 0 rfl rfl 4 (by decide) w97 (fun _ h9 => h9) rfl dX12_byteAt_2 ?_
  obtain ⟨hc_1t, hc_1f⟩ := hw
  refine lv_icmp_ge (tgt := 17) hx hb dX12_byteAt_5 (by decide) (fun c_1 => ?_) (fun c_1 => ?_)
  · have hw := hc_1t c_1
    clear hc_1t hc_1f
    refine lv_iconst (v := (-1)) hx hb dX12_byteAt_17 (by decide) ?_
    exact W.iret (v := (-1)) hx hb hr (fun t ht hW => ⟨⟨(-1), S, rfl, hw, by rw [ht]; exact hP, va_K.moved hW.alike hK, hD⟩, hS.F ht⟩) hS.2.2 dX12_byteAt_18
  · have hw := hc_1f c_1
    clear hc_1t hc_1f
    refine lv_aload_n hx hb dX12_byteAt_8 rfl (lv_at hl 0 rfl) ?_
    refine va_get (D := D) (ci := 11) (v := .ref (h 3)) (C := RX12) (T := TX12) (N := 31) hx hb hts hin hown hK hP 0 rfl rfl 3 (by decide) w19 (fun _ h9 => h9) rfl dX12_byteAt_9 ?_
    refine lv_iload_n hx hb dX12_byteAt_12 rfl (lv_at hl 1 rfl) ?_
    obtain ⟨hi_2, hw⟩ := hw
    refine va_iald (f := (ms_tape S)) hx hb hK hP 4 3 rfl rfl hi_2 dX12_byteAt_13 ?_
    refine lv_goto (tgt := 18) hx hb dX12_byteAt_14 (by decide) ?_
    exact W.iret (v := (ms_tape S) p1.toNatClampNeg) hx hb hr (fun t ht hW => ⟨⟨(ms_tape S) p1.toNatClampNeg, S, rfl, hw, by rw [ht]; exact hP, va_K.moved hW.alike hK, hD⟩, hS.F ht⟩) hS.2.2 dX12_byteAt_18
def wM_isLetterByte_12 (post : Int32 → MS → Prop) (x0 : Int32) (S : MS) : Prop := ((x0 < 65 → post 0 S) ∧ (¬ (x0 < 65) → ((90 < x0 → post 0 S) ∧ (¬ (90 < x0) → post 1 S))))
def wM_isLetterByte (p1 : Int32) (S : MS) (post : Int32 → MS → Prop) : Prop := ((p1 < 97 → wM_isLetterByte_12 post p1 S) ∧ (¬ (p1 < 97) → ((p1 ≤ 122 → post 1 S) ∧ (¬ (p1 ≤ 122) → wM_isLetterByte_12 post p1 S))))
set_option maxHeartbeats 4000000 in
set_option maxRecDepth 100000 in
theorem cM_isLetterByte (l : Launch) (D : va_G) (h : Nat → Nat) (cy : Nat → ClassId) (p1 : Int32) (S : MS) (post : Int32 → MS → Prop) (hw : wM_isLetterByte p1 S post) : k_Mi l yX12_isLetterByte wsX12_isLetterByte { frames := 0, cells := 0, slots := 0, locals := 0 } D (tyM cy) (wM h cy) [.int p1] S post := by
  intro sz
  refine Met.ofW (cc := cX12_isLetterByte) (maxL := 1) (ret := (some .boolean)) (by decide) rfl ?_
  intro p e s m args below meth c s₁ B hml hv
  obtain ⟨rfl, hsz, hP, hK, hD0⟩ := hv
  have hx := B.exec
  have hb := B.bytes
  have hr := B.returns
  have hts := atoms_spec (ws := wsX12_isLetterByte) B.pre
  have hown : s.vm.findClass RX12 = some m.cls := findClass_of_methodNamed B.named
  have hlocks := B.notSynchronized
  subst hsz
  have hD := hD0.self (sz := s.heap.size)
  generalize hAe : va_A (wM h cy S) s.heap.size = A at hD ⊢
  have hA : ∀ q : Nat, s.heap.size ≤ q → A q := fun q h => by rw [← hAe]; exact Or.inr h
  have hS : va_S A s.heap s.heap [] := va_S.rf
  have hl := lv_entry ([.int p1]) (n := 1) (Nat.le_of_ble_eq_true rfl)
  rw [lg_entry_eq]
  generalize (lg_sl ([.int p1]) ++ List.replicate (1 - (lg_sl ([.int p1])).length) Slot.unset).toArray = ls at hl ⊢
  have hl : lv_has ls 1 [(0, .int p1)] := hl
  unfold wM_isLetterByte at hw
  clear hD0
  have J_12 : ∀ (x0 : Int32) (S : MS) (H : Heap) (locs : List Loc) (ls : Array Slot), wM_isLetterByte_12 post x0 S → va_P D vwCl (wM h cy S) H → va_D A (wM h cy S) → va_S A s.heap H locs → lv_has ls 1 [(0, .int x0)] → W p l e (headSpec wsX12_isLetterByte { frames := 0, cells := 0, slots := 0, locals := 0 }).room s m (([.int p1] : List Value).toArray) below meth c H locs 0 0 (MQ below (va_Qi post (k_Post D (tyM cy) (wM h cy) A) A) (([.int p1] : List Value).toArray) s 0 0 A) (F0 m 12 ls []) := by
    intro x0 S H locs ls hw hP hD hS hl
    unfold wM_isLetterByte_12 at hw
    refine lv_iload_n hx hb dX12_isLetterByte_12 rfl (lv_at hl 0 rfl) ?_
    refine lv_bipush (v := 65) hx hb dX12_isLetterByte_13 (by decide) ?_
    obtain ⟨hc_1t, hc_1f⟩ := hw
    refine lv_icmp_lt (tgt := 28) hx hb dX12_isLetterByte_15 (by decide) (fun c_1 => ?_) (fun c_1 => ?_)
    · have hw := hc_1t c_1
      clear hc_1t hc_1f
      refine lv_iconst (v := 0) hx hb dX12_isLetterByte_28 (by decide) ?_
      exact W.zret (v := 0) hx hb hr (by decide +kernel) (fun t ht hW => ⟨⟨0, S, rfl, hw, by rw [ht]; exact hP, va_K.moved hW.alike hK, hD⟩, hS.F ht⟩) hS.2.2 dX12_isLetterByte_29
    · have hw := hc_1f c_1
      clear hc_1t hc_1f
      refine lv_iload_n hx hb dX12_isLetterByte_18 rfl (lv_at hl 0 rfl) ?_
      refine lv_bipush (v := 90) hx hb dX12_isLetterByte_19 (by decide) ?_
      obtain ⟨hc_2t, hc_2f⟩ := hw
      refine lv_icmp_gt (tgt := 28) hx hb dX12_isLetterByte_21 (by decide) (fun c_2 => ?_) (fun c_2 => ?_)
      · have hw := hc_2t c_2
        clear hc_2t hc_2f
        refine lv_iconst (v := 0) hx hb dX12_isLetterByte_28 (by decide) ?_
        exact W.zret (v := 0) hx hb hr (by decide +kernel) (fun t ht hW => ⟨⟨0, S, rfl, hw, by rw [ht]; exact hP, va_K.moved hW.alike hK, hD⟩, hS.F ht⟩) hS.2.2 dX12_isLetterByte_29
      · have hw := hc_2f c_2
        clear hc_2t hc_2f
        refine lv_iconst (v := 1) hx hb dX12_isLetterByte_24 (by decide) ?_
        refine lv_goto (tgt := 29) hx hb dX12_isLetterByte_25 (by decide) ?_
        exact W.zret (v := 1) hx hb hr (by decide +kernel) (fun t ht hW => ⟨⟨1, S, rfl, hw, by rw [ht]; exact hP, va_K.moved hW.alike hK, hD⟩, hS.F ht⟩) hS.2.2 dX12_isLetterByte_29
  refine lv_iload_n hx hb dX12_isLetterByte_0 rfl (lv_at hl 0 rfl) ?_
  refine lv_bipush (v := 97) hx hb dX12_isLetterByte_1 (by decide) ?_
  obtain ⟨hc_3t, hc_3f⟩ := hw
  refine lv_icmp_lt (tgt := 12) hx hb dX12_isLetterByte_3 (by decide) (fun c_3 => ?_) (fun c_3 => ?_)
  · have hw := hc_3t c_3
    clear hc_3t hc_3f
    exact J_12 p1 S _ _ _ hw hP hD hS (lv_sub hl [0] rfl)
  · have hw := hc_3f c_3
    clear hc_3t hc_3f
    refine lv_iload_n hx hb dX12_isLetterByte_6 rfl (lv_at hl 0 rfl) ?_
    refine lv_bipush (v := 122) hx hb dX12_isLetterByte_7 (by decide) ?_
    obtain ⟨hc_4t, hc_4f⟩ := hw
    refine lv_icmp_le (tgt := 24) hx hb dX12_isLetterByte_9 (by decide) (fun c_4 => ?_) (fun c_4 => ?_)
    · have hw := hc_4t c_4
      clear hc_4t hc_4f
      refine lv_iconst (v := 1) hx hb dX12_isLetterByte_24 (by decide) ?_
      refine lv_goto (tgt := 29) hx hb dX12_isLetterByte_25 (by decide) ?_
      exact W.zret (v := 1) hx hb hr (by decide +kernel) (fun t ht hW => ⟨⟨1, S, rfl, hw, by rw [ht]; exact hP, va_K.moved hW.alike hK, hD⟩, hS.F ht⟩) hS.2.2 dX12_isLetterByte_29
    · have hw := hc_4f c_4
      clear hc_4t hc_4f
      exact J_12 p1 S _ _ _ hw hP hD hS (lv_sub hl [0] rfl)
def wM_isFigure (p1 : Int32) (S : MS) (post : Int32 → MS → Prop) : Prop := ((p1 < 48 → post 0 S) ∧ (¬ (p1 < 48) → ((57 < p1 → post 0 S) ∧ (¬ (57 < p1) → post 1 S))))
set_option maxHeartbeats 4000000 in
set_option maxRecDepth 100000 in
theorem cM_isFigure (l : Launch) (D : va_G) (h : Nat → Nat) (cy : Nat → ClassId) (p1 : Int32) (S : MS) (post : Int32 → MS → Prop) (hw : wM_isFigure p1 S post) : k_Mi l yX12_isFigure wsX12_isFigure { frames := 0, cells := 0, slots := 0, locals := 0 } D (tyM cy) (wM h cy) [.int p1] S post := by
  intro sz
  refine Met.ofW (cc := cX12_isFigure) (maxL := 1) (ret := (some .boolean)) (by decide) rfl ?_
  intro p e s m args below meth c s₁ B hml hv
  obtain ⟨rfl, hsz, hP, hK, hD0⟩ := hv
  have hx := B.exec
  have hb := B.bytes
  have hr := B.returns
  have hts := atoms_spec (ws := wsX12_isFigure) B.pre
  have hown : s.vm.findClass RX12 = some m.cls := findClass_of_methodNamed B.named
  have hlocks := B.notSynchronized
  subst hsz
  have hD := hD0.self (sz := s.heap.size)
  generalize hAe : va_A (wM h cy S) s.heap.size = A at hD ⊢
  have hA : ∀ q : Nat, s.heap.size ≤ q → A q := fun q h => by rw [← hAe]; exact Or.inr h
  have hS : va_S A s.heap s.heap [] := va_S.rf
  have hl := lv_entry ([.int p1]) (n := 1) (Nat.le_of_ble_eq_true rfl)
  rw [lg_entry_eq]
  generalize (lg_sl ([.int p1]) ++ List.replicate (1 - (lg_sl ([.int p1])).length) Slot.unset).toArray = ls at hl ⊢
  have hl : lv_has ls 1 [(0, .int p1)] := hl
  unfold wM_isFigure at hw
  clear hD0
  refine lv_iload_n hx hb dX12_isFigure_0 rfl (lv_at hl 0 rfl) ?_
  refine lv_bipush (v := 48) hx hb dX12_isFigure_1 (by decide) ?_
  obtain ⟨hc_1t, hc_1f⟩ := hw
  refine lv_icmp_lt (tgt := 16) hx hb dX12_isFigure_3 (by decide) (fun c_1 => ?_) (fun c_1 => ?_)
  · have hw := hc_1t c_1
    clear hc_1t hc_1f
    refine lv_iconst (v := 0) hx hb dX12_isFigure_16 (by decide) ?_
    exact W.zret (v := 0) hx hb hr (by decide +kernel) (fun t ht hW => ⟨⟨0, S, rfl, hw, by rw [ht]; exact hP, va_K.moved hW.alike hK, hD⟩, hS.F ht⟩) hS.2.2 dX12_isFigure_17
  · have hw := hc_1f c_1
    clear hc_1t hc_1f
    refine lv_iload_n hx hb dX12_isFigure_6 rfl (lv_at hl 0 rfl) ?_
    refine lv_bipush (v := 57) hx hb dX12_isFigure_7 (by decide) ?_
    obtain ⟨hc_2t, hc_2f⟩ := hw
    refine lv_icmp_gt (tgt := 16) hx hb dX12_isFigure_9 (by decide) (fun c_2 => ?_) (fun c_2 => ?_)
    · have hw := hc_2t c_2
      clear hc_2t hc_2f
      refine lv_iconst (v := 0) hx hb dX12_isFigure_16 (by decide) ?_
      exact W.zret (v := 0) hx hb hr (by decide +kernel) (fun t ht hW => ⟨⟨0, S, rfl, hw, by rw [ht]; exact hP, va_K.moved hW.alike hK, hD⟩, hS.F ht⟩) hS.2.2 dX12_isFigure_17
    · have hw := hc_2f c_2
      clear hc_2t hc_2f
      refine lv_iconst (v := 1) hx hb dX12_isFigure_12 (by decide) ?_
      refine lv_goto (tgt := 17) hx hb dX12_isFigure_13 (by decide) ?_
      exact W.zret (v := 1) hx hb hr (by decide +kernel) (fun t ht hW => ⟨⟨1, S, rfl, hw, by rw [ht]; exact hP, va_K.moved hW.alike hK, hD⟩, hS.F ht⟩) hS.2.2 dX12_isFigure_17
def wM_isSign (p1 : Int32) (S : MS) (post : Int32 → MS → Prop) : Prop := ((p1 = 35 → post 1 S) ∧ (p1 = 40 → post 1 S) ∧ (p1 = 41 → post 1 S) ∧ (p1 = 42 → post 1 S) ∧ (p1 = 43 → post 1 S) ∧ (p1 = 45 → post 1 S) ∧ (p1 = 47 → post 1 S) ∧ (p1 = 58 → post 1 S) ∧ (p1 = 59 → post 1 S) ∧ (p1 = 60 → post 1 S) ∧ (p1 = 61 → post 1 S) ∧ (p1 = 62 → post 1 S) ∧ (¬ p1 = 35 → ¬ p1 = 40 → ¬ p1 = 41 → ¬ p1 = 42 → ¬ p1 = 43 → ¬ p1 = 45 → ¬ p1 = 47 → ¬ p1 = 58 → ¬ p1 = 59 → ¬ p1 = 60 → ¬ p1 = 61 → ¬ p1 = 62 → post 0 S))
set_option maxHeartbeats 4000000 in
set_option maxRecDepth 100000 in
theorem cM_isSign (l : Launch) (D : va_G) (h : Nat → Nat) (cy : Nat → ClassId) (p1 : Int32) (S : MS) (post : Int32 → MS → Prop) (hw : wM_isSign p1 S post) : k_Mi l yX12_isSign wsX12_isSign { frames := 0, cells := 0, slots := 0, locals := 0 } D (tyM cy) (wM h cy) [.int p1] S post := by
  intro sz
  refine Met.ofW (cc := cX12_isSign) (maxL := 1) (ret := (some .boolean)) (by decide) rfl ?_
  intro p e s m args below meth c s₁ B hml hv
  obtain ⟨rfl, hsz, hP, hK, hD0⟩ := hv
  have hx := B.exec
  have hb := B.bytes
  have hr := B.returns
  have hts := atoms_spec (ws := wsX12_isSign) B.pre
  have hown : s.vm.findClass RX12 = some m.cls := findClass_of_methodNamed B.named
  have hlocks := B.notSynchronized
  subst hsz
  have hD := hD0.self (sz := s.heap.size)
  generalize hAe : va_A (wM h cy S) s.heap.size = A at hD ⊢
  have hA : ∀ q : Nat, s.heap.size ≤ q → A q := fun q h => by rw [← hAe]; exact Or.inr h
  have hS : va_S A s.heap s.heap [] := va_S.rf
  have hl := lv_entry ([.int p1]) (n := 1) (Nat.le_of_ble_eq_true rfl)
  rw [lg_entry_eq]
  generalize (lg_sl ([.int p1]) ++ List.replicate (1 - (lg_sl ([.int p1])).length) Slot.unset).toArray = ls at hl ⊢
  have hl : lv_has ls 1 [(0, .int p1)] := hl
  unfold wM_isSign at hw
  clear hD0
  refine lv_iload_n hx hb dX12_isSign_0 rfl (lv_at hl 0 rfl) ?_
  obtain ⟨hc_1, hw⟩ := hw
  by_cases c_1 : p1 = 35
  · have hw := hc_1 c_1
    refine lv_tableIn (off := 127) (tgt := 128) hx hb dX12_isSign_1 (by rw [c_1]; decide) (by rw [c_1]; decide) (by rw [c_1]; rfl) (by decide) ?_
    refine lv_iconst (v := 1) hx hb dX12_isSign_128 (by decide) ?_
    exact W.zret (v := 1) hx hb hr (by decide +kernel) (fun t ht hW => ⟨⟨1, S, rfl, hw, by rw [ht]; exact hP, va_K.moved hW.alike hK, hD⟩, hS.F ht⟩) hS.2.2 dX12_isSign_129
  obtain ⟨hc_2, hw⟩ := hw
  by_cases c_2 : p1 = 40
  · have hw := hc_2 c_2
    refine lv_tableIn (off := 127) (tgt := 128) hx hb dX12_isSign_1 (by rw [c_2]; decide) (by rw [c_2]; decide) (by rw [c_2]; rfl) (by decide) ?_
    refine lv_iconst (v := 1) hx hb dX12_isSign_128 (by decide) ?_
    exact W.zret (v := 1) hx hb hr (by decide +kernel) (fun t ht hW => ⟨⟨1, S, rfl, hw, by rw [ht]; exact hP, va_K.moved hW.alike hK, hD⟩, hS.F ht⟩) hS.2.2 dX12_isSign_129
  obtain ⟨hc_3, hw⟩ := hw
  by_cases c_3 : p1 = 41
  · have hw := hc_3 c_3
    refine lv_tableIn (off := 127) (tgt := 128) hx hb dX12_isSign_1 (by rw [c_3]; decide) (by rw [c_3]; decide) (by rw [c_3]; rfl) (by decide) ?_
    refine lv_iconst (v := 1) hx hb dX12_isSign_128 (by decide) ?_
    exact W.zret (v := 1) hx hb hr (by decide +kernel) (fun t ht hW => ⟨⟨1, S, rfl, hw, by rw [ht]; exact hP, va_K.moved hW.alike hK, hD⟩, hS.F ht⟩) hS.2.2 dX12_isSign_129
  obtain ⟨hc_4, hw⟩ := hw
  by_cases c_4 : p1 = 42
  · have hw := hc_4 c_4
    refine lv_tableIn (off := 127) (tgt := 128) hx hb dX12_isSign_1 (by rw [c_4]; decide) (by rw [c_4]; decide) (by rw [c_4]; rfl) (by decide) ?_
    refine lv_iconst (v := 1) hx hb dX12_isSign_128 (by decide) ?_
    exact W.zret (v := 1) hx hb hr (by decide +kernel) (fun t ht hW => ⟨⟨1, S, rfl, hw, by rw [ht]; exact hP, va_K.moved hW.alike hK, hD⟩, hS.F ht⟩) hS.2.2 dX12_isSign_129
  obtain ⟨hc_5, hw⟩ := hw
  by_cases c_5 : p1 = 43
  · have hw := hc_5 c_5
    refine lv_tableIn (off := 127) (tgt := 128) hx hb dX12_isSign_1 (by rw [c_5]; decide) (by rw [c_5]; decide) (by rw [c_5]; rfl) (by decide) ?_
    refine lv_iconst (v := 1) hx hb dX12_isSign_128 (by decide) ?_
    exact W.zret (v := 1) hx hb hr (by decide +kernel) (fun t ht hW => ⟨⟨1, S, rfl, hw, by rw [ht]; exact hP, va_K.moved hW.alike hK, hD⟩, hS.F ht⟩) hS.2.2 dX12_isSign_129
  obtain ⟨hc_6, hw⟩ := hw
  by_cases c_6 : p1 = 45
  · have hw := hc_6 c_6
    refine lv_tableIn (off := 127) (tgt := 128) hx hb dX12_isSign_1 (by rw [c_6]; decide) (by rw [c_6]; decide) (by rw [c_6]; rfl) (by decide) ?_
    refine lv_iconst (v := 1) hx hb dX12_isSign_128 (by decide) ?_
    exact W.zret (v := 1) hx hb hr (by decide +kernel) (fun t ht hW => ⟨⟨1, S, rfl, hw, by rw [ht]; exact hP, va_K.moved hW.alike hK, hD⟩, hS.F ht⟩) hS.2.2 dX12_isSign_129
  obtain ⟨hc_7, hw⟩ := hw
  by_cases c_7 : p1 = 47
  · have hw := hc_7 c_7
    refine lv_tableIn (off := 127) (tgt := 128) hx hb dX12_isSign_1 (by rw [c_7]; decide) (by rw [c_7]; decide) (by rw [c_7]; rfl) (by decide) ?_
    refine lv_iconst (v := 1) hx hb dX12_isSign_128 (by decide) ?_
    exact W.zret (v := 1) hx hb hr (by decide +kernel) (fun t ht hW => ⟨⟨1, S, rfl, hw, by rw [ht]; exact hP, va_K.moved hW.alike hK, hD⟩, hS.F ht⟩) hS.2.2 dX12_isSign_129
  obtain ⟨hc_8, hw⟩ := hw
  by_cases c_8 : p1 = 58
  · have hw := hc_8 c_8
    refine lv_tableIn (off := 127) (tgt := 128) hx hb dX12_isSign_1 (by rw [c_8]; decide) (by rw [c_8]; decide) (by rw [c_8]; rfl) (by decide) ?_
    refine lv_iconst (v := 1) hx hb dX12_isSign_128 (by decide) ?_
    exact W.zret (v := 1) hx hb hr (by decide +kernel) (fun t ht hW => ⟨⟨1, S, rfl, hw, by rw [ht]; exact hP, va_K.moved hW.alike hK, hD⟩, hS.F ht⟩) hS.2.2 dX12_isSign_129
  obtain ⟨hc_9, hw⟩ := hw
  by_cases c_9 : p1 = 59
  · have hw := hc_9 c_9
    refine lv_tableIn (off := 127) (tgt := 128) hx hb dX12_isSign_1 (by rw [c_9]; decide) (by rw [c_9]; decide) (by rw [c_9]; rfl) (by decide) ?_
    refine lv_iconst (v := 1) hx hb dX12_isSign_128 (by decide) ?_
    exact W.zret (v := 1) hx hb hr (by decide +kernel) (fun t ht hW => ⟨⟨1, S, rfl, hw, by rw [ht]; exact hP, va_K.moved hW.alike hK, hD⟩, hS.F ht⟩) hS.2.2 dX12_isSign_129
  obtain ⟨hc_10, hw⟩ := hw
  by_cases c_10 : p1 = 60
  · have hw := hc_10 c_10
    refine lv_tableIn (off := 127) (tgt := 128) hx hb dX12_isSign_1 (by rw [c_10]; decide) (by rw [c_10]; decide) (by rw [c_10]; rfl) (by decide) ?_
    refine lv_iconst (v := 1) hx hb dX12_isSign_128 (by decide) ?_
    exact W.zret (v := 1) hx hb hr (by decide +kernel) (fun t ht hW => ⟨⟨1, S, rfl, hw, by rw [ht]; exact hP, va_K.moved hW.alike hK, hD⟩, hS.F ht⟩) hS.2.2 dX12_isSign_129
  obtain ⟨hc_11, hw⟩ := hw
  by_cases c_11 : p1 = 61
  · have hw := hc_11 c_11
    refine lv_tableIn (off := 127) (tgt := 128) hx hb dX12_isSign_1 (by rw [c_11]; decide) (by rw [c_11]; decide) (by rw [c_11]; rfl) (by decide) ?_
    refine lv_iconst (v := 1) hx hb dX12_isSign_128 (by decide) ?_
    exact W.zret (v := 1) hx hb hr (by decide +kernel) (fun t ht hW => ⟨⟨1, S, rfl, hw, by rw [ht]; exact hP, va_K.moved hW.alike hK, hD⟩, hS.F ht⟩) hS.2.2 dX12_isSign_129
  obtain ⟨hc_12, hw⟩ := hw
  by_cases c_12 : p1 = 62
  · have hw := hc_12 c_12
    refine lv_tableIn (off := 127) (tgt := 128) hx hb dX12_isSign_1 (by rw [c_12]; decide) (by rw [c_12]; decide) (by rw [c_12]; rfl) (by decide) ?_
    refine lv_iconst (v := 1) hx hb dX12_isSign_128 (by decide) ?_
    exact W.zret (v := 1) hx hb hr (by decide +kernel) (fun t ht hW => ⟨⟨1, S, rfl, hw, by rw [ht]; exact hP, va_K.moved hW.alike hK, hD⟩, hS.F ht⟩) hS.2.2 dX12_isSign_129
  have hw := hw c_1 c_2 c_3 c_4 c_5 c_6 c_7 c_8 c_9 c_10 c_11 c_12
  by_cases c_13 : p1 = 36
  · refine lv_tableIn (off := 129) (tgt := 130) hx hb dX12_isSign_1 (by rw [c_13]; decide) (by rw [c_13]; decide) (by rw [c_13]; rfl) (by decide) ?_
    refine lv_iconst (v := 0) hx hb dX12_isSign_130 (by decide) ?_
    exact W.zret (v := 0) hx hb hr (by decide +kernel) (fun t ht hW => ⟨⟨0, S, rfl, hw, by rw [ht]; exact hP, va_K.moved hW.alike hK, hD⟩, hS.F ht⟩) hS.2.2 dX12_isSign_131
  by_cases c_14 : p1 = 37
  · refine lv_tableIn (off := 129) (tgt := 130) hx hb dX12_isSign_1 (by rw [c_14]; decide) (by rw [c_14]; decide) (by rw [c_14]; rfl) (by decide) ?_
    refine lv_iconst (v := 0) hx hb dX12_isSign_130 (by decide) ?_
    exact W.zret (v := 0) hx hb hr (by decide +kernel) (fun t ht hW => ⟨⟨0, S, rfl, hw, by rw [ht]; exact hP, va_K.moved hW.alike hK, hD⟩, hS.F ht⟩) hS.2.2 dX12_isSign_131
  by_cases c_15 : p1 = 38
  · refine lv_tableIn (off := 129) (tgt := 130) hx hb dX12_isSign_1 (by rw [c_15]; decide) (by rw [c_15]; decide) (by rw [c_15]; rfl) (by decide) ?_
    refine lv_iconst (v := 0) hx hb dX12_isSign_130 (by decide) ?_
    exact W.zret (v := 0) hx hb hr (by decide +kernel) (fun t ht hW => ⟨⟨0, S, rfl, hw, by rw [ht]; exact hP, va_K.moved hW.alike hK, hD⟩, hS.F ht⟩) hS.2.2 dX12_isSign_131
  by_cases c_16 : p1 = 39
  · refine lv_tableIn (off := 129) (tgt := 130) hx hb dX12_isSign_1 (by rw [c_16]; decide) (by rw [c_16]; decide) (by rw [c_16]; rfl) (by decide) ?_
    refine lv_iconst (v := 0) hx hb dX12_isSign_130 (by decide) ?_
    exact W.zret (v := 0) hx hb hr (by decide +kernel) (fun t ht hW => ⟨⟨0, S, rfl, hw, by rw [ht]; exact hP, va_K.moved hW.alike hK, hD⟩, hS.F ht⟩) hS.2.2 dX12_isSign_131
  by_cases c_17 : p1 = 44
  · refine lv_tableIn (off := 129) (tgt := 130) hx hb dX12_isSign_1 (by rw [c_17]; decide) (by rw [c_17]; decide) (by rw [c_17]; rfl) (by decide) ?_
    refine lv_iconst (v := 0) hx hb dX12_isSign_130 (by decide) ?_
    exact W.zret (v := 0) hx hb hr (by decide +kernel) (fun t ht hW => ⟨⟨0, S, rfl, hw, by rw [ht]; exact hP, va_K.moved hW.alike hK, hD⟩, hS.F ht⟩) hS.2.2 dX12_isSign_131
  by_cases c_18 : p1 = 46
  · refine lv_tableIn (off := 129) (tgt := 130) hx hb dX12_isSign_1 (by rw [c_18]; decide) (by rw [c_18]; decide) (by rw [c_18]; rfl) (by decide) ?_
    refine lv_iconst (v := 0) hx hb dX12_isSign_130 (by decide) ?_
    exact W.zret (v := 0) hx hb hr (by decide +kernel) (fun t ht hW => ⟨⟨0, S, rfl, hw, by rw [ht]; exact hP, va_K.moved hW.alike hK, hD⟩, hS.F ht⟩) hS.2.2 dX12_isSign_131
  by_cases c_19 : p1 = 48
  · refine lv_tableIn (off := 129) (tgt := 130) hx hb dX12_isSign_1 (by rw [c_19]; decide) (by rw [c_19]; decide) (by rw [c_19]; rfl) (by decide) ?_
    refine lv_iconst (v := 0) hx hb dX12_isSign_130 (by decide) ?_
    exact W.zret (v := 0) hx hb hr (by decide +kernel) (fun t ht hW => ⟨⟨0, S, rfl, hw, by rw [ht]; exact hP, va_K.moved hW.alike hK, hD⟩, hS.F ht⟩) hS.2.2 dX12_isSign_131
  by_cases c_20 : p1 = 49
  · refine lv_tableIn (off := 129) (tgt := 130) hx hb dX12_isSign_1 (by rw [c_20]; decide) (by rw [c_20]; decide) (by rw [c_20]; rfl) (by decide) ?_
    refine lv_iconst (v := 0) hx hb dX12_isSign_130 (by decide) ?_
    exact W.zret (v := 0) hx hb hr (by decide +kernel) (fun t ht hW => ⟨⟨0, S, rfl, hw, by rw [ht]; exact hP, va_K.moved hW.alike hK, hD⟩, hS.F ht⟩) hS.2.2 dX12_isSign_131
  by_cases c_21 : p1 = 50
  · refine lv_tableIn (off := 129) (tgt := 130) hx hb dX12_isSign_1 (by rw [c_21]; decide) (by rw [c_21]; decide) (by rw [c_21]; rfl) (by decide) ?_
    refine lv_iconst (v := 0) hx hb dX12_isSign_130 (by decide) ?_
    exact W.zret (v := 0) hx hb hr (by decide +kernel) (fun t ht hW => ⟨⟨0, S, rfl, hw, by rw [ht]; exact hP, va_K.moved hW.alike hK, hD⟩, hS.F ht⟩) hS.2.2 dX12_isSign_131
  by_cases c_22 : p1 = 51
  · refine lv_tableIn (off := 129) (tgt := 130) hx hb dX12_isSign_1 (by rw [c_22]; decide) (by rw [c_22]; decide) (by rw [c_22]; rfl) (by decide) ?_
    refine lv_iconst (v := 0) hx hb dX12_isSign_130 (by decide) ?_
    exact W.zret (v := 0) hx hb hr (by decide +kernel) (fun t ht hW => ⟨⟨0, S, rfl, hw, by rw [ht]; exact hP, va_K.moved hW.alike hK, hD⟩, hS.F ht⟩) hS.2.2 dX12_isSign_131
  by_cases c_23 : p1 = 52
  · refine lv_tableIn (off := 129) (tgt := 130) hx hb dX12_isSign_1 (by rw [c_23]; decide) (by rw [c_23]; decide) (by rw [c_23]; rfl) (by decide) ?_
    refine lv_iconst (v := 0) hx hb dX12_isSign_130 (by decide) ?_
    exact W.zret (v := 0) hx hb hr (by decide +kernel) (fun t ht hW => ⟨⟨0, S, rfl, hw, by rw [ht]; exact hP, va_K.moved hW.alike hK, hD⟩, hS.F ht⟩) hS.2.2 dX12_isSign_131
  by_cases c_24 : p1 = 53
  · refine lv_tableIn (off := 129) (tgt := 130) hx hb dX12_isSign_1 (by rw [c_24]; decide) (by rw [c_24]; decide) (by rw [c_24]; rfl) (by decide) ?_
    refine lv_iconst (v := 0) hx hb dX12_isSign_130 (by decide) ?_
    exact W.zret (v := 0) hx hb hr (by decide +kernel) (fun t ht hW => ⟨⟨0, S, rfl, hw, by rw [ht]; exact hP, va_K.moved hW.alike hK, hD⟩, hS.F ht⟩) hS.2.2 dX12_isSign_131
  by_cases c_25 : p1 = 54
  · refine lv_tableIn (off := 129) (tgt := 130) hx hb dX12_isSign_1 (by rw [c_25]; decide) (by rw [c_25]; decide) (by rw [c_25]; rfl) (by decide) ?_
    refine lv_iconst (v := 0) hx hb dX12_isSign_130 (by decide) ?_
    exact W.zret (v := 0) hx hb hr (by decide +kernel) (fun t ht hW => ⟨⟨0, S, rfl, hw, by rw [ht]; exact hP, va_K.moved hW.alike hK, hD⟩, hS.F ht⟩) hS.2.2 dX12_isSign_131
  by_cases c_26 : p1 = 55
  · refine lv_tableIn (off := 129) (tgt := 130) hx hb dX12_isSign_1 (by rw [c_26]; decide) (by rw [c_26]; decide) (by rw [c_26]; rfl) (by decide) ?_
    refine lv_iconst (v := 0) hx hb dX12_isSign_130 (by decide) ?_
    exact W.zret (v := 0) hx hb hr (by decide +kernel) (fun t ht hW => ⟨⟨0, S, rfl, hw, by rw [ht]; exact hP, va_K.moved hW.alike hK, hD⟩, hS.F ht⟩) hS.2.2 dX12_isSign_131
  by_cases c_27 : p1 = 56
  · refine lv_tableIn (off := 129) (tgt := 130) hx hb dX12_isSign_1 (by rw [c_27]; decide) (by rw [c_27]; decide) (by rw [c_27]; rfl) (by decide) ?_
    refine lv_iconst (v := 0) hx hb dX12_isSign_130 (by decide) ?_
    exact W.zret (v := 0) hx hb hr (by decide +kernel) (fun t ht hW => ⟨⟨0, S, rfl, hw, by rw [ht]; exact hP, va_K.moved hW.alike hK, hD⟩, hS.F ht⟩) hS.2.2 dX12_isSign_131
  by_cases c_28 : p1 = 57
  · refine lv_tableIn (off := 129) (tgt := 130) hx hb dX12_isSign_1 (by rw [c_28]; decide) (by rw [c_28]; decide) (by rw [c_28]; rfl) (by decide) ?_
    refine lv_iconst (v := 0) hx hb dX12_isSign_130 (by decide) ?_
    exact W.zret (v := 0) hx hb hr (by decide +kernel) (fun t ht hW => ⟨⟨0, S, rfl, hw, by rw [ht]; exact hP, va_K.moved hW.alike hK, hD⟩, hS.F ht⟩) hS.2.2 dX12_isSign_131
  have c_1n := lv_neT c_1 (a := 35) (by decide)
  have c_2n := lv_neT c_2 (a := 40) (by decide)
  have c_3n := lv_neT c_3 (a := 41) (by decide)
  have c_4n := lv_neT c_4 (a := 42) (by decide)
  have c_5n := lv_neT c_5 (a := 43) (by decide)
  have c_6n := lv_neT c_6 (a := 45) (by decide)
  have c_7n := lv_neT c_7 (a := 47) (by decide)
  have c_8n := lv_neT c_8 (a := 58) (by decide)
  have c_9n := lv_neT c_9 (a := 59) (by decide)
  have c_10n := lv_neT c_10 (a := 60) (by decide)
  have c_11n := lv_neT c_11 (a := 61) (by decide)
  have c_12n := lv_neT c_12 (a := 62) (by decide)
  have c_13n := lv_neT c_13 (a := 36) (by decide)
  have c_14n := lv_neT c_14 (a := 37) (by decide)
  have c_15n := lv_neT c_15 (a := 38) (by decide)
  have c_16n := lv_neT c_16 (a := 39) (by decide)
  have c_17n := lv_neT c_17 (a := 44) (by decide)
  have c_18n := lv_neT c_18 (a := 46) (by decide)
  have c_19n := lv_neT c_19 (a := 48) (by decide)
  have c_20n := lv_neT c_20 (a := 49) (by decide)
  have c_21n := lv_neT c_21 (a := 50) (by decide)
  have c_22n := lv_neT c_22 (a := 51) (by decide)
  have c_23n := lv_neT c_23 (a := 52) (by decide)
  have c_24n := lv_neT c_24 (a := 53) (by decide)
  have c_25n := lv_neT c_25 (a := 54) (by decide)
  have c_26n := lv_neT c_26 (a := 55) (by decide)
  have c_27n := lv_neT c_27 (a := 56) (by decide)
  have c_28n := lv_neT c_28 (a := 57) (by decide)
  refine lv_tableOut (tgt := 130) hx hb dX12_isSign_1 (by omega) (by decide) ?_
  refine lv_iconst (v := 0) hx hb dX12_isSign_130 (by decide) ?_
  exact W.zret (v := 0) hx hb hr (by decide +kernel) (fun t ht hW => ⟨⟨0, S, rfl, hw, by rw [ht]; exact hP, va_K.moved hW.alike hK, hD⟩, hS.F ht⟩) hS.2.2 dX12_isSign_131
def wM_nextToken_272 (post : MS → Prop) (x1 : Int32) (S : MS) : Prop := wM_byteAt (ms_at S) S (fun r_1 S_2 => ((r_1 = 61 → ((x1 = 60 → (∀ S_7 : MS, S_7 = (ms_set_token S_2 4) → (∀ S_8 : MS, S_8 = (ms_set_at S_7 ((ms_at S_7) + 1)) → post S_8))) ∧ (¬ (x1 = 60) → (∀ S_5 : MS, S_5 = (ms_set_token S_2 5) → (∀ S_6 : MS, S_6 = (ms_set_at S_5 ((ms_at S_5) + 1)) → post S_6))))) ∧ (¬ (r_1 = 61) → post S_2)))
def wM_nextToken_247 (post : MS → Prop) (x1 : Int32) (t1 : Int32) (S : MS) : Prop := (∀ S_1 : MS, S_1 = (ms_set_token S t1) → (∀ S_2 : MS, S_2 = (ms_set_at S_1 ((ms_at S_1) + 1)) → ((x1 = 60 → wM_nextToken_272 post x1 S_2) ∧ (¬ (x1 = 60) → ((x1 = 62 → wM_nextToken_272 post x1 S_2) ∧ (¬ (x1 = 62) → post S_2))))))
def wM_nextToken_168 (post : MS → Prop) : Nat → MS → Prop
  | 0, _ => False
  | n + 1, S => wM_byteAt (ms_at S) S (fun r_1 S_2 => wM_isLetterByte r_1 S_2 (fun r_3 S_4 => ((r_3 = 0 → post S_4) ∧ (¬ (r_3 = 0) → (((k_shrL (ms_word S_4) 48) = 0 → wM_byteAt (ms_at S_4) S_4 (fun r_7 S_8 => (∀ S_9 : MS, S_9 = (ms_set_word S_8 ((k_shlL (ms_word S_4) 8) ||| (Int32.toInt64 r_7))) → (∀ S_10 : MS, S_10 = (ms_set_at S_9 ((ms_at S_9) + 1)) → wM_nextToken_168 post n S_10)))) ∧ (¬ ((k_shrL (ms_word S_4) 48) = 0) → (∀ S_11 : MS, S_11 = (ms_set_word S_4 1152921504606846976) → (∀ S_12 : MS, S_12 = (ms_set_at S_11 ((ms_at S_11) + 1)) → wM_nextToken_168 post n S_12))))))))
def wM_nextToken_85 (post : MS → Prop) : Nat → MS → Prop
  | 0, _ => False
  | n + 1, S => wM_byteAt (ms_at S) S (fun r_1 S_2 => wM_isFigure r_1 S_2 (fun r_3 S_4 => ((r_3 = 0 → post S_4) ∧ (¬ (r_3 = 0) → (((ms_number S_4) ≤ 99999 → wM_byteAt (ms_at S_4) S_4 (fun r_7 S_8 => (∀ S_9 : MS, S_9 = (ms_set_number S_8 (((10 * (ms_number S_4)) + r_7) - 48)) → (∀ S_10 : MS, S_10 = (ms_set_at S_9 ((ms_at S_9) + 1)) → wM_nextToken_85 post n S_10)))) ∧ (¬ ((ms_number S_4) ≤ 99999) → (∀ S_11 : MS, S_11 = (ms_set_number S_4 (ms_number S_4)) → (∀ S_12 : MS, S_12 = (ms_set_at S_11 ((ms_at S_11) + 1)) → wM_nextToken_85 post n S_12))))))))
def wM_nextToken_0 (post : MS → Prop) : Nat → MS → Prop
  | 0, _ => False
  | n + 1, S => wM_byteAt (ms_at S) S (fun r_1 S_2 => ((r_1 = 32 → (∀ S_4 : MS, S_4 = (ms_set_at S_2 ((ms_at S_2) + 1)) → wM_nextToken_0 post n S_4)) ∧ (¬ (r_1 = 32) → wM_byteAt (ms_at S_2) S_2 (fun r_5 S_6 => ((r_5 = 10 → (∀ S_26 : MS, S_26 = (ms_set_at S_6 ((ms_at S_6) + 1)) → wM_nextToken_0 post n S_26)) ∧ (¬ (r_5 = 10) → (∀ S_8 : MS, S_8 = (ms_set_place S_6 (ms_at S_6)) → wM_byteAt (ms_at S_8) S_8 (fun r_9 S_10 => ((0 ≤ r_9 → wM_isFigure r_9 S_10 (fun r_12 S_13 => ((r_12 = 0 → wM_isLetterByte r_9 S_13 (fun r_15 S_16 => ((r_15 = 0 → wM_isSign r_9 S_16 (fun r_18 S_19 => ((r_18 = 0 → wM_nextToken_247 post r_9 3 S_19) ∧ (¬ (r_18 = 0) → wM_nextToken_247 post r_9 r_9 S_19)))) ∧ (¬ (r_15 = 0) → (∀ S_21 : MS, S_21 = (ms_set_token S_16 2) → (∀ S_22 : MS, S_22 = (ms_set_word S_21 0) → ∃ k_ : Nat, wM_nextToken_168 post k_ S_22)))))) ∧ (¬ (r_12 = 0) → (∀ S_23 : MS, S_23 = (ms_set_token S_13 1) → (∀ S_24 : MS, S_24 = (ms_set_number S_23 0) → ∃ k_ : Nat, wM_nextToken_85 post k_ S_24)))))) ∧ (¬ (0 ≤ r_9) → (∀ S_25 : MS, S_25 = (ms_set_token S_10 0) → post S_25)))))))))))
def wM_nextToken (S : MS) (post : MS → Prop) : Prop := ∃ k_ : Nat, wM_nextToken_0 post k_ S
set_option maxHeartbeats 4000000 in
set_option maxRecDepth 100000 in
theorem cM_nextToken (l : Launch) (D : va_G) (h : Nat → Nat) (cy : Nat → ClassId) (S : MS) (post : MS → Prop) (hw : wM_nextToken S post) : k_Mv l yX12_nextToken wsX12_nextToken { frames := 1, cells := 0, slots := 0, locals := 21 } D (tyM cy) (wM h cy) [.ref (h 31)] S post := by
  intro sz
  refine Met.ofW (cc := cX12_nextToken) (maxL := 2) (ret := none) (by decide) rfl ?_
  intro p e s m args below meth c s₁ B hml hv
  obtain ⟨rfl, hsz, hP, hK, hD0⟩ := hv
  have hx := B.exec
  have hb := B.bytes
  have hr := B.returns
  have hts := atoms_spec (ws := wsX12_nextToken) B.pre
  have hown : s.vm.findClass RX12 = some m.cls := findClass_of_methodNamed B.named
  have hlocks := B.notSynchronized
  subst hsz
  have hD := hD0.self (sz := s.heap.size)
  generalize hAe : va_A (wM h cy S) s.heap.size = A at hD ⊢
  have hA : ∀ q : Nat, s.heap.size ≤ q → A q := fun q h => by rw [← hAe]; exact Or.inr h
  have hS : va_S A s.heap s.heap [] := va_S.rf
  have hin : ∀ w ∈ wsX120, w ∈ wsX12_nextToken := fun _ h => List.mem_cons_of_mem _ (List.mem_append_right _ h)
  have wc130 := hts (.constantLong RX12 130 (1152921504606846976)) (List.mem_of_getElem? (i := 7) rfl)
  have wc122 := hts (.constant RX12 122 (99999)) (List.mem_of_getElem? (i := 5) rfl)
  have w103 := hts (.fieldLink RX12 103 "ClownsMournModel" "at" "I") (List.mem_of_getElem? (i := 1) rfl)
  have w110 := hts (.fieldLink RX12 110 "ClownsMournModel" "place" "I") (List.mem_of_getElem? (i := 2) rfl)
  have w113 := hts (.fieldLink RX12 113 "ClownsMournModel" "token" "I") (List.mem_of_getElem? (i := 3) rfl)
  have w119 := hts (.fieldLink RX12 119 "ClownsMournModel" "number" "I") (List.mem_of_getElem? (i := 4) rfl)
  have w126 := hts (.fieldLink RX12 126 "ClownsMournModel" "word" "J") (List.mem_of_getElem? (i := 6) rfl)
  have hl := lv_entry ([.ref (h 31)]) (n := 2) (Nat.le_of_ble_eq_true rfl)
  rw [lg_entry_eq]
  generalize (lg_sl ([.ref (h 31)]) ++ List.replicate (2 - (lg_sl ([.ref (h 31)])).length) Slot.unset).toArray = ls at hl ⊢
  have hl : lv_has ls 2 [(0, .ref (h 31))] := hl
  unfold wM_nextToken at hw
  clear hD0
  have J_272 : ∀ (x1 : Int32) (S : MS) (H : Heap) (locs : List Loc) (ls : Array Slot), wM_nextToken_272 post x1 S → va_P D vwCl (wM h cy S) H → va_D A (wM h cy S) → va_S A s.heap H locs → lv_has ls 2 [(0, .ref (h 31)), (1, .int x1)] → W p l e (headSpec wsX12_nextToken { frames := 1, cells := 0, slots := 0, locals := 21 }).room s m (([.ref (h 31)] : List Value).toArray) below meth c H locs 0 0 (MQ below (va_Qv post (k_Post D (tyM cy) (wM h cy) A) A) (([.ref (h 31)] : List Value).toArray) s 0 0 A) (F0 m 272 ls []) := by
    intro x1 S H locs ls hw hP hD hS hl
    unfold wM_nextToken_272 at hw
    refine lv_aload_n hx hb dX12_nextToken_272 rfl (lv_at hl 0 rfl) ?_
    refine lv_aload_n hx hb dX12_nextToken_273 rfl (lv_at hl 0 rfl) ?_
    refine va_get (D := D) (ci := 11) (v := .int (ms_at S)) (C := RX12) (T := TX12) (N := 31) hx hb hts hin hown hK hP 0 rfl rfl 7 (by decide) w103 (fun _ h9 => h9) rfl dX12_nextToken_274 ?_
    refine k_callVi (As := [.int (ms_at S)]) (rest := []) ⟨hx, hb, hml, hown, hts⟩ (cM_byteAt l D h cy _ _ _ hw) (cwV 1 hts gX12_nextToken_X12_byteAt rfl rfl rfl (by decide +kernel) ⟨Nat.le_of_ble_eq_true rfl, Nat.le_of_ble_eq_true rfl⟩) (va_recv hK hP (ci := 11) (q0 := 0) rfl rfl) hK hP hD hS hA rfl hl.1 rfl (Nat.le_of_ble_eq_true rfl) dX12_nextToken_277 ⟨Nat.zero_le _, Nat.zero_le _⟩ (fun r_1 S_2 H locs hw hP hD hS => ?_)
    refine lv_bipush (v := 61) hx hb dX12_nextToken_280 (by decide) ?_
    obtain ⟨hc_3t, hc_3f⟩ := hw
    refine lv_icmp_ne (tgt := 310) hx hb dX12_nextToken_282 (by decide) (fun c_3 => ?_) (fun c_3 => ?_)
    · have hw := hc_3f c_3
      clear hc_3t hc_3f
      exact W.vret hx hb hr (fun t ht hW => ⟨⟨S_2, rfl, hw, by rw [ht]; exact hP, va_K.moved hW.alike hK, hD⟩, hS.F ht⟩) hS.2.2 dX12_nextToken_310
    · have hw := hc_3t c_3
      clear hc_3t hc_3f
      refine lv_aload_n hx hb dX12_nextToken_285 rfl (lv_at hl 0 rfl) ?_
      refine lv_iload_n hx hb dX12_nextToken_286 rfl (lv_at hl 1 rfl) ?_
      refine lv_bipush (v := 60) hx hb dX12_nextToken_287 (by decide) ?_
      obtain ⟨hc_4t, hc_4f⟩ := hw
      refine lv_icmp_ne (tgt := 296) hx hb dX12_nextToken_289 (by decide) (fun c_4 => ?_) (fun c_4 => ?_)
      · have hw := hc_4f c_4
        clear hc_4t hc_4f
        refine lv_iconst (v := 5) hx hb dX12_nextToken_296 (by decide) ?_
        refine va_put (D := D) (ci := 11) (v := .int 5) (ty := .int) (C := RX12) (T := TX12) (N := 31) hx hb hts hin tyX12 tyX12_ok nmX12 hown hK hP hD hS 0 rfl rfl 9 (by decide) w113 (fun _ h9 => h9) rfl (tyX12_ok 9 (by decide)) rfl rfl (Nat.le_of_ble_eq_true rfl) dX12_nextToken_297 (fun H locs hP hD hS => ?_)
        obtain ⟨S_5, eS_5⟩ : ∃ z : MS, z = (ms_set_token S_2 5) := ⟨_, rfl⟩
        have hw := hw S_5 eS_5
        have hP : va_P D vwCl (wM h cy S_5) H := by rw [eS_5, ← wMp_token]; exact hP
        have hD : va_D A (wM h cy S_5) := by rw [eS_5, ← wMp_token]; exact hD
        refine lv_aload_n hx hb dX12_nextToken_300 rfl (lv_at hl 0 rfl) ?_
        refine lv_dup hx hb dX12_nextToken_301 rfl ?_
        refine va_get (D := D) (ci := 11) (v := .int (ms_at S_5)) (C := RX12) (T := TX12) (N := 31) hx hb hts hin hown hK hP 0 rfl rfl 7 (by decide) w103 (fun _ h9 => h9) rfl dX12_nextToken_302 ?_
        refine lv_iconst (v := 1) hx hb dX12_nextToken_305 (by decide) ?_
        refine lv_iadd hx hb dX12_nextToken_306 ?_
        refine va_put (D := D) (ci := 11) (v := .int ((ms_at S_5) + 1)) (ty := .int) (C := RX12) (T := TX12) (N := 31) hx hb hts hin tyX12 tyX12_ok nmX12 hown hK hP hD hS 0 rfl rfl 7 (by decide) w103 (fun _ h9 => h9) rfl (tyX12_ok 7 (by decide)) rfl rfl (Nat.le_of_ble_eq_true rfl) dX12_nextToken_307 (fun H locs hP hD hS => ?_)
        obtain ⟨S_6, eS_6⟩ : ∃ z : MS, z = (ms_set_at S_5 ((ms_at S_5) + 1)) := ⟨_, rfl⟩
        have hw := hw S_6 eS_6
        have hP : va_P D vwCl (wM h cy S_6) H := by rw [eS_6, ← wMp_at]; exact hP
        have hD : va_D A (wM h cy S_6) := by rw [eS_6, ← wMp_at]; exact hD
        exact W.vret hx hb hr (fun t ht hW => ⟨⟨S_6, rfl, hw, by rw [ht]; exact hP, va_K.moved hW.alike hK, hD⟩, hS.F ht⟩) hS.2.2 dX12_nextToken_310
      · have hw := hc_4t c_4
        clear hc_4t hc_4f
        refine lv_iconst (v := 4) hx hb dX12_nextToken_292 (by decide) ?_
        refine lv_goto (tgt := 297) hx hb dX12_nextToken_293 (by decide) ?_
        refine va_put (D := D) (ci := 11) (v := .int 4) (ty := .int) (C := RX12) (T := TX12) (N := 31) hx hb hts hin tyX12 tyX12_ok nmX12 hown hK hP hD hS 0 rfl rfl 9 (by decide) w113 (fun _ h9 => h9) rfl (tyX12_ok 9 (by decide)) rfl rfl (Nat.le_of_ble_eq_true rfl) dX12_nextToken_297 (fun H locs hP hD hS => ?_)
        obtain ⟨S_7, eS_7⟩ : ∃ z : MS, z = (ms_set_token S_2 4) := ⟨_, rfl⟩
        have hw := hw S_7 eS_7
        have hP : va_P D vwCl (wM h cy S_7) H := by rw [eS_7, ← wMp_token]; exact hP
        have hD : va_D A (wM h cy S_7) := by rw [eS_7, ← wMp_token]; exact hD
        refine lv_aload_n hx hb dX12_nextToken_300 rfl (lv_at hl 0 rfl) ?_
        refine lv_dup hx hb dX12_nextToken_301 rfl ?_
        refine va_get (D := D) (ci := 11) (v := .int (ms_at S_7)) (C := RX12) (T := TX12) (N := 31) hx hb hts hin hown hK hP 0 rfl rfl 7 (by decide) w103 (fun _ h9 => h9) rfl dX12_nextToken_302 ?_
        refine lv_iconst (v := 1) hx hb dX12_nextToken_305 (by decide) ?_
        refine lv_iadd hx hb dX12_nextToken_306 ?_
        refine va_put (D := D) (ci := 11) (v := .int ((ms_at S_7) + 1)) (ty := .int) (C := RX12) (T := TX12) (N := 31) hx hb hts hin tyX12 tyX12_ok nmX12 hown hK hP hD hS 0 rfl rfl 7 (by decide) w103 (fun _ h9 => h9) rfl (tyX12_ok 7 (by decide)) rfl rfl (Nat.le_of_ble_eq_true rfl) dX12_nextToken_307 (fun H locs hP hD hS => ?_)
        obtain ⟨S_8, eS_8⟩ : ∃ z : MS, z = (ms_set_at S_7 ((ms_at S_7) + 1)) := ⟨_, rfl⟩
        have hw := hw S_8 eS_8
        have hP : va_P D vwCl (wM h cy S_8) H := by rw [eS_8, ← wMp_at]; exact hP
        have hD : va_D A (wM h cy S_8) := by rw [eS_8, ← wMp_at]; exact hD
        exact W.vret hx hb hr (fun t ht hW => ⟨⟨S_8, rfl, hw, by rw [ht]; exact hP, va_K.moved hW.alike hK, hD⟩, hS.F ht⟩) hS.2.2 dX12_nextToken_310
  have J_247 : ∀ (x1 : Int32) (t1 : Int32) (S : MS) (H : Heap) (locs : List Loc) (ls : Array Slot), wM_nextToken_247 post x1 t1 S → va_P D vwCl (wM h cy S) H → va_D A (wM h cy S) → va_S A s.heap H locs → lv_has ls 2 [(0, .ref (h 31)), (1, .int x1)] → W p l e (headSpec wsX12_nextToken { frames := 1, cells := 0, slots := 0, locals := 21 }).room s m (([.ref (h 31)] : List Value).toArray) below meth c H locs 0 0 (MQ below (va_Qv post (k_Post D (tyM cy) (wM h cy) A) A) (([.ref (h 31)] : List Value).toArray) s 0 0 A) (F0 m 247 ls [.int t1, .ref (h 31)]) := by
    intro x1 t1 S H locs ls hw hP hD hS hl
    unfold wM_nextToken_247 at hw
    refine va_put (D := D) (ci := 11) (v := .int t1) (ty := .int) (C := RX12) (T := TX12) (N := 31) hx hb hts hin tyX12 tyX12_ok nmX12 hown hK hP hD hS 0 rfl rfl 9 (by decide) w113 (fun _ h9 => h9) rfl (tyX12_ok 9 (by decide)) rfl rfl (Nat.le_of_ble_eq_true rfl) dX12_nextToken_247 (fun H locs hP hD hS => ?_)
    obtain ⟨S_9, eS_9⟩ : ∃ z : MS, z = (ms_set_token S t1) := ⟨_, rfl⟩
    have hw := hw S_9 eS_9
    have hP : va_P D vwCl (wM h cy S_9) H := by rw [eS_9, ← wMp_token]; exact hP
    have hD : va_D A (wM h cy S_9) := by rw [eS_9, ← wMp_token]; exact hD
    refine lv_aload_n hx hb dX12_nextToken_250 rfl (lv_at hl 0 rfl) ?_
    refine lv_dup hx hb dX12_nextToken_251 rfl ?_
    refine va_get (D := D) (ci := 11) (v := .int (ms_at S_9)) (C := RX12) (T := TX12) (N := 31) hx hb hts hin hown hK hP 0 rfl rfl 7 (by decide) w103 (fun _ h9 => h9) rfl dX12_nextToken_252 ?_
    refine lv_iconst (v := 1) hx hb dX12_nextToken_255 (by decide) ?_
    refine lv_iadd hx hb dX12_nextToken_256 ?_
    refine va_put (D := D) (ci := 11) (v := .int ((ms_at S_9) + 1)) (ty := .int) (C := RX12) (T := TX12) (N := 31) hx hb hts hin tyX12 tyX12_ok nmX12 hown hK hP hD hS 0 rfl rfl 7 (by decide) w103 (fun _ h9 => h9) rfl (tyX12_ok 7 (by decide)) rfl rfl (Nat.le_of_ble_eq_true rfl) dX12_nextToken_257 (fun H locs hP hD hS => ?_)
    obtain ⟨S_10, eS_10⟩ : ∃ z : MS, z = (ms_set_at S_9 ((ms_at S_9) + 1)) := ⟨_, rfl⟩
    have hw := hw S_10 eS_10
    have hP : va_P D vwCl (wM h cy S_10) H := by rw [eS_10, ← wMp_at]; exact hP
    have hD : va_D A (wM h cy S_10) := by rw [eS_10, ← wMp_at]; exact hD
    refine lv_iload_n hx hb dX12_nextToken_260 rfl (lv_at hl 1 rfl) ?_
    refine lv_bipush (v := 60) hx hb dX12_nextToken_261 (by decide) ?_
    obtain ⟨hc_11t, hc_11f⟩ := hw
    refine lv_icmp_eq (tgt := 272) hx hb dX12_nextToken_263 (by decide) (fun c_11 => ?_) (fun c_11 => ?_)
    · have hw := hc_11t c_11
      clear hc_11t hc_11f
      exact J_272 x1 S_10 _ _ _ hw hP hD hS (lv_sub hl [0, 1] rfl)
    · have hw := hc_11f c_11
      clear hc_11t hc_11f
      refine lv_iload_n hx hb dX12_nextToken_266 rfl (lv_at hl 1 rfl) ?_
      refine lv_bipush (v := 62) hx hb dX12_nextToken_267 (by decide) ?_
      obtain ⟨hc_12t, hc_12f⟩ := hw
      refine lv_icmp_ne (tgt := 310) hx hb dX12_nextToken_269 (by decide) (fun c_12 => ?_) (fun c_12 => ?_)
      · have hw := hc_12f c_12
        clear hc_12t hc_12f
        exact W.vret hx hb hr (fun t ht hW => ⟨⟨S_10, rfl, hw, by rw [ht]; exact hP, va_K.moved hW.alike hK, hD⟩, hS.F ht⟩) hS.2.2 dX12_nextToken_310
      · have hw := hc_12t c_12
        clear hc_12t hc_12f
        exact J_272 x1 S_10 _ _ _ hw hP hD hS (lv_sub hl [0, 1] rfl)
  have L_168 : ∀ (n168 : Nat) (S : MS) (H : Heap) (locs : List Loc) (ls : Array Slot), wM_nextToken_168 post n168 S → va_P D vwCl (wM h cy S) H → va_D A (wM h cy S) → va_S A s.heap H locs → lv_has ls 2 [(0, .ref (h 31))] → W p l e (headSpec wsX12_nextToken { frames := 1, cells := 0, slots := 0, locals := 21 }).room s m (([.ref (h 31)] : List Value).toArray) below meth c H locs 0 0 (MQ below (va_Qv post (k_Post D (tyM cy) (wM h cy) A) A) (([.ref (h 31)] : List Value).toArray) s 0 0 A) (F0 m 168 ls []) := by
    intro n168
    induction n168 with
    | zero => intro S H locs ls hw; exact False.elim hw
    | succ n168 ih_168 =>
      intro S H locs ls hw hP hD hS hl
      unfold wM_nextToken_168 at hw
      refine lv_aload_n hx hb dX12_nextToken_168 rfl (lv_at hl 0 rfl) ?_
      refine lv_aload_n hx hb dX12_nextToken_169 rfl (lv_at hl 0 rfl) ?_
      refine va_get (D := D) (ci := 11) (v := .int (ms_at S)) (C := RX12) (T := TX12) (N := 31) hx hb hts hin hown hK hP 0 rfl rfl 7 (by decide) w103 (fun _ h9 => h9) rfl dX12_nextToken_170 ?_
      refine k_callVi (As := [.int (ms_at S)]) (rest := []) ⟨hx, hb, hml, hown, hts⟩ (cM_byteAt l D h cy _ _ _ hw) (cwV 1 hts gX12_nextToken_X12_byteAt rfl rfl rfl (by decide +kernel) ⟨Nat.le_of_ble_eq_true rfl, Nat.le_of_ble_eq_true rfl⟩) (va_recv hK hP (ci := 11) (q0 := 0) rfl rfl) hK hP hD hS hA rfl hl.1 rfl (Nat.le_of_ble_eq_true rfl) dX12_nextToken_173 ⟨Nat.zero_le _, Nat.zero_le _⟩ (fun r_13 S_14 H locs hw hP hD hS => ?_)
      refine k_callSi (As := [.int r_13]) (rest := []) ⟨hx, hb, hml, hown, hts⟩ (cM_isLetterByte l D h cy _ _ _ hw) (va_cwS 1 hts gX12_nextToken_X12_isLetterByte rfl rfl rfl (by decide +kernel) ⟨Nat.le_of_ble_eq_true rfl, Nat.le_of_ble_eq_true rfl⟩) hK hP hD hS hA rfl hl.1 rfl (Nat.le_of_ble_eq_true rfl) dX12_nextToken_176 ⟨Nat.zero_le _, Nat.zero_le _⟩ (fun r_15 S_16 H locs hw hP hD hS => ?_)
      obtain ⟨hc_17t, hc_17f⟩ := hw
      refine lv_if_eq (tgt := 310) hx hb dX12_nextToken_179 (by decide) (fun c_17 => ?_) (fun c_17 => ?_)
      · have hw := hc_17t c_17
        clear hc_17t hc_17f
        exact W.vret hx hb hr (fun t ht hW => ⟨⟨S_16, rfl, hw, by rw [ht]; exact hP, va_K.moved hW.alike hK, hD⟩, hS.F ht⟩) hS.2.2 dX12_nextToken_310
      · have hw := hc_17f c_17
        clear hc_17t hc_17f
        refine lv_aload_n hx hb dX12_nextToken_182 rfl (lv_at hl 0 rfl) ?_
        refine lv_aload_n hx hb dX12_nextToken_183 rfl (lv_at hl 0 rfl) ?_
        refine va_get (D := D) (ci := 11) (v := .long (ms_word S_16)) (C := RX12) (T := TX12) (N := 31) hx hb hts hin hown hK hP 0 rfl rfl 11 (by decide) w126 (fun _ h9 => h9) rfl dX12_nextToken_184 ?_
        refine lv_bipush (v := 48) hx hb dX12_nextToken_187 (by decide) ?_
        refine k_lshr hx hb dX12_nextToken_189 ?_
        refine lv_lconst (v := 0) hx hb dX12_nextToken_190 (by decide) ?_
        refine W.lcmp hx hb dX12_nextToken_191 ?_
        obtain ⟨hc_18t, hc_18f⟩ := hw
        refine lv_if_eq (tgt := 201) hx hb dX12_nextToken_192 (by decide) (fun c_18 => ?_) (fun c_18 => ?_)
        · have hw := hc_18t ((k_c0 _ _).mp c_18)
          clear hc_18t hc_18f
          refine lv_aload_n hx hb dX12_nextToken_201 rfl (lv_at hl 0 rfl) ?_
          refine va_get (D := D) (ci := 11) (v := .long (ms_word S_16)) (C := RX12) (T := TX12) (N := 31) hx hb hts hin hown hK hP 0 rfl rfl 11 (by decide) w126 (fun _ h9 => h9) rfl dX12_nextToken_202 ?_
          refine lv_bipush (v := 8) hx hb dX12_nextToken_205 (by decide) ?_
          refine k_lshl hx hb dX12_nextToken_207 ?_
          refine lv_aload_n hx hb dX12_nextToken_208 rfl (lv_at hl 0 rfl) ?_
          refine lv_aload_n hx hb dX12_nextToken_209 rfl (lv_at hl 0 rfl) ?_
          refine va_get (D := D) (ci := 11) (v := .int (ms_at S_16)) (C := RX12) (T := TX12) (N := 31) hx hb hts hin hown hK hP 0 rfl rfl 7 (by decide) w103 (fun _ h9 => h9) rfl dX12_nextToken_210 ?_
          refine k_callVi (As := [.int (ms_at S_16)]) (rest := [.long (k_shlL (ms_word S_16) 8), .ref (h 31)]) ⟨hx, hb, hml, hown, hts⟩ (cM_byteAt l D h cy _ _ _ hw) (cwV 1 hts gX12_nextToken_X12_byteAt rfl rfl rfl (by decide +kernel) ⟨Nat.le_of_ble_eq_true rfl, Nat.le_of_ble_eq_true rfl⟩) (va_recv hK hP (ci := 11) (q0 := 0) rfl rfl) hK hP hD hS hA rfl hl.1 rfl (Nat.le_of_ble_eq_true rfl) dX12_nextToken_213 ⟨Nat.zero_le _, Nat.zero_le _⟩ (fun r_19 S_20 H locs hw hP hD hS => ?_)
          refine lv_i2l (v := Int32.toInt64 r_19) hx hb dX12_nextToken_216 rfl ?_
          refine lv_lor hx hb dX12_nextToken_217 ?_
          refine va_put (D := D) (ci := 11) (v := .long ((k_shlL (ms_word S_16) 8) ||| (Int32.toInt64 r_19))) (ty := .long) (C := RX12) (T := TX12) (N := 31) hx hb hts hin tyX12 tyX12_ok nmX12 hown hK hP hD hS 0 rfl rfl 11 (by decide) w126 (fun _ h9 => h9) rfl (tyX12_ok 11 (by decide)) rfl rfl (Nat.le_of_ble_eq_true rfl) dX12_nextToken_218 (fun H locs hP hD hS => ?_)
          obtain ⟨S_21, eS_21⟩ : ∃ z : MS, z = (ms_set_word S_20 ((k_shlL (ms_word S_16) 8) ||| (Int32.toInt64 r_19))) := ⟨_, rfl⟩
          have hw := hw S_21 eS_21
          have hP : va_P D vwCl (wM h cy S_21) H := by rw [eS_21, ← wMp_word]; exact hP
          have hD : va_D A (wM h cy S_21) := by rw [eS_21, ← wMp_word]; exact hD
          refine lv_aload_n hx hb dX12_nextToken_221 rfl (lv_at hl 0 rfl) ?_
          refine lv_dup hx hb dX12_nextToken_222 rfl ?_
          refine va_get (D := D) (ci := 11) (v := .int (ms_at S_21)) (C := RX12) (T := TX12) (N := 31) hx hb hts hin hown hK hP 0 rfl rfl 7 (by decide) w103 (fun _ h9 => h9) rfl dX12_nextToken_223 ?_
          refine lv_iconst (v := 1) hx hb dX12_nextToken_226 (by decide) ?_
          refine lv_iadd hx hb dX12_nextToken_227 ?_
          refine va_put (D := D) (ci := 11) (v := .int ((ms_at S_21) + 1)) (ty := .int) (C := RX12) (T := TX12) (N := 31) hx hb hts hin tyX12 tyX12_ok nmX12 hown hK hP hD hS 0 rfl rfl 7 (by decide) w103 (fun _ h9 => h9) rfl (tyX12_ok 7 (by decide)) rfl rfl (Nat.le_of_ble_eq_true rfl) dX12_nextToken_228 (fun H locs hP hD hS => ?_)
          obtain ⟨S_22, eS_22⟩ : ∃ z : MS, z = (ms_set_at S_21 ((ms_at S_21) + 1)) := ⟨_, rfl⟩
          have hw := hw S_22 eS_22
          have hP : va_P D vwCl (wM h cy S_22) H := by rw [eS_22, ← wMp_at]; exact hP
          have hD : va_D A (wM h cy S_22) := by rw [eS_22, ← wMp_at]; exact hD
          refine lv_goto (tgt := 168) hx hb dX12_nextToken_231 (by decide) ?_
          exact ih_168 S_22 _ _ _ hw hP hD hS (lv_sub hl [0] rfl)
        · have hw := hc_18f (fun q => c_18 ((k_c0 _ _).mpr q))
          clear hc_18t hc_18f
          refine lv_ldc2 (v := 1152921504606846976) hx hb hown wc130 dX12_nextToken_195 ?_
          refine lv_goto (tgt := 218) hx hb dX12_nextToken_198 (by decide) ?_
          refine va_put (D := D) (ci := 11) (v := .long 1152921504606846976) (ty := .long) (C := RX12) (T := TX12) (N := 31) hx hb hts hin tyX12 tyX12_ok nmX12 hown hK hP hD hS 0 rfl rfl 11 (by decide) w126 (fun _ h9 => h9) rfl (tyX12_ok 11 (by decide)) rfl rfl (Nat.le_of_ble_eq_true rfl) dX12_nextToken_218 (fun H locs hP hD hS => ?_)
          obtain ⟨S_23, eS_23⟩ : ∃ z : MS, z = (ms_set_word S_16 1152921504606846976) := ⟨_, rfl⟩
          have hw := hw S_23 eS_23
          have hP : va_P D vwCl (wM h cy S_23) H := by rw [eS_23, ← wMp_word]; exact hP
          have hD : va_D A (wM h cy S_23) := by rw [eS_23, ← wMp_word]; exact hD
          refine lv_aload_n hx hb dX12_nextToken_221 rfl (lv_at hl 0 rfl) ?_
          refine lv_dup hx hb dX12_nextToken_222 rfl ?_
          refine va_get (D := D) (ci := 11) (v := .int (ms_at S_23)) (C := RX12) (T := TX12) (N := 31) hx hb hts hin hown hK hP 0 rfl rfl 7 (by decide) w103 (fun _ h9 => h9) rfl dX12_nextToken_223 ?_
          refine lv_iconst (v := 1) hx hb dX12_nextToken_226 (by decide) ?_
          refine lv_iadd hx hb dX12_nextToken_227 ?_
          refine va_put (D := D) (ci := 11) (v := .int ((ms_at S_23) + 1)) (ty := .int) (C := RX12) (T := TX12) (N := 31) hx hb hts hin tyX12 tyX12_ok nmX12 hown hK hP hD hS 0 rfl rfl 7 (by decide) w103 (fun _ h9 => h9) rfl (tyX12_ok 7 (by decide)) rfl rfl (Nat.le_of_ble_eq_true rfl) dX12_nextToken_228 (fun H locs hP hD hS => ?_)
          obtain ⟨S_24, eS_24⟩ : ∃ z : MS, z = (ms_set_at S_23 ((ms_at S_23) + 1)) := ⟨_, rfl⟩
          have hw := hw S_24 eS_24
          have hP : va_P D vwCl (wM h cy S_24) H := by rw [eS_24, ← wMp_at]; exact hP
          have hD : va_D A (wM h cy S_24) := by rw [eS_24, ← wMp_at]; exact hD
          refine lv_goto (tgt := 168) hx hb dX12_nextToken_231 (by decide) ?_
          exact ih_168 S_24 _ _ _ hw hP hD hS (lv_sub hl [0] rfl)
  have L_85 : ∀ (n85 : Nat) (S : MS) (H : Heap) (locs : List Loc) (ls : Array Slot), wM_nextToken_85 post n85 S → va_P D vwCl (wM h cy S) H → va_D A (wM h cy S) → va_S A s.heap H locs → lv_has ls 2 [(0, .ref (h 31))] → W p l e (headSpec wsX12_nextToken { frames := 1, cells := 0, slots := 0, locals := 21 }).room s m (([.ref (h 31)] : List Value).toArray) below meth c H locs 0 0 (MQ below (va_Qv post (k_Post D (tyM cy) (wM h cy) A) A) (([.ref (h 31)] : List Value).toArray) s 0 0 A) (F0 m 85 ls []) := by
    intro n85
    induction n85 with
    | zero => intro S H locs ls hw; exact False.elim hw
    | succ n85 ih_85 =>
      intro S H locs ls hw hP hD hS hl
      unfold wM_nextToken_85 at hw
      refine lv_aload_n hx hb dX12_nextToken_85 rfl (lv_at hl 0 rfl) ?_
      refine lv_aload_n hx hb dX12_nextToken_86 rfl (lv_at hl 0 rfl) ?_
      refine va_get (D := D) (ci := 11) (v := .int (ms_at S)) (C := RX12) (T := TX12) (N := 31) hx hb hts hin hown hK hP 0 rfl rfl 7 (by decide) w103 (fun _ h9 => h9) rfl dX12_nextToken_87 ?_
      refine k_callVi (As := [.int (ms_at S)]) (rest := []) ⟨hx, hb, hml, hown, hts⟩ (cM_byteAt l D h cy _ _ _ hw) (cwV 1 hts gX12_nextToken_X12_byteAt rfl rfl rfl (by decide +kernel) ⟨Nat.le_of_ble_eq_true rfl, Nat.le_of_ble_eq_true rfl⟩) (va_recv hK hP (ci := 11) (q0 := 0) rfl rfl) hK hP hD hS hA rfl hl.1 rfl (Nat.le_of_ble_eq_true rfl) dX12_nextToken_90 ⟨Nat.zero_le _, Nat.zero_le _⟩ (fun r_25 S_26 H locs hw hP hD hS => ?_)
      refine k_callSi (As := [.int r_25]) (rest := []) ⟨hx, hb, hml, hown, hts⟩ (cM_isFigure l D h cy _ _ _ hw) (va_cwS 1 hts gX12_nextToken_X12_isFigure rfl rfl rfl (by decide +kernel) ⟨Nat.le_of_ble_eq_true rfl, Nat.le_of_ble_eq_true rfl⟩) hK hP hD hS hA rfl hl.1 rfl (Nat.le_of_ble_eq_true rfl) dX12_nextToken_93 ⟨Nat.zero_le _, Nat.zero_le _⟩ (fun r_27 S_28 H locs hw hP hD hS => ?_)
      obtain ⟨hc_29t, hc_29f⟩ := hw
      refine lv_if_eq (tgt := 310) hx hb dX12_nextToken_96 (by decide) (fun c_29 => ?_) (fun c_29 => ?_)
      · have hw := hc_29t c_29
        clear hc_29t hc_29f
        exact W.vret hx hb hr (fun t ht hW => ⟨⟨S_28, rfl, hw, by rw [ht]; exact hP, va_K.moved hW.alike hK, hD⟩, hS.F ht⟩) hS.2.2 dX12_nextToken_310
      · have hw := hc_29f c_29
        clear hc_29t hc_29f
        refine lv_aload_n hx hb dX12_nextToken_99 rfl (lv_at hl 0 rfl) ?_
        refine lv_aload_n hx hb dX12_nextToken_100 rfl (lv_at hl 0 rfl) ?_
        refine va_get (D := D) (ci := 11) (v := .int (ms_number S_28)) (C := RX12) (T := TX12) (N := 31) hx hb hts hin hown hK hP 0 rfl rfl 10 (by decide) w119 (fun _ h9 => h9) rfl dX12_nextToken_101 ?_
        refine lv_ldc (v := 99999) hx hb hown wc122 dX12_nextToken_104 ?_
        obtain ⟨hc_30t, hc_30f⟩ := hw
        refine lv_icmp_le (tgt := 116) hx hb dX12_nextToken_106 (by decide) (fun c_30 => ?_) (fun c_30 => ?_)
        · have hw := hc_30t c_30
          clear hc_30t hc_30f
          refine lv_bipush (v := 10) hx hb dX12_nextToken_116 (by decide) ?_
          refine lv_aload_n hx hb dX12_nextToken_118 rfl (lv_at hl 0 rfl) ?_
          refine va_get (D := D) (ci := 11) (v := .int (ms_number S_28)) (C := RX12) (T := TX12) (N := 31) hx hb hts hin hown hK hP 0 rfl rfl 10 (by decide) w119 (fun _ h9 => h9) rfl dX12_nextToken_119 ?_
          refine lv_imul hx hb dX12_nextToken_122 ?_
          refine lv_aload_n hx hb dX12_nextToken_123 rfl (lv_at hl 0 rfl) ?_
          refine lv_aload_n hx hb dX12_nextToken_124 rfl (lv_at hl 0 rfl) ?_
          refine va_get (D := D) (ci := 11) (v := .int (ms_at S_28)) (C := RX12) (T := TX12) (N := 31) hx hb hts hin hown hK hP 0 rfl rfl 7 (by decide) w103 (fun _ h9 => h9) rfl dX12_nextToken_125 ?_
          refine k_callVi (As := [.int (ms_at S_28)]) (rest := [.int (10 * (ms_number S_28)), .ref (h 31)]) ⟨hx, hb, hml, hown, hts⟩ (cM_byteAt l D h cy _ _ _ hw) (cwV 1 hts gX12_nextToken_X12_byteAt rfl rfl rfl (by decide +kernel) ⟨Nat.le_of_ble_eq_true rfl, Nat.le_of_ble_eq_true rfl⟩) (va_recv hK hP (ci := 11) (q0 := 0) rfl rfl) hK hP hD hS hA rfl hl.1 rfl (Nat.le_of_ble_eq_true rfl) dX12_nextToken_128 ⟨Nat.zero_le _, Nat.zero_le _⟩ (fun r_31 S_32 H locs hw hP hD hS => ?_)
          refine lv_iadd hx hb dX12_nextToken_131 ?_
          refine lv_bipush (v := 48) hx hb dX12_nextToken_132 (by decide) ?_
          refine lv_isub hx hb dX12_nextToken_134 ?_
          refine va_put (D := D) (ci := 11) (v := .int (((10 * (ms_number S_28)) + r_31) - 48)) (ty := .int) (C := RX12) (T := TX12) (N := 31) hx hb hts hin tyX12 tyX12_ok nmX12 hown hK hP hD hS 0 rfl rfl 10 (by decide) w119 (fun _ h9 => h9) rfl (tyX12_ok 10 (by decide)) rfl rfl (Nat.le_of_ble_eq_true rfl) dX12_nextToken_135 (fun H locs hP hD hS => ?_)
          obtain ⟨S_33, eS_33⟩ : ∃ z : MS, z = (ms_set_number S_32 (((10 * (ms_number S_28)) + r_31) - 48)) := ⟨_, rfl⟩
          have hw := hw S_33 eS_33
          have hP : va_P D vwCl (wM h cy S_33) H := by rw [eS_33, ← wMp_number]; exact hP
          have hD : va_D A (wM h cy S_33) := by rw [eS_33, ← wMp_number]; exact hD
          refine lv_aload_n hx hb dX12_nextToken_138 rfl (lv_at hl 0 rfl) ?_
          refine lv_dup hx hb dX12_nextToken_139 rfl ?_
          refine va_get (D := D) (ci := 11) (v := .int (ms_at S_33)) (C := RX12) (T := TX12) (N := 31) hx hb hts hin hown hK hP 0 rfl rfl 7 (by decide) w103 (fun _ h9 => h9) rfl dX12_nextToken_140 ?_
          refine lv_iconst (v := 1) hx hb dX12_nextToken_143 (by decide) ?_
          refine lv_iadd hx hb dX12_nextToken_144 ?_
          refine va_put (D := D) (ci := 11) (v := .int ((ms_at S_33) + 1)) (ty := .int) (C := RX12) (T := TX12) (N := 31) hx hb hts hin tyX12 tyX12_ok nmX12 hown hK hP hD hS 0 rfl rfl 7 (by decide) w103 (fun _ h9 => h9) rfl (tyX12_ok 7 (by decide)) rfl rfl (Nat.le_of_ble_eq_true rfl) dX12_nextToken_145 (fun H locs hP hD hS => ?_)
          obtain ⟨S_34, eS_34⟩ : ∃ z : MS, z = (ms_set_at S_33 ((ms_at S_33) + 1)) := ⟨_, rfl⟩
          have hw := hw S_34 eS_34
          have hP : va_P D vwCl (wM h cy S_34) H := by rw [eS_34, ← wMp_at]; exact hP
          have hD : va_D A (wM h cy S_34) := by rw [eS_34, ← wMp_at]; exact hD
          refine lv_goto (tgt := 85) hx hb dX12_nextToken_148 (by decide) ?_
          exact ih_85 S_34 _ _ _ hw hP hD hS (lv_sub hl [0] rfl)
        · have hw := hc_30f c_30
          clear hc_30t hc_30f
          refine lv_aload_n hx hb dX12_nextToken_109 rfl (lv_at hl 0 rfl) ?_
          refine va_get (D := D) (ci := 11) (v := .int (ms_number S_28)) (C := RX12) (T := TX12) (N := 31) hx hb hts hin hown hK hP 0 rfl rfl 10 (by decide) w119 (fun _ h9 => h9) rfl dX12_nextToken_110 ?_
          refine lv_goto (tgt := 135) hx hb dX12_nextToken_113 (by decide) ?_
          refine va_put (D := D) (ci := 11) (v := .int (ms_number S_28)) (ty := .int) (C := RX12) (T := TX12) (N := 31) hx hb hts hin tyX12 tyX12_ok nmX12 hown hK hP hD hS 0 rfl rfl 10 (by decide) w119 (fun _ h9 => h9) rfl (tyX12_ok 10 (by decide)) rfl rfl (Nat.le_of_ble_eq_true rfl) dX12_nextToken_135 (fun H locs hP hD hS => ?_)
          obtain ⟨S_35, eS_35⟩ : ∃ z : MS, z = (ms_set_number S_28 (ms_number S_28)) := ⟨_, rfl⟩
          have hw := hw S_35 eS_35
          have hP : va_P D vwCl (wM h cy S_35) H := by rw [eS_35, ← wMp_number]; exact hP
          have hD : va_D A (wM h cy S_35) := by rw [eS_35, ← wMp_number]; exact hD
          refine lv_aload_n hx hb dX12_nextToken_138 rfl (lv_at hl 0 rfl) ?_
          refine lv_dup hx hb dX12_nextToken_139 rfl ?_
          refine va_get (D := D) (ci := 11) (v := .int (ms_at S_35)) (C := RX12) (T := TX12) (N := 31) hx hb hts hin hown hK hP 0 rfl rfl 7 (by decide) w103 (fun _ h9 => h9) rfl dX12_nextToken_140 ?_
          refine lv_iconst (v := 1) hx hb dX12_nextToken_143 (by decide) ?_
          refine lv_iadd hx hb dX12_nextToken_144 ?_
          refine va_put (D := D) (ci := 11) (v := .int ((ms_at S_35) + 1)) (ty := .int) (C := RX12) (T := TX12) (N := 31) hx hb hts hin tyX12 tyX12_ok nmX12 hown hK hP hD hS 0 rfl rfl 7 (by decide) w103 (fun _ h9 => h9) rfl (tyX12_ok 7 (by decide)) rfl rfl (Nat.le_of_ble_eq_true rfl) dX12_nextToken_145 (fun H locs hP hD hS => ?_)
          obtain ⟨S_36, eS_36⟩ : ∃ z : MS, z = (ms_set_at S_35 ((ms_at S_35) + 1)) := ⟨_, rfl⟩
          have hw := hw S_36 eS_36
          have hP : va_P D vwCl (wM h cy S_36) H := by rw [eS_36, ← wMp_at]; exact hP
          have hD : va_D A (wM h cy S_36) := by rw [eS_36, ← wMp_at]; exact hD
          refine lv_goto (tgt := 85) hx hb dX12_nextToken_148 (by decide) ?_
          exact ih_85 S_36 _ _ _ hw hP hD hS (lv_sub hl [0] rfl)
  have L_0 : ∀ (n0 : Nat) (S : MS) (H : Heap) (locs : List Loc) (ls : Array Slot), wM_nextToken_0 post n0 S → va_P D vwCl (wM h cy S) H → va_D A (wM h cy S) → va_S A s.heap H locs → lv_has ls 2 [(0, .ref (h 31))] → W p l e (headSpec wsX12_nextToken { frames := 1, cells := 0, slots := 0, locals := 21 }).room s m (([.ref (h 31)] : List Value).toArray) below meth c H locs 0 0 (MQ below (va_Qv post (k_Post D (tyM cy) (wM h cy) A) A) (([.ref (h 31)] : List Value).toArray) s 0 0 A) (F0 m 0 ls []) := by
    intro n0
    induction n0 with
    | zero => intro S H locs ls hw; exact False.elim hw
    | succ n0 ih_0 =>
      intro S H locs ls hw hP hD hS hl
      unfold wM_nextToken_0 at hw
      refine lv_aload_n hx hb dX12_nextToken_0 rfl (lv_at hl 0 rfl) ?_
      refine lv_aload_n hx hb dX12_nextToken_1 rfl (lv_at hl 0 rfl) ?_
      refine va_get (D := D) (ci := 11) (v := .int (ms_at S)) (C := RX12) (T := TX12) (N := 31) hx hb hts hin hown hK hP 0 rfl rfl 7 (by decide) w103 (fun _ h9 => h9) rfl dX12_nextToken_2 ?_
      refine k_callVi (As := [.int (ms_at S)]) (rest := []) ⟨hx, hb, hml, hown, hts⟩ (cM_byteAt l D h cy _ _ _ hw) (cwV 1 hts gX12_nextToken_X12_byteAt rfl rfl rfl (by decide +kernel) ⟨Nat.le_of_ble_eq_true rfl, Nat.le_of_ble_eq_true rfl⟩) (va_recv hK hP (ci := 11) (q0 := 0) rfl rfl) hK hP hD hS hA rfl hl.1 rfl (Nat.le_of_ble_eq_true rfl) dX12_nextToken_5 ⟨Nat.zero_le _, Nat.zero_le _⟩ (fun r_37 S_38 H locs hw hP hD hS => ?_)
      refine lv_bipush (v := 32) hx hb dX12_nextToken_8 (by decide) ?_
      obtain ⟨hc_39t, hc_39f⟩ := hw
      refine lv_icmp_eq (tgt := 26) hx hb dX12_nextToken_10 (by decide) (fun c_39 => ?_) (fun c_39 => ?_)
      · have hw := hc_39t c_39
        clear hc_39t hc_39f
        refine lv_aload_n hx hb dX12_nextToken_26 rfl (lv_at hl 0 rfl) ?_
        refine lv_dup hx hb dX12_nextToken_27 rfl ?_
        refine va_get (D := D) (ci := 11) (v := .int (ms_at S_38)) (C := RX12) (T := TX12) (N := 31) hx hb hts hin hown hK hP 0 rfl rfl 7 (by decide) w103 (fun _ h9 => h9) rfl dX12_nextToken_28 ?_
        refine lv_iconst (v := 1) hx hb dX12_nextToken_31 (by decide) ?_
        refine lv_iadd hx hb dX12_nextToken_32 ?_
        refine va_put (D := D) (ci := 11) (v := .int ((ms_at S_38) + 1)) (ty := .int) (C := RX12) (T := TX12) (N := 31) hx hb hts hin tyX12 tyX12_ok nmX12 hown hK hP hD hS 0 rfl rfl 7 (by decide) w103 (fun _ h9 => h9) rfl (tyX12_ok 7 (by decide)) rfl rfl (Nat.le_of_ble_eq_true rfl) dX12_nextToken_33 (fun H locs hP hD hS => ?_)
        obtain ⟨S_40, eS_40⟩ : ∃ z : MS, z = (ms_set_at S_38 ((ms_at S_38) + 1)) := ⟨_, rfl⟩
        have hw := hw S_40 eS_40
        have hP : va_P D vwCl (wM h cy S_40) H := by rw [eS_40, ← wMp_at]; exact hP
        have hD : va_D A (wM h cy S_40) := by rw [eS_40, ← wMp_at]; exact hD
        refine lv_goto (tgt := 0) hx hb dX12_nextToken_36 (by decide) ?_
        exact ih_0 S_40 _ _ _ hw hP hD hS (lv_sub hl [0] rfl)
      · have hw := hc_39f c_39
        clear hc_39t hc_39f
        refine lv_aload_n hx hb dX12_nextToken_13 rfl (lv_at hl 0 rfl) ?_
        refine lv_aload_n hx hb dX12_nextToken_14 rfl (lv_at hl 0 rfl) ?_
        refine va_get (D := D) (ci := 11) (v := .int (ms_at S_38)) (C := RX12) (T := TX12) (N := 31) hx hb hts hin hown hK hP 0 rfl rfl 7 (by decide) w103 (fun _ h9 => h9) rfl dX12_nextToken_15 ?_
        refine k_callVi (As := [.int (ms_at S_38)]) (rest := []) ⟨hx, hb, hml, hown, hts⟩ (cM_byteAt l D h cy _ _ _ hw) (cwV 1 hts gX12_nextToken_X12_byteAt rfl rfl rfl (by decide +kernel) ⟨Nat.le_of_ble_eq_true rfl, Nat.le_of_ble_eq_true rfl⟩) (va_recv hK hP (ci := 11) (q0 := 0) rfl rfl) hK hP hD hS hA rfl hl.1 rfl (Nat.le_of_ble_eq_true rfl) dX12_nextToken_18 ⟨Nat.zero_le _, Nat.zero_le _⟩ (fun r_41 S_42 H locs hw hP hD hS => ?_)
        refine lv_bipush (v := 10) hx hb dX12_nextToken_21 (by decide) ?_
        obtain ⟨hc_43t, hc_43f⟩ := hw
        refine lv_icmp_ne (tgt := 39) hx hb dX12_nextToken_23 (by decide) (fun c_43 => ?_) (fun c_43 => ?_)
        · have hw := hc_43f c_43
          clear hc_43t hc_43f
          refine lv_aload_n hx hb dX12_nextToken_39 rfl (lv_at hl 0 rfl) ?_
          refine lv_aload_n hx hb dX12_nextToken_40 rfl (lv_at hl 0 rfl) ?_
          refine va_get (D := D) (ci := 11) (v := .int (ms_at S_42)) (C := RX12) (T := TX12) (N := 31) hx hb hts hin hown hK hP 0 rfl rfl 7 (by decide) w103 (fun _ h9 => h9) rfl dX12_nextToken_41 ?_
          refine va_put (D := D) (ci := 11) (v := .int (ms_at S_42)) (ty := .int) (C := RX12) (T := TX12) (N := 31) hx hb hts hin tyX12 tyX12_ok nmX12 hown hK hP hD hS 0 rfl rfl 8 (by decide) w110 (fun _ h9 => h9) rfl (tyX12_ok 8 (by decide)) rfl rfl (Nat.le_of_ble_eq_true rfl) dX12_nextToken_44 (fun H locs hP hD hS => ?_)
          obtain ⟨S_44, eS_44⟩ : ∃ z : MS, z = (ms_set_place S_42 (ms_at S_42)) := ⟨_, rfl⟩
          have hw := hw S_44 eS_44
          have hP : va_P D vwCl (wM h cy S_44) H := by rw [eS_44, ← wMp_place]; exact hP
          have hD : va_D A (wM h cy S_44) := by rw [eS_44, ← wMp_place]; exact hD
          refine lv_aload_n hx hb dX12_nextToken_47 rfl (lv_at hl 0 rfl) ?_
          refine lv_aload_n hx hb dX12_nextToken_48 rfl (lv_at hl 0 rfl) ?_
          refine va_get (D := D) (ci := 11) (v := .int (ms_at S_44)) (C := RX12) (T := TX12) (N := 31) hx hb hts hin hown hK hP 0 rfl rfl 7 (by decide) w103 (fun _ h9 => h9) rfl dX12_nextToken_49 ?_
          refine k_callVi (As := [.int (ms_at S_44)]) (rest := []) ⟨hx, hb, hml, hown, hts⟩ (cM_byteAt l D h cy _ _ _ hw) (cwV 1 hts gX12_nextToken_X12_byteAt rfl rfl rfl (by decide +kernel) ⟨Nat.le_of_ble_eq_true rfl, Nat.le_of_ble_eq_true rfl⟩) (va_recv hK hP (ci := 11) (q0 := 0) rfl rfl) hK hP hD hS hA rfl hl.1 rfl (Nat.le_of_ble_eq_true rfl) dX12_nextToken_52 ⟨Nat.zero_le _, Nat.zero_le _⟩ (fun r_45 S_46 H locs hw hP hD hS => ?_)
          refine lv_istore_n (lv' := [(1, .int r_45), (0, .ref (h 31))]) hx hb dX12_nextToken_55 rfl hl (by decide) rfl (fun ls hl => ?_)
          refine lv_iload_n hx hb dX12_nextToken_56 rfl (lv_at hl 0 rfl) ?_
          obtain ⟨hc_47t, hc_47f⟩ := hw
          refine lv_if_ge (tgt := 68) hx hb dX12_nextToken_57 (by decide) (fun c_47 => ?_) (fun c_47 => ?_)
          · have hw := hc_47t c_47
            clear hc_47t hc_47f
            refine lv_iload_n hx hb dX12_nextToken_68 rfl (lv_at hl 0 rfl) ?_
            refine k_callSi (As := [.int r_45]) (rest := []) ⟨hx, hb, hml, hown, hts⟩ (cM_isFigure l D h cy _ _ _ hw) (va_cwS 1 hts gX12_nextToken_X12_isFigure rfl rfl rfl (by decide +kernel) ⟨Nat.le_of_ble_eq_true rfl, Nat.le_of_ble_eq_true rfl⟩) hK hP hD hS hA rfl hl.1 rfl (Nat.le_of_ble_eq_true rfl) dX12_nextToken_69 ⟨Nat.zero_le _, Nat.zero_le _⟩ (fun r_48 S_49 H locs hw hP hD hS => ?_)
            obtain ⟨hc_50t, hc_50f⟩ := hw
            refine lv_if_eq (tgt := 151) hx hb dX12_nextToken_72 (by decide) (fun c_50 => ?_) (fun c_50 => ?_)
            · have hw := hc_50t c_50
              clear hc_50t hc_50f
              refine lv_iload_n hx hb dX12_nextToken_151 rfl (lv_at hl 0 rfl) ?_
              refine k_callSi (As := [.int r_45]) (rest := []) ⟨hx, hb, hml, hown, hts⟩ (cM_isLetterByte l D h cy _ _ _ hw) (va_cwS 1 hts gX12_nextToken_X12_isLetterByte rfl rfl rfl (by decide +kernel) ⟨Nat.le_of_ble_eq_true rfl, Nat.le_of_ble_eq_true rfl⟩) hK hP hD hS hA rfl hl.1 rfl (Nat.le_of_ble_eq_true rfl) dX12_nextToken_152 ⟨Nat.zero_le _, Nat.zero_le _⟩ (fun r_51 S_52 H locs hw hP hD hS => ?_)
              obtain ⟨hc_53t, hc_53f⟩ := hw
              refine lv_if_eq (tgt := 234) hx hb dX12_nextToken_155 (by decide) (fun c_53 => ?_) (fun c_53 => ?_)
              · have hw := hc_53t c_53
                clear hc_53t hc_53f
                refine lv_aload_n hx hb dX12_nextToken_234 rfl (lv_at hl 1 rfl) ?_
                refine lv_iload_n hx hb dX12_nextToken_235 rfl (lv_at hl 0 rfl) ?_
                refine k_callSi (As := [.int r_45]) (rest := [.ref (h 31)]) ⟨hx, hb, hml, hown, hts⟩ (cM_isSign l D h cy _ _ _ hw) (va_cwS 1 hts gX12_nextToken_X12_isSign rfl rfl rfl (by decide +kernel) ⟨Nat.le_of_ble_eq_true rfl, Nat.le_of_ble_eq_true rfl⟩) hK hP hD hS hA rfl hl.1 rfl (Nat.le_of_ble_eq_true rfl) dX12_nextToken_236 ⟨Nat.zero_le _, Nat.zero_le _⟩ (fun r_54 S_55 H locs hw hP hD hS => ?_)
                obtain ⟨hc_56t, hc_56f⟩ := hw
                refine lv_if_eq (tgt := 246) hx hb dX12_nextToken_239 (by decide) (fun c_56 => ?_) (fun c_56 => ?_)
                · have hw := hc_56t c_56
                  clear hc_56t hc_56f
                  refine lv_iconst (v := 3) hx hb dX12_nextToken_246 (by decide) ?_
                  exact J_247 r_45 3 S_55 _ _ _ hw hP hD hS (lv_sub hl [1, 0] rfl)
                · have hw := hc_56f c_56
                  clear hc_56t hc_56f
                  refine lv_iload_n hx hb dX12_nextToken_242 rfl (lv_at hl 0 rfl) ?_
                  refine lv_goto (tgt := 247) hx hb dX12_nextToken_243 (by decide) ?_
                  exact J_247 r_45 r_45 S_55 _ _ _ hw hP hD hS (lv_sub hl [1, 0] rfl)
              · have hw := hc_53f c_53
                clear hc_53t hc_53f
                refine lv_aload_n hx hb dX12_nextToken_158 rfl (lv_at hl 1 rfl) ?_
                refine lv_iconst (v := 2) hx hb dX12_nextToken_159 (by decide) ?_
                refine va_put (D := D) (ci := 11) (v := .int 2) (ty := .int) (C := RX12) (T := TX12) (N := 31) hx hb hts hin tyX12 tyX12_ok nmX12 hown hK hP hD hS 0 rfl rfl 9 (by decide) w113 (fun _ h9 => h9) rfl (tyX12_ok 9 (by decide)) rfl rfl (Nat.le_of_ble_eq_true rfl) dX12_nextToken_160 (fun H locs hP hD hS => ?_)
                obtain ⟨S_57, eS_57⟩ : ∃ z : MS, z = (ms_set_token S_52 2) := ⟨_, rfl⟩
                have hw := hw S_57 eS_57
                have hP : va_P D vwCl (wM h cy S_57) H := by rw [eS_57, ← wMp_token]; exact hP
                have hD : va_D A (wM h cy S_57) := by rw [eS_57, ← wMp_token]; exact hD
                refine lv_aload_n hx hb dX12_nextToken_163 rfl (lv_at hl 1 rfl) ?_
                refine lv_lconst (v := 0) hx hb dX12_nextToken_164 (by decide) ?_
                refine va_put (D := D) (ci := 11) (v := .long 0) (ty := .long) (C := RX12) (T := TX12) (N := 31) hx hb hts hin tyX12 tyX12_ok nmX12 hown hK hP hD hS 0 rfl rfl 11 (by decide) w126 (fun _ h9 => h9) rfl (tyX12_ok 11 (by decide)) rfl rfl (Nat.le_of_ble_eq_true rfl) dX12_nextToken_165 (fun H locs hP hD hS => ?_)
                obtain ⟨S_58, eS_58⟩ : ∃ z : MS, z = (ms_set_word S_57 0) := ⟨_, rfl⟩
                have hw := hw S_58 eS_58
                have hP : va_P D vwCl (wM h cy S_58) H := by rw [eS_58, ← wMp_word]; exact hP
                have hD : va_D A (wM h cy S_58) := by rw [eS_58, ← wMp_word]; exact hD
                obtain ⟨n_168, hw⟩ := hw
                exact L_168 n_168 S_58 _ _ _ hw hP hD hS (lv_sub hl [1] rfl)
            · have hw := hc_50f c_50
              clear hc_50t hc_50f
              refine lv_aload_n hx hb dX12_nextToken_75 rfl (lv_at hl 1 rfl) ?_
              refine lv_iconst (v := 1) hx hb dX12_nextToken_76 (by decide) ?_
              refine va_put (D := D) (ci := 11) (v := .int 1) (ty := .int) (C := RX12) (T := TX12) (N := 31) hx hb hts hin tyX12 tyX12_ok nmX12 hown hK hP hD hS 0 rfl rfl 9 (by decide) w113 (fun _ h9 => h9) rfl (tyX12_ok 9 (by decide)) rfl rfl (Nat.le_of_ble_eq_true rfl) dX12_nextToken_77 (fun H locs hP hD hS => ?_)
              obtain ⟨S_59, eS_59⟩ : ∃ z : MS, z = (ms_set_token S_49 1) := ⟨_, rfl⟩
              have hw := hw S_59 eS_59
              have hP : va_P D vwCl (wM h cy S_59) H := by rw [eS_59, ← wMp_token]; exact hP
              have hD : va_D A (wM h cy S_59) := by rw [eS_59, ← wMp_token]; exact hD
              refine lv_aload_n hx hb dX12_nextToken_80 rfl (lv_at hl 1 rfl) ?_
              refine lv_iconst (v := 0) hx hb dX12_nextToken_81 (by decide) ?_
              refine va_put (D := D) (ci := 11) (v := .int 0) (ty := .int) (C := RX12) (T := TX12) (N := 31) hx hb hts hin tyX12 tyX12_ok nmX12 hown hK hP hD hS 0 rfl rfl 10 (by decide) w119 (fun _ h9 => h9) rfl (tyX12_ok 10 (by decide)) rfl rfl (Nat.le_of_ble_eq_true rfl) dX12_nextToken_82 (fun H locs hP hD hS => ?_)
              obtain ⟨S_60, eS_60⟩ : ∃ z : MS, z = (ms_set_number S_59 0) := ⟨_, rfl⟩
              have hw := hw S_60 eS_60
              have hP : va_P D vwCl (wM h cy S_60) H := by rw [eS_60, ← wMp_number]; exact hP
              have hD : va_D A (wM h cy S_60) := by rw [eS_60, ← wMp_number]; exact hD
              obtain ⟨n_85, hw⟩ := hw
              exact L_85 n_85 S_60 _ _ _ hw hP hD hS (lv_sub hl [1] rfl)
          · have hw := hc_47f c_47
            clear hc_47t hc_47f
            refine lv_aload_n hx hb dX12_nextToken_60 rfl (lv_at hl 1 rfl) ?_
            refine lv_iconst (v := 0) hx hb dX12_nextToken_61 (by decide) ?_
            refine va_put (D := D) (ci := 11) (v := .int 0) (ty := .int) (C := RX12) (T := TX12) (N := 31) hx hb hts hin tyX12 tyX12_ok nmX12 hown hK hP hD hS 0 rfl rfl 9 (by decide) w113 (fun _ h9 => h9) rfl (tyX12_ok 9 (by decide)) rfl rfl (Nat.le_of_ble_eq_true rfl) dX12_nextToken_62 (fun H locs hP hD hS => ?_)
            obtain ⟨S_61, eS_61⟩ : ∃ z : MS, z = (ms_set_token S_46 0) := ⟨_, rfl⟩
            have hw := hw S_61 eS_61
            have hP : va_P D vwCl (wM h cy S_61) H := by rw [eS_61, ← wMp_token]; exact hP
            have hD : va_D A (wM h cy S_61) := by rw [eS_61, ← wMp_token]; exact hD
            refine lv_goto (tgt := 310) hx hb dX12_nextToken_65 (by decide) ?_
            exact W.vret hx hb hr (fun t ht hW => ⟨⟨S_61, rfl, hw, by rw [ht]; exact hP, va_K.moved hW.alike hK, hD⟩, hS.F ht⟩) hS.2.2 dX12_nextToken_310
        · have hw := hc_43t c_43
          clear hc_43t hc_43f
          refine lv_aload_n hx hb dX12_nextToken_26 rfl (lv_at hl 0 rfl) ?_
          refine lv_dup hx hb dX12_nextToken_27 rfl ?_
          refine va_get (D := D) (ci := 11) (v := .int (ms_at S_42)) (C := RX12) (T := TX12) (N := 31) hx hb hts hin hown hK hP 0 rfl rfl 7 (by decide) w103 (fun _ h9 => h9) rfl dX12_nextToken_28 ?_
          refine lv_iconst (v := 1) hx hb dX12_nextToken_31 (by decide) ?_
          refine lv_iadd hx hb dX12_nextToken_32 ?_
          refine va_put (D := D) (ci := 11) (v := .int ((ms_at S_42) + 1)) (ty := .int) (C := RX12) (T := TX12) (N := 31) hx hb hts hin tyX12 tyX12_ok nmX12 hown hK hP hD hS 0 rfl rfl 7 (by decide) w103 (fun _ h9 => h9) rfl (tyX12_ok 7 (by decide)) rfl rfl (Nat.le_of_ble_eq_true rfl) dX12_nextToken_33 (fun H locs hP hD hS => ?_)
          obtain ⟨S_62, eS_62⟩ : ∃ z : MS, z = (ms_set_at S_42 ((ms_at S_42) + 1)) := ⟨_, rfl⟩
          have hw := hw S_62 eS_62
          have hP : va_P D vwCl (wM h cy S_62) H := by rw [eS_62, ← wMp_at]; exact hP
          have hD : va_D A (wM h cy S_62) := by rw [eS_62, ← wMp_at]; exact hD
          refine lv_goto (tgt := 0) hx hb dX12_nextToken_36 (by decide) ?_
          exact ih_0 S_62 _ _ _ hw hP hD hS (lv_sub hl [0] rfl)
  obtain ⟨n_0, hw⟩ := hw
  exact L_0 n_0 S _ _ _ hw hP hD hS (lv_sub hl [0] rfl)
def wM_w2 (p1 : Int32) (p2 : Int32) (S : MS) (post : Int64 → MS → Prop) : Prop := post ((k_shlL (Int32.toInt64 p1) 8) ||| (Int32.toInt64 p2)) S
set_option maxHeartbeats 4000000 in
set_option maxRecDepth 100000 in
theorem cM_w2 (l : Launch) (D : va_G) (h : Nat → Nat) (cy : Nat → ClassId) (p1 : Int32) (p2 : Int32) (S : MS) (post : Int64 → MS → Prop) (hw : wM_w2 p1 p2 S post) : k_Ml l yX12_w2 wsX12_w2 { frames := 0, cells := 0, slots := 0, locals := 0 } D (tyM cy) (wM h cy) [.int p1, .int p2] S post := by
  intro sz
  refine Met.ofW (cc := cX12_w2) (maxL := 2) (ret := (some .long)) (by decide) rfl ?_
  intro p e s m args below meth c s₁ B hml hv
  obtain ⟨rfl, hsz, hP, hK, hD0⟩ := hv
  have hx := B.exec
  have hb := B.bytes
  have hr := B.returns
  have hts := atoms_spec (ws := wsX12_w2) B.pre
  have hown : s.vm.findClass RX12 = some m.cls := findClass_of_methodNamed B.named
  have hlocks := B.notSynchronized
  subst hsz
  have hD := hD0.self (sz := s.heap.size)
  generalize hAe : va_A (wM h cy S) s.heap.size = A at hD ⊢
  have hA : ∀ q : Nat, s.heap.size ≤ q → A q := fun q h => by rw [← hAe]; exact Or.inr h
  have hS : va_S A s.heap s.heap [] := va_S.rf
  have hl := lv_entry ([.int p1, .int p2]) (n := 2) (Nat.le_of_ble_eq_true rfl)
  rw [lg_entry_eq]
  generalize (lg_sl ([.int p1, .int p2]) ++ List.replicate (2 - (lg_sl ([.int p1, .int p2])).length) Slot.unset).toArray = ls at hl ⊢
  have hl : lv_has ls 2 [(0, .int p1), (1, .int p2)] := hl
  unfold wM_w2 at hw
  clear hD0
  refine lv_iload_n hx hb dX12_w2_0 rfl (lv_at hl 0 rfl) ?_
  refine lv_i2l (v := Int32.toInt64 p1) hx hb dX12_w2_1 rfl ?_
  refine lv_bipush (v := 8) hx hb dX12_w2_2 (by decide) ?_
  refine k_lshl hx hb dX12_w2_4 ?_
  refine lv_iload_n hx hb dX12_w2_5 rfl (lv_at hl 1 rfl) ?_
  refine lv_i2l (v := Int32.toInt64 p2) hx hb dX12_w2_6 rfl ?_
  refine lv_lor hx hb dX12_w2_7 ?_
  exact W.lret (v := (k_shlL (Int32.toInt64 p1) 8) ||| (Int32.toInt64 p2)) hx hb hr (fun t ht hW => ⟨⟨(k_shlL (Int32.toInt64 p1) 8) ||| (Int32.toInt64 p2), S, rfl, hw, by rw [ht]; exact hP, va_K.moved hW.alike hK, hD⟩, hS.F ht⟩) hS.2.2 dX12_w2_8
def wM_w3 (p1 : Int32) (p2 : Int32) (p3 : Int32) (S : MS) (post : Int64 → MS → Prop) : Prop := wM_w2 p1 p2 S (fun r_1 S_2 => post ((k_shlL r_1 8) ||| (Int32.toInt64 p3)) S_2)
set_option maxHeartbeats 4000000 in
set_option maxRecDepth 100000 in
theorem cM_w3 (l : Launch) (D : va_G) (h : Nat → Nat) (cy : Nat → ClassId) (p1 : Int32) (p2 : Int32) (p3 : Int32) (S : MS) (post : Int64 → MS → Prop) (hw : wM_w3 p1 p2 p3 S post) : k_Ml l yX12_w3 wsX12_w3 { frames := 1, cells := 0, slots := 0, locals := 21 } D (tyM cy) (wM h cy) [.int p1, .int p2, .int p3] S post := by
  intro sz
  refine Met.ofW (cc := cX12_w3) (maxL := 3) (ret := (some .long)) (by decide) rfl ?_
  intro p e s m args below meth c s₁ B hml hv
  obtain ⟨rfl, hsz, hP, hK, hD0⟩ := hv
  have hx := B.exec
  have hb := B.bytes
  have hr := B.returns
  have hts := atoms_spec (ws := wsX12_w3) B.pre
  have hown : s.vm.findClass RX12 = some m.cls := findClass_of_methodNamed B.named
  have hlocks := B.notSynchronized
  subst hsz
  have hD := hD0.self (sz := s.heap.size)
  generalize hAe : va_A (wM h cy S) s.heap.size = A at hD ⊢
  have hA : ∀ q : Nat, s.heap.size ≤ q → A q := fun q h => by rw [← hAe]; exact Or.inr h
  have hS : va_S A s.heap s.heap [] := va_S.rf
  have hl := lv_entry ([.int p1, .int p2, .int p3]) (n := 3) (Nat.le_of_ble_eq_true rfl)
  rw [lg_entry_eq]
  generalize (lg_sl ([.int p1, .int p2, .int p3]) ++ List.replicate (3 - (lg_sl ([.int p1, .int p2, .int p3])).length) Slot.unset).toArray = ls at hl ⊢
  have hl : lv_has ls 3 [(0, .int p1), (1, .int p2), (2, .int p3)] := hl
  unfold wM_w3 at hw
  clear hD0
  refine lv_iload_n hx hb dX12_w3_0 rfl (lv_at hl 0 rfl) ?_
  refine lv_iload_n hx hb dX12_w3_1 rfl (lv_at hl 1 rfl) ?_
  refine k_callSl (As := [.int p1, .int p2]) (rest := []) ⟨hx, hb, hml, hown, hts⟩ (cM_w2 l D h cy _ _ _ _ hw) (va_cwS 2 hts gX12_w3_X12_w2 rfl rfl rfl (by decide +kernel) ⟨Nat.le_of_ble_eq_true rfl, Nat.le_of_ble_eq_true rfl⟩) hK hP hD hS hA rfl hl.1 rfl (Nat.le_of_ble_eq_true rfl) dX12_w3_2 ⟨Nat.zero_le _, Nat.zero_le _⟩ (fun r_1 S_2 H locs hw hP hD hS => ?_)
  refine lv_bipush (v := 8) hx hb dX12_w3_5 (by decide) ?_
  refine k_lshl hx hb dX12_w3_7 ?_
  refine lv_iload_n hx hb dX12_w3_8 rfl (lv_at hl 2 rfl) ?_
  refine lv_i2l (v := Int32.toInt64 p3) hx hb dX12_w3_9 rfl ?_
  refine lv_lor hx hb dX12_w3_10 ?_
  exact W.lret (v := (k_shlL r_1 8) ||| (Int32.toInt64 p3)) hx hb hr (fun t ht hW => ⟨⟨(k_shlL r_1 8) ||| (Int32.toInt64 p3), S_2, rfl, hw, by rw [ht]; exact hP, va_K.moved hW.alike hK, hD⟩, hS.F ht⟩) hS.2.2 dX12_w3_11
def wM_w4 (p1 : Int32) (p2 : Int32) (p3 : Int32) (p4 : Int32) (S : MS) (post : Int64 → MS → Prop) : Prop := wM_w3 p1 p2 p3 S (fun r_1 S_2 => post ((k_shlL r_1 8) ||| (Int32.toInt64 p4)) S_2)
set_option maxHeartbeats 4000000 in
set_option maxRecDepth 100000 in
theorem cM_w4 (l : Launch) (D : va_G) (h : Nat → Nat) (cy : Nat → ClassId) (p1 : Int32) (p2 : Int32) (p3 : Int32) (p4 : Int32) (S : MS) (post : Int64 → MS → Prop) (hw : wM_w4 p1 p2 p3 p4 S post) : k_Ml l yX12_w4 wsX12_w4 { frames := 2, cells := 0, slots := 0, locals := 43 } D (tyM cy) (wM h cy) [.int p1, .int p2, .int p3, .int p4] S post := by
  intro sz
  refine Met.ofW (cc := cX12_w4) (maxL := 4) (ret := (some .long)) (by decide) rfl ?_
  intro p e s m args below meth c s₁ B hml hv
  obtain ⟨rfl, hsz, hP, hK, hD0⟩ := hv
  have hx := B.exec
  have hb := B.bytes
  have hr := B.returns
  have hts := atoms_spec (ws := wsX12_w4) B.pre
  have hown : s.vm.findClass RX12 = some m.cls := findClass_of_methodNamed B.named
  have hlocks := B.notSynchronized
  subst hsz
  have hD := hD0.self (sz := s.heap.size)
  generalize hAe : va_A (wM h cy S) s.heap.size = A at hD ⊢
  have hA : ∀ q : Nat, s.heap.size ≤ q → A q := fun q h => by rw [← hAe]; exact Or.inr h
  have hS : va_S A s.heap s.heap [] := va_S.rf
  have hl := lv_entry ([.int p1, .int p2, .int p3, .int p4]) (n := 4) (Nat.le_of_ble_eq_true rfl)
  rw [lg_entry_eq]
  generalize (lg_sl ([.int p1, .int p2, .int p3, .int p4]) ++ List.replicate (4 - (lg_sl ([.int p1, .int p2, .int p3, .int p4])).length) Slot.unset).toArray = ls at hl ⊢
  have hl : lv_has ls 4 [(0, .int p1), (1, .int p2), (2, .int p3), (3, .int p4)] := hl
  unfold wM_w4 at hw
  clear hD0
  refine lv_iload_n hx hb dX12_w4_0 rfl (lv_at hl 0 rfl) ?_
  refine lv_iload_n hx hb dX12_w4_1 rfl (lv_at hl 1 rfl) ?_
  refine lv_iload_n hx hb dX12_w4_2 rfl (lv_at hl 2 rfl) ?_
  refine k_callSl (As := [.int p1, .int p2, .int p3]) (rest := []) ⟨hx, hb, hml, hown, hts⟩ (cM_w3 l D h cy _ _ _ _ _ hw) (va_cwS 3 hts gX12_w4_X12_w3 rfl rfl rfl (by decide +kernel) ⟨Nat.le_of_ble_eq_true rfl, Nat.le_of_ble_eq_true rfl⟩) hK hP hD hS hA rfl hl.1 rfl (Nat.le_of_ble_eq_true rfl) dX12_w4_3 ⟨Nat.zero_le _, Nat.zero_le _⟩ (fun r_1 S_2 H locs hw hP hD hS => ?_)
  refine lv_bipush (v := 8) hx hb dX12_w4_6 (by decide) ?_
  refine k_lshl hx hb dX12_w4_8 ?_
  refine lv_iload_n hx hb dX12_w4_9 rfl (lv_at hl 3 rfl) ?_
  refine lv_i2l (v := Int32.toInt64 p4) hx hb dX12_w4_10 rfl ?_
  refine lv_lor hx hb dX12_w4_11 ?_
  exact W.lret (v := (k_shlL r_1 8) ||| (Int32.toInt64 p4)) hx hb hr (fun t ht hW => ⟨⟨(k_shlL r_1 8) ||| (Int32.toInt64 p4), S_2, rfl, hw, by rw [ht]; exact hP, va_K.moved hW.alike hK, hD⟩, hS.F ht⟩) hS.2.2 dX12_w4_12
def wM_w5 (p1 : Int32) (p2 : Int32) (p3 : Int32) (p4 : Int32) (p5 : Int32) (S : MS) (post : Int64 → MS → Prop) : Prop := wM_w4 p1 p2 p3 p4 S (fun r_1 S_2 => post ((k_shlL r_1 8) ||| (Int32.toInt64 p5)) S_2)
set_option maxHeartbeats 4000000 in
set_option maxRecDepth 100000 in
theorem cM_w5 (l : Launch) (D : va_G) (h : Nat → Nat) (cy : Nat → ClassId) (p1 : Int32) (p2 : Int32) (p3 : Int32) (p4 : Int32) (p5 : Int32) (S : MS) (post : Int64 → MS → Prop) (hw : wM_w5 p1 p2 p3 p4 p5 S post) : k_Ml l yX12_w5 wsX12_w5 { frames := 3, cells := 0, slots := 0, locals := 66 } D (tyM cy) (wM h cy) [.int p1, .int p2, .int p3, .int p4, .int p5] S post := by
  intro sz
  refine Met.ofW (cc := cX12_w5) (maxL := 5) (ret := (some .long)) (by decide) rfl ?_
  intro p e s m args below meth c s₁ B hml hv
  obtain ⟨rfl, hsz, hP, hK, hD0⟩ := hv
  have hx := B.exec
  have hb := B.bytes
  have hr := B.returns
  have hts := atoms_spec (ws := wsX12_w5) B.pre
  have hown : s.vm.findClass RX12 = some m.cls := findClass_of_methodNamed B.named
  have hlocks := B.notSynchronized
  subst hsz
  have hD := hD0.self (sz := s.heap.size)
  generalize hAe : va_A (wM h cy S) s.heap.size = A at hD ⊢
  have hA : ∀ q : Nat, s.heap.size ≤ q → A q := fun q h => by rw [← hAe]; exact Or.inr h
  have hS : va_S A s.heap s.heap [] := va_S.rf
  have hl := lv_entry ([.int p1, .int p2, .int p3, .int p4, .int p5]) (n := 5) (Nat.le_of_ble_eq_true rfl)
  rw [lg_entry_eq]
  generalize (lg_sl ([.int p1, .int p2, .int p3, .int p4, .int p5]) ++ List.replicate (5 - (lg_sl ([.int p1, .int p2, .int p3, .int p4, .int p5])).length) Slot.unset).toArray = ls at hl ⊢
  have hl : lv_has ls 5 [(0, .int p1), (1, .int p2), (2, .int p3), (3, .int p4), (4, .int p5)] := hl
  unfold wM_w5 at hw
  clear hD0
  refine lv_iload_n hx hb dX12_w5_0 rfl (lv_at hl 0 rfl) ?_
  refine lv_iload_n hx hb dX12_w5_1 rfl (lv_at hl 1 rfl) ?_
  refine lv_iload_n hx hb dX12_w5_2 rfl (lv_at hl 2 rfl) ?_
  refine lv_iload_n hx hb dX12_w5_3 rfl (lv_at hl 3 rfl) ?_
  refine k_callSl (As := [.int p1, .int p2, .int p3, .int p4]) (rest := []) ⟨hx, hb, hml, hown, hts⟩ (cM_w4 l D h cy _ _ _ _ _ _ hw) (va_cwS 4 hts gX12_w5_X12_w4 rfl rfl rfl (by decide +kernel) ⟨Nat.le_of_ble_eq_true rfl, Nat.le_of_ble_eq_true rfl⟩) hK hP hD hS hA rfl hl.1 rfl (Nat.le_of_ble_eq_true rfl) dX12_w5_4 ⟨Nat.zero_le _, Nat.zero_le _⟩ (fun r_1 S_2 H locs hw hP hD hS => ?_)
  refine lv_bipush (v := 8) hx hb dX12_w5_7 (by decide) ?_
  refine k_lshl hx hb dX12_w5_9 ?_
  refine lv_iload hx hb dX12_w5_10 (lv_at hl 4 rfl) ?_
  refine lv_i2l (v := Int32.toInt64 p5) hx hb dX12_w5_12 rfl ?_
  refine lv_lor hx hb dX12_w5_13 ?_
  exact W.lret (v := (k_shlL r_1 8) ||| (Int32.toInt64 p5)) hx hb hr (fun t ht hW => ⟨⟨(k_shlL r_1 8) ||| (Int32.toInt64 p5), S_2, rfl, hw, by rw [ht]; exact hP, va_K.moved hW.alike hK, hD⟩, hS.F ht⟩) hS.2.2 dX12_w5_14
def wM_w6 (p1 : Int32) (p2 : Int32) (p3 : Int32) (p4 : Int32) (p5 : Int32) (p6 : Int32) (S : MS) (post : Int64 → MS → Prop) : Prop := wM_w5 p1 p2 p3 p4 p5 S (fun r_1 S_2 => post ((k_shlL r_1 8) ||| (Int32.toInt64 p6)) S_2)
set_option maxHeartbeats 4000000 in
set_option maxRecDepth 100000 in
theorem cM_w6 (l : Launch) (D : va_G) (h : Nat → Nat) (cy : Nat → ClassId) (p1 : Int32) (p2 : Int32) (p3 : Int32) (p4 : Int32) (p5 : Int32) (p6 : Int32) (S : MS) (post : Int64 → MS → Prop) (hw : wM_w6 p1 p2 p3 p4 p5 p6 S post) : k_Ml l yX12_w6 wsX12_w6 { frames := 4, cells := 0, slots := 0, locals := 90 } D (tyM cy) (wM h cy) [.int p1, .int p2, .int p3, .int p4, .int p5, .int p6] S post := by
  intro sz
  refine Met.ofW (cc := cX12_w6) (maxL := 6) (ret := (some .long)) (by decide) rfl ?_
  intro p e s m args below meth c s₁ B hml hv
  obtain ⟨rfl, hsz, hP, hK, hD0⟩ := hv
  have hx := B.exec
  have hb := B.bytes
  have hr := B.returns
  have hts := atoms_spec (ws := wsX12_w6) B.pre
  have hown : s.vm.findClass RX12 = some m.cls := findClass_of_methodNamed B.named
  have hlocks := B.notSynchronized
  subst hsz
  have hD := hD0.self (sz := s.heap.size)
  generalize hAe : va_A (wM h cy S) s.heap.size = A at hD ⊢
  have hA : ∀ q : Nat, s.heap.size ≤ q → A q := fun q h => by rw [← hAe]; exact Or.inr h
  have hS : va_S A s.heap s.heap [] := va_S.rf
  have hl := lv_entry ([.int p1, .int p2, .int p3, .int p4, .int p5, .int p6]) (n := 6) (Nat.le_of_ble_eq_true rfl)
  rw [lg_entry_eq]
  generalize (lg_sl ([.int p1, .int p2, .int p3, .int p4, .int p5, .int p6]) ++ List.replicate (6 - (lg_sl ([.int p1, .int p2, .int p3, .int p4, .int p5, .int p6])).length) Slot.unset).toArray = ls at hl ⊢
  have hl : lv_has ls 6 [(0, .int p1), (1, .int p2), (2, .int p3), (3, .int p4), (4, .int p5), (5, .int p6)] := hl
  unfold wM_w6 at hw
  clear hD0
  refine lv_iload_n hx hb dX12_w6_0 rfl (lv_at hl 0 rfl) ?_
  refine lv_iload_n hx hb dX12_w6_1 rfl (lv_at hl 1 rfl) ?_
  refine lv_iload_n hx hb dX12_w6_2 rfl (lv_at hl 2 rfl) ?_
  refine lv_iload_n hx hb dX12_w6_3 rfl (lv_at hl 3 rfl) ?_
  refine lv_iload hx hb dX12_w6_4 (lv_at hl 4 rfl) ?_
  refine k_callSl (As := [.int p1, .int p2, .int p3, .int p4, .int p5]) (rest := []) ⟨hx, hb, hml, hown, hts⟩ (cM_w5 l D h cy _ _ _ _ _ _ _ hw) (va_cwS 5 hts gX12_w6_X12_w5 rfl rfl rfl (by decide +kernel) ⟨Nat.le_of_ble_eq_true rfl, Nat.le_of_ble_eq_true rfl⟩) hK hP hD hS hA rfl hl.1 rfl (Nat.le_of_ble_eq_true rfl) dX12_w6_6 ⟨Nat.zero_le _, Nat.zero_le _⟩ (fun r_1 S_2 H locs hw hP hD hS => ?_)
  refine lv_bipush (v := 8) hx hb dX12_w6_9 (by decide) ?_
  refine k_lshl hx hb dX12_w6_11 ?_
  refine lv_iload hx hb dX12_w6_12 (lv_at hl 5 rfl) ?_
  refine lv_i2l (v := Int32.toInt64 p6) hx hb dX12_w6_14 rfl ?_
  refine lv_lor hx hb dX12_w6_15 ?_
  exact W.lret (v := (k_shlL r_1 8) ||| (Int32.toInt64 p6)) hx hb hr (fun t ht hW => ⟨⟨(k_shlL r_1 8) ||| (Int32.toInt64 p6), S_2, rfl, hw, by rw [ht]; exact hP, va_K.moved hW.alike hK, hD⟩, hS.F ht⟩) hS.2.2 dX12_w6_16
def wM_isWord (p1 : Int64) (S : MS) (post : Int32 → MS → Prop) : Prop := (((ms_token S) = 2 → (((ms_word S) = p1 → post 1 S) ∧ (¬ ((ms_word S) = p1) → post 0 S))) ∧ (¬ ((ms_token S) = 2) → post 0 S))
set_option maxHeartbeats 4000000 in
set_option maxRecDepth 100000 in
theorem cM_isWord (l : Launch) (D : va_G) (h : Nat → Nat) (cy : Nat → ClassId) (p1 : Int64) (S : MS) (post : Int32 → MS → Prop) (hw : wM_isWord p1 S post) : k_Mi l yX12_isWord wsX12_isWord { frames := 0, cells := 0, slots := 0, locals := 0 } D (tyM cy) (wM h cy) [.ref (h 31), .long p1] S post := by
  intro sz
  refine Met.ofW (cc := cX12_isWord) (maxL := 3) (ret := (some .boolean)) (by decide) rfl ?_
  intro p e s m args below meth c s₁ B hml hv
  obtain ⟨rfl, hsz, hP, hK, hD0⟩ := hv
  have hx := B.exec
  have hb := B.bytes
  have hr := B.returns
  have hts := atoms_spec (ws := wsX12_isWord) B.pre
  have hown : s.vm.findClass RX12 = some m.cls := findClass_of_methodNamed B.named
  have hlocks := B.notSynchronized
  subst hsz
  have hD := hD0.self (sz := s.heap.size)
  generalize hAe : va_A (wM h cy S) s.heap.size = A at hD ⊢
  have hA : ∀ q : Nat, s.heap.size ≤ q → A q := fun q h => by rw [← hAe]; exact Or.inr h
  have hS : va_S A s.heap s.heap [] := va_S.rf
  have hin : ∀ w ∈ wsX120, w ∈ wsX12_isWord := fun _ h => List.mem_cons_of_mem _ (List.mem_append_right _ h)
  have w113 := hts (.fieldLink RX12 113 "ClownsMournModel" "token" "I") (List.mem_of_getElem? (i := 1) rfl)
  have w126 := hts (.fieldLink RX12 126 "ClownsMournModel" "word" "J") (List.mem_of_getElem? (i := 2) rfl)
  have hl := lv_entry ([.ref (h 31), .long p1]) (n := 3) (Nat.le_of_ble_eq_true rfl)
  rw [lg_entry_eq]
  generalize (lg_sl ([.ref (h 31), .long p1]) ++ List.replicate (3 - (lg_sl ([.ref (h 31), .long p1])).length) Slot.unset).toArray = ls at hl ⊢
  have hl : lv_has ls 3 [(0, .ref (h 31)), (1, .long p1)] := hl
  unfold wM_isWord at hw
  clear hD0
  refine lv_aload_n hx hb dX12_isWord_0 rfl (lv_at hl 0 rfl) ?_
  refine va_get (D := D) (ci := 11) (v := .int (ms_token S)) (C := RX12) (T := TX12) (N := 31) hx hb hts hin hown hK hP 0 rfl rfl 9 (by decide) w113 (fun _ h9 => h9) rfl dX12_isWord_1 ?_
  refine lv_iconst (v := 2) hx hb dX12_isWord_4 (by decide) ?_
  obtain ⟨hc_1t, hc_1f⟩ := hw
  refine lv_icmp_ne (tgt := 21) hx hb dX12_isWord_5 (by decide) (fun c_1 => ?_) (fun c_1 => ?_)
  · have hw := hc_1f c_1
    clear hc_1t hc_1f
    refine lv_iconst (v := 0) hx hb dX12_isWord_21 (by decide) ?_
    exact W.zret (v := 0) hx hb hr (by decide +kernel) (fun t ht hW => ⟨⟨0, S, rfl, hw, by rw [ht]; exact hP, va_K.moved hW.alike hK, hD⟩, hS.F ht⟩) hS.2.2 dX12_isWord_22
  · have hw := hc_1t c_1
    clear hc_1t hc_1f
    refine lv_aload_n hx hb dX12_isWord_8 rfl (lv_at hl 0 rfl) ?_
    refine va_get (D := D) (ci := 11) (v := .long (ms_word S)) (C := RX12) (T := TX12) (N := 31) hx hb hts hin hown hK hP 0 rfl rfl 11 (by decide) w126 (fun _ h9 => h9) rfl dX12_isWord_9 ?_
    refine lv_lload_n hx hb dX12_isWord_12 rfl (lv_at hl 1 rfl) ?_
    refine W.lcmp hx hb dX12_isWord_13 ?_
    obtain ⟨hc_2t, hc_2f⟩ := hw
    refine lv_if_ne (tgt := 21) hx hb dX12_isWord_14 (by decide) (fun c_2 => ?_) (fun c_2 => ?_)
    · have hw := hc_2f (fun q => c_2 ((k_c0 _ _).mpr q))
      clear hc_2t hc_2f
      refine lv_iconst (v := 0) hx hb dX12_isWord_21 (by decide) ?_
      exact W.zret (v := 0) hx hb hr (by decide +kernel) (fun t ht hW => ⟨⟨0, S, rfl, hw, by rw [ht]; exact hP, va_K.moved hW.alike hK, hD⟩, hS.F ht⟩) hS.2.2 dX12_isWord_22
    · have hw := hc_2t ((k_c0 _ _).mp c_2)
      clear hc_2t hc_2f
      refine lv_iconst (v := 1) hx hb dX12_isWord_17 (by decide) ?_
      refine lv_goto (tgt := 22) hx hb dX12_isWord_18 (by decide) ?_
      exact W.zret (v := 1) hx hb hr (by decide +kernel) (fun t ht hW => ⟨⟨1, S, rfl, hw, by rw [ht]; exact hP, va_K.moved hW.alike hK, hD⟩, hS.F ht⟩) hS.2.2 dX12_isWord_22
def wM_emit (p1 : Int32) (p2 : Int32) (S : MS) (post : MS → Prop) : Prop := (vp_in (((ms_text0 S) + 97) + (2 * (ms_written S))) 2820 ∧ ∀ S_1 : MS, S_1 = (ms_set_texts S (upd (ms_texts S) ((((ms_text0 S) + 97) + (2 * (ms_written S))).toNatClampNeg) p1)) → (vp_in ((((ms_text0 S_1) + 97) + (2 * (ms_written S_1))) + 1) 2820 ∧ ∀ S_2 : MS, S_2 = (ms_set_texts S_1 (upd (ms_texts S_1) (((((ms_text0 S_1) + 97) + (2 * (ms_written S_1))) + 1).toNatClampNeg) p2)) → (∀ S_3 : MS, S_3 = (ms_set_written S_2 ((ms_written S_2) + 1)) → post S_3)))
set_option maxHeartbeats 4000000 in
set_option maxRecDepth 100000 in
theorem cM_emit (l : Launch) (D : va_G) (h : Nat → Nat) (cy : Nat → ClassId) (p1 : Int32) (p2 : Int32) (S : MS) (post : MS → Prop) (hw : wM_emit p1 p2 S post) : k_Mv l yX12_emit wsX12_emit { frames := 0, cells := 0, slots := 0, locals := 0 } D (tyM cy) (wM h cy) [.ref (h 31), .int p1, .int p2] S post := by
  intro sz
  refine Met.ofW (cc := cX12_emit) (maxL := 3) (ret := none) (by decide) rfl ?_
  intro p e s m args below meth c s₁ B hml hv
  obtain ⟨rfl, hsz, hP, hK, hD0⟩ := hv
  have hx := B.exec
  have hb := B.bytes
  have hr := B.returns
  have hts := atoms_spec (ws := wsX12_emit) B.pre
  have hown : s.vm.findClass RX12 = some m.cls := findClass_of_methodNamed B.named
  have hlocks := B.notSynchronized
  subst hsz
  have hD := hD0.self (sz := s.heap.size)
  generalize hAe : va_A (wM h cy S) s.heap.size = A at hD ⊢
  have hA : ∀ q : Nat, s.heap.size ≤ q → A q := fun q h => by rw [← hAe]; exact Or.inr h
  have hS : va_S A s.heap s.heap [] := va_S.rf
  have hin : ∀ w ∈ wsX120, w ∈ wsX12_emit := fun _ h => List.mem_cons_of_mem _ (List.mem_append_right _ h)
  have w16 := hts (.fieldLink RX12 16 "ClownsMournModel" "texts" "[I") (List.mem_of_getElem? (i := 1) rfl)
  have w151 := hts (.fieldLink RX12 151 "ClownsMournModel" "text0" "I") (List.mem_of_getElem? (i := 2) rfl)
  have w154 := hts (.fieldLink RX12 154 "ClownsMournModel" "written" "I") (List.mem_of_getElem? (i := 3) rfl)
  have hl := lv_entry ([.ref (h 31), .int p1, .int p2]) (n := 3) (Nat.le_of_ble_eq_true rfl)
  rw [lg_entry_eq]
  generalize (lg_sl ([.ref (h 31), .int p1, .int p2]) ++ List.replicate (3 - (lg_sl ([.ref (h 31), .int p1, .int p2])).length) Slot.unset).toArray = ls at hl ⊢
  have hl : lv_has ls 3 [(0, .ref (h 31)), (1, .int p1), (2, .int p2)] := hl
  unfold wM_emit at hw
  clear hD0
  refine lv_aload_n hx hb dX12_emit_0 rfl (lv_at hl 0 rfl) ?_
  refine va_get (D := D) (ci := 11) (v := .ref (h 2)) (C := RX12) (T := TX12) (N := 31) hx hb hts hin hown hK hP 0 rfl rfl 2 (by decide) w16 (fun _ h9 => h9) rfl dX12_emit_1 ?_
  refine lv_aload_n hx hb dX12_emit_4 rfl (lv_at hl 0 rfl) ?_
  refine va_get (D := D) (ci := 11) (v := .int (ms_text0 S)) (C := RX12) (T := TX12) (N := 31) hx hb hts hin hown hK hP 0 rfl rfl 12 (by decide) w151 (fun _ h9 => h9) rfl dX12_emit_5 ?_
  refine lv_bipush (v := 97) hx hb dX12_emit_8 (by decide) ?_
  refine lv_iadd hx hb dX12_emit_10 ?_
  refine lv_iconst (v := 2) hx hb dX12_emit_11 (by decide) ?_
  refine lv_aload_n hx hb dX12_emit_12 rfl (lv_at hl 0 rfl) ?_
  refine va_get (D := D) (ci := 11) (v := .int (ms_written S)) (C := RX12) (T := TX12) (N := 31) hx hb hts hin hown hK hP 0 rfl rfl 13 (by decide) w154 (fun _ h9 => h9) rfl dX12_emit_13 ?_
  refine lv_imul hx hb dX12_emit_16 ?_
  refine lv_iadd hx hb dX12_emit_17 ?_
  refine lv_iload_n hx hb dX12_emit_18 rfl (lv_at hl 1 rfl) ?_
  obtain ⟨hi_5, hw⟩ := hw
  refine va_iast (f := (ms_texts S)) hx hb hK hP hD hS 3 2 rfl rfl hi_5 dX12_emit_19 (fun H locs hP hD hS => ?_)
  obtain ⟨S_1, eS_1⟩ : ∃ z : MS, z = (ms_set_texts S (upd (ms_texts S) ((((ms_text0 S) + 97) + (2 * (ms_written S))).toNatClampNeg) p1)) := ⟨_, rfl⟩
  have hw := hw S_1 eS_1
  have hP : va_P D vwCl (wM h cy S_1) H := by rw [eS_1, ← wMs_texts]; exact hP
  have hD : va_D A (wM h cy S_1) := by rw [eS_1, ← wMs_texts]; exact hD
  refine lv_aload_n hx hb dX12_emit_20 rfl (lv_at hl 0 rfl) ?_
  refine va_get (D := D) (ci := 11) (v := .ref (h 2)) (C := RX12) (T := TX12) (N := 31) hx hb hts hin hown hK hP 0 rfl rfl 2 (by decide) w16 (fun _ h9 => h9) rfl dX12_emit_21 ?_
  refine lv_aload_n hx hb dX12_emit_24 rfl (lv_at hl 0 rfl) ?_
  refine va_get (D := D) (ci := 11) (v := .int (ms_text0 S_1)) (C := RX12) (T := TX12) (N := 31) hx hb hts hin hown hK hP 0 rfl rfl 12 (by decide) w151 (fun _ h9 => h9) rfl dX12_emit_25 ?_
  refine lv_bipush (v := 97) hx hb dX12_emit_28 (by decide) ?_
  refine lv_iadd hx hb dX12_emit_30 ?_
  refine lv_iconst (v := 2) hx hb dX12_emit_31 (by decide) ?_
  refine lv_aload_n hx hb dX12_emit_32 rfl (lv_at hl 0 rfl) ?_
  refine va_get (D := D) (ci := 11) (v := .int (ms_written S_1)) (C := RX12) (T := TX12) (N := 31) hx hb hts hin hown hK hP 0 rfl rfl 13 (by decide) w154 (fun _ h9 => h9) rfl dX12_emit_33 ?_
  refine lv_imul hx hb dX12_emit_36 ?_
  refine lv_iadd hx hb dX12_emit_37 ?_
  refine lv_iconst (v := 1) hx hb dX12_emit_38 (by decide) ?_
  refine lv_iadd hx hb dX12_emit_39 ?_
  refine lv_iload_n hx hb dX12_emit_40 rfl (lv_at hl 2 rfl) ?_
  obtain ⟨hi_4, hw⟩ := hw
  refine va_iast (f := (ms_texts S_1)) hx hb hK hP hD hS 3 2 rfl rfl hi_4 dX12_emit_41 (fun H locs hP hD hS => ?_)
  obtain ⟨S_2, eS_2⟩ : ∃ z : MS, z = (ms_set_texts S_1 (upd (ms_texts S_1) (((((ms_text0 S_1) + 97) + (2 * (ms_written S_1))) + 1).toNatClampNeg) p2)) := ⟨_, rfl⟩
  have hw := hw S_2 eS_2
  have hP : va_P D vwCl (wM h cy S_2) H := by rw [eS_2, ← wMs_texts]; exact hP
  have hD : va_D A (wM h cy S_2) := by rw [eS_2, ← wMs_texts]; exact hD
  refine lv_aload_n hx hb dX12_emit_42 rfl (lv_at hl 0 rfl) ?_
  refine lv_dup hx hb dX12_emit_43 rfl ?_
  refine va_get (D := D) (ci := 11) (v := .int (ms_written S_2)) (C := RX12) (T := TX12) (N := 31) hx hb hts hin hown hK hP 0 rfl rfl 13 (by decide) w154 (fun _ h9 => h9) rfl dX12_emit_44 ?_
  refine lv_iconst (v := 1) hx hb dX12_emit_47 (by decide) ?_
  refine lv_iadd hx hb dX12_emit_48 ?_
  refine va_put (D := D) (ci := 11) (v := .int ((ms_written S_2) + 1)) (ty := .int) (C := RX12) (T := TX12) (N := 31) hx hb hts hin tyX12 tyX12_ok nmX12 hown hK hP hD hS 0 rfl rfl 13 (by decide) w154 (fun _ h9 => h9) rfl (tyX12_ok 13 (by decide)) rfl rfl (Nat.le_of_ble_eq_true rfl) dX12_emit_49 (fun H locs hP hD hS => ?_)
  obtain ⟨S_3, eS_3⟩ : ∃ z : MS, z = (ms_set_written S_2 ((ms_written S_2) + 1)) := ⟨_, rfl⟩
  have hw := hw S_3 eS_3
  have hP : va_P D vwCl (wM h cy S_3) H := by rw [eS_3, ← wMp_written]; exact hP
  have hD : va_D A (wM h cy S_3) := by rw [eS_3, ← wMp_written]; exact hD
  exact W.vret hx hb hr (fun t ht hW => ⟨⟨S_3, rfl, hw, by rw [ht]; exact hP, va_K.moved hW.alike hK, hD⟩, hS.F ht⟩) hS.2.2 dX12_emit_52
def wM_isLaughed (S : MS) (post : Int32 → MS → Prop) : Prop := (((ms_token S) = 2 → ((((ms_at S) - (ms_place S)) = 7 → wM_byteAt (ms_place S) S (fun r_3 S_4 => wM_byteAt ((ms_place S_4) + 1) S_4 (fun r_5 S_6 => wM_byteAt ((ms_place S_6) + 2) S_6 (fun r_7 S_8 => wM_byteAt ((ms_place S_8) + 3) S_8 (fun r_9 S_10 => wM_w4 r_3 r_5 r_7 r_9 S_10 (fun r_11 S_12 => wM_w4 108 97 117 103 S_12 (fun r_13 S_14 => ((r_11 = r_13 → wM_byteAt ((ms_place S_14) + 4) S_14 (fun r_16 S_17 => wM_byteAt ((ms_place S_17) + 5) S_17 (fun r_18 S_19 => wM_byteAt ((ms_place S_19) + 6) S_19 (fun r_20 S_21 => wM_w3 r_16 r_18 r_20 S_21 (fun r_22 S_23 => wM_w3 104 101 100 S_23 (fun r_24 S_25 => ((r_22 = r_24 → post 1 S_25) ∧ (¬ (r_22 = r_24) → post 0 S_25)))))))) ∧ (¬ (r_11 = r_13) → post 0 S_14))))))))) ∧ (¬ (((ms_at S) - (ms_place S)) = 7) → post 0 S))) ∧ (¬ ((ms_token S) = 2) → post 0 S))
set_option maxHeartbeats 4000000 in
set_option maxRecDepth 100000 in
theorem cM_isLaughed (l : Launch) (D : va_G) (h : Nat → Nat) (cy : Nat → ClassId) (S : MS) (post : Int32 → MS → Prop) (hw : wM_isLaughed S post) : k_Mi l yX12_isLaughed wsX12_isLaughed { frames := 3, cells := 0, slots := 0, locals := 66 } D (tyM cy) (wM h cy) [.ref (h 31)] S post := by
  intro sz
  refine Met.ofW (cc := cX12_isLaughed) (maxL := 1) (ret := (some .boolean)) (by decide) rfl ?_
  intro p e s m args below meth c s₁ B hml hv
  obtain ⟨rfl, hsz, hP, hK, hD0⟩ := hv
  have hx := B.exec
  have hb := B.bytes
  have hr := B.returns
  have hts := atoms_spec (ws := wsX12_isLaughed) B.pre
  have hown : s.vm.findClass RX12 = some m.cls := findClass_of_methodNamed B.named
  have hlocks := B.notSynchronized
  subst hsz
  have hD := hD0.self (sz := s.heap.size)
  generalize hAe : va_A (wM h cy S) s.heap.size = A at hD ⊢
  have hA : ∀ q : Nat, s.heap.size ≤ q → A q := fun q h => by rw [← hAe]; exact Or.inr h
  have hS : va_S A s.heap s.heap [] := va_S.rf
  have hin : ∀ w ∈ wsX120, w ∈ wsX12_isLaughed := fun _ h => List.mem_cons_of_mem _ (List.mem_append_right _ h)
  have w103 := hts (.fieldLink RX12 103 "ClownsMournModel" "at" "I") (List.mem_of_getElem? (i := 2) rfl)
  have w110 := hts (.fieldLink RX12 110 "ClownsMournModel" "place" "I") (List.mem_of_getElem? (i := 3) rfl)
  have w113 := hts (.fieldLink RX12 113 "ClownsMournModel" "token" "I") (List.mem_of_getElem? (i := 1) rfl)
  have hl := lv_entry ([.ref (h 31)]) (n := 1) (Nat.le_of_ble_eq_true rfl)
  rw [lg_entry_eq]
  generalize (lg_sl ([.ref (h 31)]) ++ List.replicate (1 - (lg_sl ([.ref (h 31)])).length) Slot.unset).toArray = ls at hl ⊢
  have hl : lv_has ls 1 [(0, .ref (h 31))] := hl
  unfold wM_isLaughed at hw
  clear hD0
  refine lv_aload_n hx hb dX12_isLaughed_0 rfl (lv_at hl 0 rfl) ?_
  refine va_get (D := D) (ci := 11) (v := .int (ms_token S)) (C := RX12) (T := TX12) (N := 31) hx hb hts hin hown hK hP 0 rfl rfl 9 (by decide) w113 (fun _ h9 => h9) rfl dX12_isLaughed_1 ?_
  refine lv_iconst (v := 2) hx hb dX12_isLaughed_4 (by decide) ?_
  obtain ⟨hc_1t, hc_1f⟩ := hw
  refine lv_icmp_ne (tgt := 129) hx hb dX12_isLaughed_5 (by decide) (fun c_1 => ?_) (fun c_1 => ?_)
  · have hw := hc_1f c_1
    clear hc_1t hc_1f
    refine lv_iconst (v := 0) hx hb dX12_isLaughed_129 (by decide) ?_
    exact W.zret (v := 0) hx hb hr (by decide +kernel) (fun t ht hW => ⟨⟨0, S, rfl, hw, by rw [ht]; exact hP, va_K.moved hW.alike hK, hD⟩, hS.F ht⟩) hS.2.2 dX12_isLaughed_130
  · have hw := hc_1t c_1
    clear hc_1t hc_1f
    refine lv_aload_n hx hb dX12_isLaughed_8 rfl (lv_at hl 0 rfl) ?_
    refine va_get (D := D) (ci := 11) (v := .int (ms_at S)) (C := RX12) (T := TX12) (N := 31) hx hb hts hin hown hK hP 0 rfl rfl 7 (by decide) w103 (fun _ h9 => h9) rfl dX12_isLaughed_9 ?_
    refine lv_aload_n hx hb dX12_isLaughed_12 rfl (lv_at hl 0 rfl) ?_
    refine va_get (D := D) (ci := 11) (v := .int (ms_place S)) (C := RX12) (T := TX12) (N := 31) hx hb hts hin hown hK hP 0 rfl rfl 8 (by decide) w110 (fun _ h9 => h9) rfl dX12_isLaughed_13 ?_
    refine lv_isub hx hb dX12_isLaughed_16 ?_
    refine lv_bipush (v := 7) hx hb dX12_isLaughed_17 (by decide) ?_
    obtain ⟨hc_2t, hc_2f⟩ := hw
    refine lv_icmp_ne (tgt := 129) hx hb dX12_isLaughed_19 (by decide) (fun c_2 => ?_) (fun c_2 => ?_)
    · have hw := hc_2f c_2
      clear hc_2t hc_2f
      refine lv_iconst (v := 0) hx hb dX12_isLaughed_129 (by decide) ?_
      exact W.zret (v := 0) hx hb hr (by decide +kernel) (fun t ht hW => ⟨⟨0, S, rfl, hw, by rw [ht]; exact hP, va_K.moved hW.alike hK, hD⟩, hS.F ht⟩) hS.2.2 dX12_isLaughed_130
    · have hw := hc_2t c_2
      clear hc_2t hc_2f
      refine lv_aload_n hx hb dX12_isLaughed_22 rfl (lv_at hl 0 rfl) ?_
      refine lv_aload_n hx hb dX12_isLaughed_23 rfl (lv_at hl 0 rfl) ?_
      refine va_get (D := D) (ci := 11) (v := .int (ms_place S)) (C := RX12) (T := TX12) (N := 31) hx hb hts hin hown hK hP 0 rfl rfl 8 (by decide) w110 (fun _ h9 => h9) rfl dX12_isLaughed_24 ?_
      refine k_callVi (As := [.int (ms_place S)]) (rest := []) ⟨hx, hb, hml, hown, hts⟩ (cM_byteAt l D h cy _ _ _ hw) (cwV 1 hts gX12_isLaughed_X12_byteAt rfl rfl rfl (by decide +kernel) ⟨Nat.le_of_ble_eq_true rfl, Nat.le_of_ble_eq_true rfl⟩) (va_recv hK hP (ci := 11) (q0 := 0) rfl rfl) hK hP hD hS hA rfl hl.1 rfl (Nat.le_of_ble_eq_true rfl) dX12_isLaughed_27 ⟨Nat.zero_le _, Nat.zero_le _⟩ (fun r_3 S_4 H locs hw hP hD hS => ?_)
      refine lv_aload_n hx hb dX12_isLaughed_30 rfl (lv_at hl 0 rfl) ?_
      refine lv_aload_n hx hb dX12_isLaughed_31 rfl (lv_at hl 0 rfl) ?_
      refine va_get (D := D) (ci := 11) (v := .int (ms_place S_4)) (C := RX12) (T := TX12) (N := 31) hx hb hts hin hown hK hP 0 rfl rfl 8 (by decide) w110 (fun _ h9 => h9) rfl dX12_isLaughed_32 ?_
      refine lv_iconst (v := 1) hx hb dX12_isLaughed_35 (by decide) ?_
      refine lv_iadd hx hb dX12_isLaughed_36 ?_
      refine k_callVi (As := [.int ((ms_place S_4) + 1)]) (rest := [.int r_3]) ⟨hx, hb, hml, hown, hts⟩ (cM_byteAt l D h cy _ _ _ hw) (cwV 1 hts gX12_isLaughed_X12_byteAt rfl rfl rfl (by decide +kernel) ⟨Nat.le_of_ble_eq_true rfl, Nat.le_of_ble_eq_true rfl⟩) (va_recv hK hP (ci := 11) (q0 := 0) rfl rfl) hK hP hD hS hA rfl hl.1 rfl (Nat.le_of_ble_eq_true rfl) dX12_isLaughed_37 ⟨Nat.zero_le _, Nat.zero_le _⟩ (fun r_5 S_6 H locs hw hP hD hS => ?_)
      refine lv_aload_n hx hb dX12_isLaughed_40 rfl (lv_at hl 0 rfl) ?_
      refine lv_aload_n hx hb dX12_isLaughed_41 rfl (lv_at hl 0 rfl) ?_
      refine va_get (D := D) (ci := 11) (v := .int (ms_place S_6)) (C := RX12) (T := TX12) (N := 31) hx hb hts hin hown hK hP 0 rfl rfl 8 (by decide) w110 (fun _ h9 => h9) rfl dX12_isLaughed_42 ?_
      refine lv_iconst (v := 2) hx hb dX12_isLaughed_45 (by decide) ?_
      refine lv_iadd hx hb dX12_isLaughed_46 ?_
      refine k_callVi (As := [.int ((ms_place S_6) + 2)]) (rest := [.int r_5, .int r_3]) ⟨hx, hb, hml, hown, hts⟩ (cM_byteAt l D h cy _ _ _ hw) (cwV 1 hts gX12_isLaughed_X12_byteAt rfl rfl rfl (by decide +kernel) ⟨Nat.le_of_ble_eq_true rfl, Nat.le_of_ble_eq_true rfl⟩) (va_recv hK hP (ci := 11) (q0 := 0) rfl rfl) hK hP hD hS hA rfl hl.1 rfl (Nat.le_of_ble_eq_true rfl) dX12_isLaughed_47 ⟨Nat.zero_le _, Nat.zero_le _⟩ (fun r_7 S_8 H locs hw hP hD hS => ?_)
      refine lv_aload_n hx hb dX12_isLaughed_50 rfl (lv_at hl 0 rfl) ?_
      refine lv_aload_n hx hb dX12_isLaughed_51 rfl (lv_at hl 0 rfl) ?_
      refine va_get (D := D) (ci := 11) (v := .int (ms_place S_8)) (C := RX12) (T := TX12) (N := 31) hx hb hts hin hown hK hP 0 rfl rfl 8 (by decide) w110 (fun _ h9 => h9) rfl dX12_isLaughed_52 ?_
      refine lv_iconst (v := 3) hx hb dX12_isLaughed_55 (by decide) ?_
      refine lv_iadd hx hb dX12_isLaughed_56 ?_
      refine k_callVi (As := [.int ((ms_place S_8) + 3)]) (rest := [.int r_7, .int r_5, .int r_3]) ⟨hx, hb, hml, hown, hts⟩ (cM_byteAt l D h cy _ _ _ hw) (cwV 1 hts gX12_isLaughed_X12_byteAt rfl rfl rfl (by decide +kernel) ⟨Nat.le_of_ble_eq_true rfl, Nat.le_of_ble_eq_true rfl⟩) (va_recv hK hP (ci := 11) (q0 := 0) rfl rfl) hK hP hD hS hA rfl hl.1 rfl (Nat.le_of_ble_eq_true rfl) dX12_isLaughed_57 ⟨Nat.zero_le _, Nat.zero_le _⟩ (fun r_9 S_10 H locs hw hP hD hS => ?_)
      refine k_callSl (As := [.int r_3, .int r_5, .int r_7, .int r_9]) (rest := []) ⟨hx, hb, hml, hown, hts⟩ (cM_w4 l D h cy _ _ _ _ _ _ hw) (va_cwS 4 hts gX12_isLaughed_X12_w4 rfl rfl rfl (by decide +kernel) ⟨Nat.le_of_ble_eq_true rfl, Nat.le_of_ble_eq_true rfl⟩) hK hP hD hS hA rfl hl.1 rfl (Nat.le_of_ble_eq_true rfl) dX12_isLaughed_60 ⟨Nat.zero_le _, Nat.zero_le _⟩ (fun r_11 S_12 H locs hw hP hD hS => ?_)
      refine lv_bipush (v := 108) hx hb dX12_isLaughed_63 (by decide) ?_
      refine lv_bipush (v := 97) hx hb dX12_isLaughed_65 (by decide) ?_
      refine lv_bipush (v := 117) hx hb dX12_isLaughed_67 (by decide) ?_
      refine lv_bipush (v := 103) hx hb dX12_isLaughed_69 (by decide) ?_
      refine k_callSl (As := [.int 108, .int 97, .int 117, .int 103]) (rest := [.long r_11]) ⟨hx, hb, hml, hown, hts⟩ (cM_w4 l D h cy _ _ _ _ _ _ hw) (va_cwS 4 hts gX12_isLaughed_X12_w4 rfl rfl rfl (by decide +kernel) ⟨Nat.le_of_ble_eq_true rfl, Nat.le_of_ble_eq_true rfl⟩) hK hP hD hS hA rfl hl.1 rfl (Nat.le_of_ble_eq_true rfl) dX12_isLaughed_71 ⟨Nat.zero_le _, Nat.zero_le _⟩ (fun r_13 S_14 H locs hw hP hD hS => ?_)
      refine W.lcmp hx hb dX12_isLaughed_74 ?_
      obtain ⟨hc_15t, hc_15f⟩ := hw
      refine lv_if_ne (tgt := 129) hx hb dX12_isLaughed_75 (by decide) (fun c_15 => ?_) (fun c_15 => ?_)
      · have hw := hc_15f (fun q => c_15 ((k_c0 _ _).mpr q))
        clear hc_15t hc_15f
        refine lv_iconst (v := 0) hx hb dX12_isLaughed_129 (by decide) ?_
        exact W.zret (v := 0) hx hb hr (by decide +kernel) (fun t ht hW => ⟨⟨0, S_14, rfl, hw, by rw [ht]; exact hP, va_K.moved hW.alike hK, hD⟩, hS.F ht⟩) hS.2.2 dX12_isLaughed_130
      · have hw := hc_15t ((k_c0 _ _).mp c_15)
        clear hc_15t hc_15f
        refine lv_aload_n hx hb dX12_isLaughed_78 rfl (lv_at hl 0 rfl) ?_
        refine lv_aload_n hx hb dX12_isLaughed_79 rfl (lv_at hl 0 rfl) ?_
        refine va_get (D := D) (ci := 11) (v := .int (ms_place S_14)) (C := RX12) (T := TX12) (N := 31) hx hb hts hin hown hK hP 0 rfl rfl 8 (by decide) w110 (fun _ h9 => h9) rfl dX12_isLaughed_80 ?_
        refine lv_iconst (v := 4) hx hb dX12_isLaughed_83 (by decide) ?_
        refine lv_iadd hx hb dX12_isLaughed_84 ?_
        refine k_callVi (As := [.int ((ms_place S_14) + 4)]) (rest := []) ⟨hx, hb, hml, hown, hts⟩ (cM_byteAt l D h cy _ _ _ hw) (cwV 1 hts gX12_isLaughed_X12_byteAt rfl rfl rfl (by decide +kernel) ⟨Nat.le_of_ble_eq_true rfl, Nat.le_of_ble_eq_true rfl⟩) (va_recv hK hP (ci := 11) (q0 := 0) rfl rfl) hK hP hD hS hA rfl hl.1 rfl (Nat.le_of_ble_eq_true rfl) dX12_isLaughed_85 ⟨Nat.zero_le _, Nat.zero_le _⟩ (fun r_16 S_17 H locs hw hP hD hS => ?_)
        refine lv_aload_n hx hb dX12_isLaughed_88 rfl (lv_at hl 0 rfl) ?_
        refine lv_aload_n hx hb dX12_isLaughed_89 rfl (lv_at hl 0 rfl) ?_
        refine va_get (D := D) (ci := 11) (v := .int (ms_place S_17)) (C := RX12) (T := TX12) (N := 31) hx hb hts hin hown hK hP 0 rfl rfl 8 (by decide) w110 (fun _ h9 => h9) rfl dX12_isLaughed_90 ?_
        refine lv_iconst (v := 5) hx hb dX12_isLaughed_93 (by decide) ?_
        refine lv_iadd hx hb dX12_isLaughed_94 ?_
        refine k_callVi (As := [.int ((ms_place S_17) + 5)]) (rest := [.int r_16]) ⟨hx, hb, hml, hown, hts⟩ (cM_byteAt l D h cy _ _ _ hw) (cwV 1 hts gX12_isLaughed_X12_byteAt rfl rfl rfl (by decide +kernel) ⟨Nat.le_of_ble_eq_true rfl, Nat.le_of_ble_eq_true rfl⟩) (va_recv hK hP (ci := 11) (q0 := 0) rfl rfl) hK hP hD hS hA rfl hl.1 rfl (Nat.le_of_ble_eq_true rfl) dX12_isLaughed_95 ⟨Nat.zero_le _, Nat.zero_le _⟩ (fun r_18 S_19 H locs hw hP hD hS => ?_)
        refine lv_aload_n hx hb dX12_isLaughed_98 rfl (lv_at hl 0 rfl) ?_
        refine lv_aload_n hx hb dX12_isLaughed_99 rfl (lv_at hl 0 rfl) ?_
        refine va_get (D := D) (ci := 11) (v := .int (ms_place S_19)) (C := RX12) (T := TX12) (N := 31) hx hb hts hin hown hK hP 0 rfl rfl 8 (by decide) w110 (fun _ h9 => h9) rfl dX12_isLaughed_100 ?_
        refine lv_bipush (v := 6) hx hb dX12_isLaughed_103 (by decide) ?_
        refine lv_iadd hx hb dX12_isLaughed_105 ?_
        refine k_callVi (As := [.int ((ms_place S_19) + 6)]) (rest := [.int r_18, .int r_16]) ⟨hx, hb, hml, hown, hts⟩ (cM_byteAt l D h cy _ _ _ hw) (cwV 1 hts gX12_isLaughed_X12_byteAt rfl rfl rfl (by decide +kernel) ⟨Nat.le_of_ble_eq_true rfl, Nat.le_of_ble_eq_true rfl⟩) (va_recv hK hP (ci := 11) (q0 := 0) rfl rfl) hK hP hD hS hA rfl hl.1 rfl (Nat.le_of_ble_eq_true rfl) dX12_isLaughed_106 ⟨Nat.zero_le _, Nat.zero_le _⟩ (fun r_20 S_21 H locs hw hP hD hS => ?_)
        refine k_callSl (As := [.int r_16, .int r_18, .int r_20]) (rest := []) ⟨hx, hb, hml, hown, hts⟩ (cM_w3 l D h cy _ _ _ _ _ hw) (va_cwS 3 hts gX12_isLaughed_X12_w3 rfl rfl rfl (by decide +kernel) ⟨Nat.le_of_ble_eq_true rfl, Nat.le_of_ble_eq_true rfl⟩) hK hP hD hS hA rfl hl.1 rfl (Nat.le_of_ble_eq_true rfl) dX12_isLaughed_109 ⟨Nat.zero_le _, Nat.zero_le _⟩ (fun r_22 S_23 H locs hw hP hD hS => ?_)
        refine lv_bipush (v := 104) hx hb dX12_isLaughed_112 (by decide) ?_
        refine lv_bipush (v := 101) hx hb dX12_isLaughed_114 (by decide) ?_
        refine lv_bipush (v := 100) hx hb dX12_isLaughed_116 (by decide) ?_
        refine k_callSl (As := [.int 104, .int 101, .int 100]) (rest := [.long r_22]) ⟨hx, hb, hml, hown, hts⟩ (cM_w3 l D h cy _ _ _ _ _ hw) (va_cwS 3 hts gX12_isLaughed_X12_w3 rfl rfl rfl (by decide +kernel) ⟨Nat.le_of_ble_eq_true rfl, Nat.le_of_ble_eq_true rfl⟩) hK hP hD hS hA rfl hl.1 rfl (Nat.le_of_ble_eq_true rfl) dX12_isLaughed_118 ⟨Nat.zero_le _, Nat.zero_le _⟩ (fun r_24 S_25 H locs hw hP hD hS => ?_)
        refine W.lcmp hx hb dX12_isLaughed_121 ?_
        obtain ⟨hc_26t, hc_26f⟩ := hw
        refine lv_if_ne (tgt := 129) hx hb dX12_isLaughed_122 (by decide) (fun c_26 => ?_) (fun c_26 => ?_)
        · have hw := hc_26f (fun q => c_26 ((k_c0 _ _).mpr q))
          clear hc_26t hc_26f
          refine lv_iconst (v := 0) hx hb dX12_isLaughed_129 (by decide) ?_
          exact W.zret (v := 0) hx hb hr (by decide +kernel) (fun t ht hW => ⟨⟨0, S_25, rfl, hw, by rw [ht]; exact hP, va_K.moved hW.alike hK, hD⟩, hS.F ht⟩) hS.2.2 dX12_isLaughed_130
        · have hw := hc_26t ((k_c0 _ _).mp c_26)
          clear hc_26t hc_26f
          refine lv_iconst (v := 1) hx hb dX12_isLaughed_125 (by decide) ?_
          refine lv_goto (tgt := 130) hx hb dX12_isLaughed_126 (by decide) ?_
          exact W.zret (v := 1) hx hb hr (by decide +kernel) (fun t ht hW => ⟨⟨1, S_25, rfl, hw, by rw [ht]; exact hP, va_K.moved hW.alike hK, hD⟩, hS.F ht⟩) hS.2.2 dX12_isLaughed_130
def wM_nameOf (S : MS) (post : Int32 → MS → Prop) : Prop := (((ms_token S) = 2 → wM_w3 100 97 121 S (fun r_2 S_3 => (((ms_word S) = r_2 → post 0 S_3) ∧ (¬ ((ms_word S) = r_2) → wM_w4 107 105 110 100 S_3 (fun r_5 S_6 => (((ms_word S_3) = r_5 → post 1 S_6) ∧ (¬ ((ms_word S_3) = r_5) → wM_w5 103 114 105 101 102 S_6 (fun r_8 S_9 => (((ms_word S_6) = r_8 → post 2 S_9) ∧ (¬ ((ms_word S_6) = r_8) → wM_w4 109 111 111 100 S_9 (fun r_11 S_12 => (((ms_word S_9) = r_11 → post 3 S_12) ∧ (¬ ((ms_word S_9) = r_11) → wM_isLaughed S_12 (fun r_14 S_15 => ((r_14 = 0 → wM_w5 104 111 117 115 101 S_15 (fun r_17 S_18 => (((ms_word S_15) = r_17 → post 5 S_18) ∧ (¬ ((ms_word S_15) = r_17) → wM_w5 115 107 105 108 108 S_18 (fun r_20 S_21 => (((ms_word S_18) = r_20 → post 6 S_21) ∧ (¬ ((ms_word S_18) = r_20) → wM_w3 97 103 101 S_21 (fun r_23 S_24 => (((ms_word S_21) = r_23 → post 7 S_24) ∧ (¬ ((ms_word S_21) = r_23) → wM_w5 116 105 114 101 100 S_24 (fun r_26 S_27 => (((ms_word S_24) = r_26 → post 8 S_27) ∧ (¬ ((ms_word S_24) = r_26) → wM_w4 102 97 108 108 S_27 (fun r_29 S_30 => (((ms_word S_27) = r_29 → post 9 S_30) ∧ (¬ ((ms_word S_27) = r_29) → wM_w3 119 104 111 S_30 (fun r_32 S_33 => (((ms_word S_30) = r_32 → post 10 S_33) ∧ (¬ ((ms_word S_30) = r_32) → wM_w5 116 104 101 114 101 S_33 (fun r_35 S_36 => (((ms_word S_33) = r_35 → post 11 S_36) ∧ (¬ ((ms_word S_33) = r_35) → post (-1) S_36)))))))))))))))))))))) ∧ (¬ (r_14 = 0) → post 4 S_15)))))))))))))))) ∧ (¬ ((ms_token S) = 2) → post (-1) S))
set_option maxHeartbeats 4000000 in
set_option maxRecDepth 100000 in
theorem cM_nameOf (l : Launch) (D : va_G) (h : Nat → Nat) (cy : Nat → ClassId) (S : MS) (post : Int32 → MS → Prop) (hw : wM_nameOf S post) : k_Mi l yX12_nameOf wsX12_nameOf { frames := 4, cells := 0, slots := 0, locals := 90 } D (tyM cy) (wM h cy) [.ref (h 31)] S post := by
  intro sz
  refine Met.ofW (cc := cX12_nameOf) (maxL := 1) (ret := (some .int)) (by decide) rfl ?_
  intro p e s m args below meth c s₁ B hml hv
  obtain ⟨rfl, hsz, hP, hK, hD0⟩ := hv
  have hx := B.exec
  have hb := B.bytes
  have hr := B.returns
  have hts := atoms_spec (ws := wsX12_nameOf) B.pre
  have hown : s.vm.findClass RX12 = some m.cls := findClass_of_methodNamed B.named
  have hlocks := B.notSynchronized
  subst hsz
  have hD := hD0.self (sz := s.heap.size)
  generalize hAe : va_A (wM h cy S) s.heap.size = A at hD ⊢
  have hA : ∀ q : Nat, s.heap.size ≤ q → A q := fun q h => by rw [← hAe]; exact Or.inr h
  have hS : va_S A s.heap s.heap [] := va_S.rf
  have hin : ∀ w ∈ wsX120, w ∈ wsX12_nameOf := fun _ h => List.mem_cons_of_mem _ (List.mem_append_right _ h)
  have w113 := hts (.fieldLink RX12 113 "ClownsMournModel" "token" "I") (List.mem_of_getElem? (i := 1) rfl)
  have w126 := hts (.fieldLink RX12 126 "ClownsMournModel" "word" "J") (List.mem_of_getElem? (i := 2) rfl)
  have hl := lv_entry ([.ref (h 31)]) (n := 1) (Nat.le_of_ble_eq_true rfl)
  rw [lg_entry_eq]
  generalize (lg_sl ([.ref (h 31)]) ++ List.replicate (1 - (lg_sl ([.ref (h 31)])).length) Slot.unset).toArray = ls at hl ⊢
  have hl : lv_has ls 1 [(0, .ref (h 31))] := hl
  unfold wM_nameOf at hw
  clear hD0
  refine lv_aload_n hx hb dX12_nameOf_0 rfl (lv_at hl 0 rfl) ?_
  refine va_get (D := D) (ci := 11) (v := .int (ms_token S)) (C := RX12) (T := TX12) (N := 31) hx hb hts hin hown hK hP 0 rfl rfl 9 (by decide) w113 (fun _ h9 => h9) rfl dX12_nameOf_1 ?_
  refine lv_iconst (v := 2) hx hb dX12_nameOf_4 (by decide) ?_
  obtain ⟨hc_1t, hc_1f⟩ := hw
  refine lv_icmp_eq (tgt := 10) hx hb dX12_nameOf_5 (by decide) (fun c_1 => ?_) (fun c_1 => ?_)
  · have hw := hc_1t c_1
    clear hc_1t hc_1f
    refine lv_aload_n hx hb dX12_nameOf_10 rfl (lv_at hl 0 rfl) ?_
    refine va_get (D := D) (ci := 11) (v := .long (ms_word S)) (C := RX12) (T := TX12) (N := 31) hx hb hts hin hown hK hP 0 rfl rfl 11 (by decide) w126 (fun _ h9 => h9) rfl dX12_nameOf_11 ?_
    refine lv_bipush (v := 100) hx hb dX12_nameOf_14 (by decide) ?_
    refine lv_bipush (v := 97) hx hb dX12_nameOf_16 (by decide) ?_
    refine lv_bipush (v := 121) hx hb dX12_nameOf_18 (by decide) ?_
    refine k_callSl (As := [.int 100, .int 97, .int 121]) (rest := [.long (ms_word S)]) ⟨hx, hb, hml, hown, hts⟩ (cM_w3 l D h cy _ _ _ _ _ hw) (va_cwS 3 hts gX12_nameOf_X12_w3 rfl rfl rfl (by decide +kernel) ⟨Nat.le_of_ble_eq_true rfl, Nat.le_of_ble_eq_true rfl⟩) hK hP hD hS hA rfl hl.1 rfl (Nat.le_of_ble_eq_true rfl) dX12_nameOf_20 ⟨Nat.zero_le _, Nat.zero_le _⟩ (fun r_2 S_3 H locs hw hP hD hS => ?_)
    refine W.lcmp hx hb dX12_nameOf_23 ?_
    obtain ⟨hc_4t, hc_4f⟩ := hw
    refine lv_if_ne (tgt := 29) hx hb dX12_nameOf_24 (by decide) (fun c_4 => ?_) (fun c_4 => ?_)
    · have hw := hc_4f (fun q => c_4 ((k_c0 _ _).mpr q))
      clear hc_4t hc_4f
      refine lv_aload_n hx hb dX12_nameOf_29 rfl (lv_at hl 0 rfl) ?_
      refine va_get (D := D) (ci := 11) (v := .long (ms_word S_3)) (C := RX12) (T := TX12) (N := 31) hx hb hts hin hown hK hP 0 rfl rfl 11 (by decide) w126 (fun _ h9 => h9) rfl dX12_nameOf_30 ?_
      refine lv_bipush (v := 107) hx hb dX12_nameOf_33 (by decide) ?_
      refine lv_bipush (v := 105) hx hb dX12_nameOf_35 (by decide) ?_
      refine lv_bipush (v := 110) hx hb dX12_nameOf_37 (by decide) ?_
      refine lv_bipush (v := 100) hx hb dX12_nameOf_39 (by decide) ?_
      refine k_callSl (As := [.int 107, .int 105, .int 110, .int 100]) (rest := [.long (ms_word S_3)]) ⟨hx, hb, hml, hown, hts⟩ (cM_w4 l D h cy _ _ _ _ _ _ hw) (va_cwS 4 hts gX12_nameOf_X12_w4 rfl rfl rfl (by decide +kernel) ⟨Nat.le_of_ble_eq_true rfl, Nat.le_of_ble_eq_true rfl⟩) hK hP hD hS hA rfl hl.1 rfl (Nat.le_of_ble_eq_true rfl) dX12_nameOf_41 ⟨Nat.zero_le _, Nat.zero_le _⟩ (fun r_5 S_6 H locs hw hP hD hS => ?_)
      refine W.lcmp hx hb dX12_nameOf_44 ?_
      obtain ⟨hc_7t, hc_7f⟩ := hw
      refine lv_if_ne (tgt := 50) hx hb dX12_nameOf_45 (by decide) (fun c_7 => ?_) (fun c_7 => ?_)
      · have hw := hc_7f (fun q => c_7 ((k_c0 _ _).mpr q))
        clear hc_7t hc_7f
        refine lv_aload_n hx hb dX12_nameOf_50 rfl (lv_at hl 0 rfl) ?_
        refine va_get (D := D) (ci := 11) (v := .long (ms_word S_6)) (C := RX12) (T := TX12) (N := 31) hx hb hts hin hown hK hP 0 rfl rfl 11 (by decide) w126 (fun _ h9 => h9) rfl dX12_nameOf_51 ?_
        refine lv_bipush (v := 103) hx hb dX12_nameOf_54 (by decide) ?_
        refine lv_bipush (v := 114) hx hb dX12_nameOf_56 (by decide) ?_
        refine lv_bipush (v := 105) hx hb dX12_nameOf_58 (by decide) ?_
        refine lv_bipush (v := 101) hx hb dX12_nameOf_60 (by decide) ?_
        refine lv_bipush (v := 102) hx hb dX12_nameOf_62 (by decide) ?_
        refine k_callSl (As := [.int 103, .int 114, .int 105, .int 101, .int 102]) (rest := [.long (ms_word S_6)]) ⟨hx, hb, hml, hown, hts⟩ (cM_w5 l D h cy _ _ _ _ _ _ _ hw) (va_cwS 5 hts gX12_nameOf_X12_w5 rfl rfl rfl (by decide +kernel) ⟨Nat.le_of_ble_eq_true rfl, Nat.le_of_ble_eq_true rfl⟩) hK hP hD hS hA rfl hl.1 rfl (Nat.le_of_ble_eq_true rfl) dX12_nameOf_64 ⟨Nat.zero_le _, Nat.zero_le _⟩ (fun r_8 S_9 H locs hw hP hD hS => ?_)
        refine W.lcmp hx hb dX12_nameOf_67 ?_
        obtain ⟨hc_10t, hc_10f⟩ := hw
        refine lv_if_ne (tgt := 73) hx hb dX12_nameOf_68 (by decide) (fun c_10 => ?_) (fun c_10 => ?_)
        · have hw := hc_10f (fun q => c_10 ((k_c0 _ _).mpr q))
          clear hc_10t hc_10f
          refine lv_aload_n hx hb dX12_nameOf_73 rfl (lv_at hl 0 rfl) ?_
          refine va_get (D := D) (ci := 11) (v := .long (ms_word S_9)) (C := RX12) (T := TX12) (N := 31) hx hb hts hin hown hK hP 0 rfl rfl 11 (by decide) w126 (fun _ h9 => h9) rfl dX12_nameOf_74 ?_
          refine lv_bipush (v := 109) hx hb dX12_nameOf_77 (by decide) ?_
          refine lv_bipush (v := 111) hx hb dX12_nameOf_79 (by decide) ?_
          refine lv_bipush (v := 111) hx hb dX12_nameOf_81 (by decide) ?_
          refine lv_bipush (v := 100) hx hb dX12_nameOf_83 (by decide) ?_
          refine k_callSl (As := [.int 109, .int 111, .int 111, .int 100]) (rest := [.long (ms_word S_9)]) ⟨hx, hb, hml, hown, hts⟩ (cM_w4 l D h cy _ _ _ _ _ _ hw) (va_cwS 4 hts gX12_nameOf_X12_w4 rfl rfl rfl (by decide +kernel) ⟨Nat.le_of_ble_eq_true rfl, Nat.le_of_ble_eq_true rfl⟩) hK hP hD hS hA rfl hl.1 rfl (Nat.le_of_ble_eq_true rfl) dX12_nameOf_85 ⟨Nat.zero_le _, Nat.zero_le _⟩ (fun r_11 S_12 H locs hw hP hD hS => ?_)
          refine W.lcmp hx hb dX12_nameOf_88 ?_
          obtain ⟨hc_13t, hc_13f⟩ := hw
          refine lv_if_ne (tgt := 94) hx hb dX12_nameOf_89 (by decide) (fun c_13 => ?_) (fun c_13 => ?_)
          · have hw := hc_13f (fun q => c_13 ((k_c0 _ _).mpr q))
            clear hc_13t hc_13f
            refine lv_aload_n hx hb dX12_nameOf_94 rfl (lv_at hl 0 rfl) ?_
            refine k_callVi (As := []) (rest := []) ⟨hx, hb, hml, hown, hts⟩ (cM_isLaughed l D h cy _ _ hw) (cwV 0 hts gX12_nameOf_X12_isLaughed rfl rfl rfl (by decide +kernel) ⟨Nat.le_of_ble_eq_true rfl, Nat.le_of_ble_eq_true rfl⟩) (va_recv hK hP (ci := 11) (q0 := 0) rfl rfl) hK hP hD hS hA rfl hl.1 rfl (Nat.le_of_ble_eq_true rfl) dX12_nameOf_95 ⟨Nat.zero_le _, Nat.zero_le _⟩ (fun r_14 S_15 H locs hw hP hD hS => ?_)
            obtain ⟨hc_16t, hc_16f⟩ := hw
            refine lv_if_eq (tgt := 103) hx hb dX12_nameOf_98 (by decide) (fun c_16 => ?_) (fun c_16 => ?_)
            · have hw := hc_16t c_16
              clear hc_16t hc_16f
              refine lv_aload_n hx hb dX12_nameOf_103 rfl (lv_at hl 0 rfl) ?_
              refine va_get (D := D) (ci := 11) (v := .long (ms_word S_15)) (C := RX12) (T := TX12) (N := 31) hx hb hts hin hown hK hP 0 rfl rfl 11 (by decide) w126 (fun _ h9 => h9) rfl dX12_nameOf_104 ?_
              refine lv_bipush (v := 104) hx hb dX12_nameOf_107 (by decide) ?_
              refine lv_bipush (v := 111) hx hb dX12_nameOf_109 (by decide) ?_
              refine lv_bipush (v := 117) hx hb dX12_nameOf_111 (by decide) ?_
              refine lv_bipush (v := 115) hx hb dX12_nameOf_113 (by decide) ?_
              refine lv_bipush (v := 101) hx hb dX12_nameOf_115 (by decide) ?_
              refine k_callSl (As := [.int 104, .int 111, .int 117, .int 115, .int 101]) (rest := [.long (ms_word S_15)]) ⟨hx, hb, hml, hown, hts⟩ (cM_w5 l D h cy _ _ _ _ _ _ _ hw) (va_cwS 5 hts gX12_nameOf_X12_w5 rfl rfl rfl (by decide +kernel) ⟨Nat.le_of_ble_eq_true rfl, Nat.le_of_ble_eq_true rfl⟩) hK hP hD hS hA rfl hl.1 rfl (Nat.le_of_ble_eq_true rfl) dX12_nameOf_117 ⟨Nat.zero_le _, Nat.zero_le _⟩ (fun r_17 S_18 H locs hw hP hD hS => ?_)
              refine W.lcmp hx hb dX12_nameOf_120 ?_
              obtain ⟨hc_19t, hc_19f⟩ := hw
              refine lv_if_ne (tgt := 126) hx hb dX12_nameOf_121 (by decide) (fun c_19 => ?_) (fun c_19 => ?_)
              · have hw := hc_19f (fun q => c_19 ((k_c0 _ _).mpr q))
                clear hc_19t hc_19f
                refine lv_aload_n hx hb dX12_nameOf_126 rfl (lv_at hl 0 rfl) ?_
                refine va_get (D := D) (ci := 11) (v := .long (ms_word S_18)) (C := RX12) (T := TX12) (N := 31) hx hb hts hin hown hK hP 0 rfl rfl 11 (by decide) w126 (fun _ h9 => h9) rfl dX12_nameOf_127 ?_
                refine lv_bipush (v := 115) hx hb dX12_nameOf_130 (by decide) ?_
                refine lv_bipush (v := 107) hx hb dX12_nameOf_132 (by decide) ?_
                refine lv_bipush (v := 105) hx hb dX12_nameOf_134 (by decide) ?_
                refine lv_bipush (v := 108) hx hb dX12_nameOf_136 (by decide) ?_
                refine lv_bipush (v := 108) hx hb dX12_nameOf_138 (by decide) ?_
                refine k_callSl (As := [.int 115, .int 107, .int 105, .int 108, .int 108]) (rest := [.long (ms_word S_18)]) ⟨hx, hb, hml, hown, hts⟩ (cM_w5 l D h cy _ _ _ _ _ _ _ hw) (va_cwS 5 hts gX12_nameOf_X12_w5 rfl rfl rfl (by decide +kernel) ⟨Nat.le_of_ble_eq_true rfl, Nat.le_of_ble_eq_true rfl⟩) hK hP hD hS hA rfl hl.1 rfl (Nat.le_of_ble_eq_true rfl) dX12_nameOf_140 ⟨Nat.zero_le _, Nat.zero_le _⟩ (fun r_20 S_21 H locs hw hP hD hS => ?_)
                refine W.lcmp hx hb dX12_nameOf_143 ?_
                obtain ⟨hc_22t, hc_22f⟩ := hw
                refine lv_if_ne (tgt := 150) hx hb dX12_nameOf_144 (by decide) (fun c_22 => ?_) (fun c_22 => ?_)
                · have hw := hc_22f (fun q => c_22 ((k_c0 _ _).mpr q))
                  clear hc_22t hc_22f
                  refine lv_aload_n hx hb dX12_nameOf_150 rfl (lv_at hl 0 rfl) ?_
                  refine va_get (D := D) (ci := 11) (v := .long (ms_word S_21)) (C := RX12) (T := TX12) (N := 31) hx hb hts hin hown hK hP 0 rfl rfl 11 (by decide) w126 (fun _ h9 => h9) rfl dX12_nameOf_151 ?_
                  refine lv_bipush (v := 97) hx hb dX12_nameOf_154 (by decide) ?_
                  refine lv_bipush (v := 103) hx hb dX12_nameOf_156 (by decide) ?_
                  refine lv_bipush (v := 101) hx hb dX12_nameOf_158 (by decide) ?_
                  refine k_callSl (As := [.int 97, .int 103, .int 101]) (rest := [.long (ms_word S_21)]) ⟨hx, hb, hml, hown, hts⟩ (cM_w3 l D h cy _ _ _ _ _ hw) (va_cwS 3 hts gX12_nameOf_X12_w3 rfl rfl rfl (by decide +kernel) ⟨Nat.le_of_ble_eq_true rfl, Nat.le_of_ble_eq_true rfl⟩) hK hP hD hS hA rfl hl.1 rfl (Nat.le_of_ble_eq_true rfl) dX12_nameOf_160 ⟨Nat.zero_le _, Nat.zero_le _⟩ (fun r_23 S_24 H locs hw hP hD hS => ?_)
                  refine W.lcmp hx hb dX12_nameOf_163 ?_
                  obtain ⟨hc_25t, hc_25f⟩ := hw
                  refine lv_if_ne (tgt := 170) hx hb dX12_nameOf_164 (by decide) (fun c_25 => ?_) (fun c_25 => ?_)
                  · have hw := hc_25f (fun q => c_25 ((k_c0 _ _).mpr q))
                    clear hc_25t hc_25f
                    refine lv_aload_n hx hb dX12_nameOf_170 rfl (lv_at hl 0 rfl) ?_
                    refine va_get (D := D) (ci := 11) (v := .long (ms_word S_24)) (C := RX12) (T := TX12) (N := 31) hx hb hts hin hown hK hP 0 rfl rfl 11 (by decide) w126 (fun _ h9 => h9) rfl dX12_nameOf_171 ?_
                    refine lv_bipush (v := 116) hx hb dX12_nameOf_174 (by decide) ?_
                    refine lv_bipush (v := 105) hx hb dX12_nameOf_176 (by decide) ?_
                    refine lv_bipush (v := 114) hx hb dX12_nameOf_178 (by decide) ?_
                    refine lv_bipush (v := 101) hx hb dX12_nameOf_180 (by decide) ?_
                    refine lv_bipush (v := 100) hx hb dX12_nameOf_182 (by decide) ?_
                    refine k_callSl (As := [.int 116, .int 105, .int 114, .int 101, .int 100]) (rest := [.long (ms_word S_24)]) ⟨hx, hb, hml, hown, hts⟩ (cM_w5 l D h cy _ _ _ _ _ _ _ hw) (va_cwS 5 hts gX12_nameOf_X12_w5 rfl rfl rfl (by decide +kernel) ⟨Nat.le_of_ble_eq_true rfl, Nat.le_of_ble_eq_true rfl⟩) hK hP hD hS hA rfl hl.1 rfl (Nat.le_of_ble_eq_true rfl) dX12_nameOf_184 ⟨Nat.zero_le _, Nat.zero_le _⟩ (fun r_26 S_27 H locs hw hP hD hS => ?_)
                    refine W.lcmp hx hb dX12_nameOf_187 ?_
                    obtain ⟨hc_28t, hc_28f⟩ := hw
                    refine lv_if_ne (tgt := 194) hx hb dX12_nameOf_188 (by decide) (fun c_28 => ?_) (fun c_28 => ?_)
                    · have hw := hc_28f (fun q => c_28 ((k_c0 _ _).mpr q))
                      clear hc_28t hc_28f
                      refine lv_aload_n hx hb dX12_nameOf_194 rfl (lv_at hl 0 rfl) ?_
                      refine va_get (D := D) (ci := 11) (v := .long (ms_word S_27)) (C := RX12) (T := TX12) (N := 31) hx hb hts hin hown hK hP 0 rfl rfl 11 (by decide) w126 (fun _ h9 => h9) rfl dX12_nameOf_195 ?_
                      refine lv_bipush (v := 102) hx hb dX12_nameOf_198 (by decide) ?_
                      refine lv_bipush (v := 97) hx hb dX12_nameOf_200 (by decide) ?_
                      refine lv_bipush (v := 108) hx hb dX12_nameOf_202 (by decide) ?_
                      refine lv_bipush (v := 108) hx hb dX12_nameOf_204 (by decide) ?_
                      refine k_callSl (As := [.int 102, .int 97, .int 108, .int 108]) (rest := [.long (ms_word S_27)]) ⟨hx, hb, hml, hown, hts⟩ (cM_w4 l D h cy _ _ _ _ _ _ hw) (va_cwS 4 hts gX12_nameOf_X12_w4 rfl rfl rfl (by decide +kernel) ⟨Nat.le_of_ble_eq_true rfl, Nat.le_of_ble_eq_true rfl⟩) hK hP hD hS hA rfl hl.1 rfl (Nat.le_of_ble_eq_true rfl) dX12_nameOf_206 ⟨Nat.zero_le _, Nat.zero_le _⟩ (fun r_29 S_30 H locs hw hP hD hS => ?_)
                      refine W.lcmp hx hb dX12_nameOf_209 ?_
                      obtain ⟨hc_31t, hc_31f⟩ := hw
                      refine lv_if_ne (tgt := 216) hx hb dX12_nameOf_210 (by decide) (fun c_31 => ?_) (fun c_31 => ?_)
                      · have hw := hc_31f (fun q => c_31 ((k_c0 _ _).mpr q))
                        clear hc_31t hc_31f
                        refine lv_aload_n hx hb dX12_nameOf_216 rfl (lv_at hl 0 rfl) ?_
                        refine va_get (D := D) (ci := 11) (v := .long (ms_word S_30)) (C := RX12) (T := TX12) (N := 31) hx hb hts hin hown hK hP 0 rfl rfl 11 (by decide) w126 (fun _ h9 => h9) rfl dX12_nameOf_217 ?_
                        refine lv_bipush (v := 119) hx hb dX12_nameOf_220 (by decide) ?_
                        refine lv_bipush (v := 104) hx hb dX12_nameOf_222 (by decide) ?_
                        refine lv_bipush (v := 111) hx hb dX12_nameOf_224 (by decide) ?_
                        refine k_callSl (As := [.int 119, .int 104, .int 111]) (rest := [.long (ms_word S_30)]) ⟨hx, hb, hml, hown, hts⟩ (cM_w3 l D h cy _ _ _ _ _ hw) (va_cwS 3 hts gX12_nameOf_X12_w3 rfl rfl rfl (by decide +kernel) ⟨Nat.le_of_ble_eq_true rfl, Nat.le_of_ble_eq_true rfl⟩) hK hP hD hS hA rfl hl.1 rfl (Nat.le_of_ble_eq_true rfl) dX12_nameOf_226 ⟨Nat.zero_le _, Nat.zero_le _⟩ (fun r_32 S_33 H locs hw hP hD hS => ?_)
                        refine W.lcmp hx hb dX12_nameOf_229 ?_
                        obtain ⟨hc_34t, hc_34f⟩ := hw
                        refine lv_if_ne (tgt := 238) hx hb dX12_nameOf_230 (by decide) (fun c_34 => ?_) (fun c_34 => ?_)
                        · have hw := hc_34f (fun q => c_34 ((k_c0 _ _).mpr q))
                          clear hc_34t hc_34f
                          refine lv_aload_n hx hb dX12_nameOf_238 rfl (lv_at hl 0 rfl) ?_
                          refine va_get (D := D) (ci := 11) (v := .long (ms_word S_33)) (C := RX12) (T := TX12) (N := 31) hx hb hts hin hown hK hP 0 rfl rfl 11 (by decide) w126 (fun _ h9 => h9) rfl dX12_nameOf_239 ?_
                          refine lv_bipush (v := 116) hx hb dX12_nameOf_242 (by decide) ?_
                          refine lv_bipush (v := 104) hx hb dX12_nameOf_244 (by decide) ?_
                          refine lv_bipush (v := 101) hx hb dX12_nameOf_246 (by decide) ?_
                          refine lv_bipush (v := 114) hx hb dX12_nameOf_248 (by decide) ?_
                          refine lv_bipush (v := 101) hx hb dX12_nameOf_250 (by decide) ?_
                          refine k_callSl (As := [.int 116, .int 104, .int 101, .int 114, .int 101]) (rest := [.long (ms_word S_33)]) ⟨hx, hb, hml, hown, hts⟩ (cM_w5 l D h cy _ _ _ _ _ _ _ hw) (va_cwS 5 hts gX12_nameOf_X12_w5 rfl rfl rfl (by decide +kernel) ⟨Nat.le_of_ble_eq_true rfl, Nat.le_of_ble_eq_true rfl⟩) hK hP hD hS hA rfl hl.1 rfl (Nat.le_of_ble_eq_true rfl) dX12_nameOf_252 ⟨Nat.zero_le _, Nat.zero_le _⟩ (fun r_35 S_36 H locs hw hP hD hS => ?_)
                          refine W.lcmp hx hb dX12_nameOf_255 ?_
                          obtain ⟨hc_37t, hc_37f⟩ := hw
                          refine lv_if_ne (tgt := 264) hx hb dX12_nameOf_256 (by decide) (fun c_37 => ?_) (fun c_37 => ?_)
                          · have hw := hc_37f (fun q => c_37 ((k_c0 _ _).mpr q))
                            clear hc_37t hc_37f
                            refine lv_iconst (v := (-1)) hx hb dX12_nameOf_264 (by decide) ?_
                            exact W.iret (v := (-1)) hx hb hr (fun t ht hW => ⟨⟨(-1), S_36, rfl, hw, by rw [ht]; exact hP, va_K.moved hW.alike hK, hD⟩, hS.F ht⟩) hS.2.2 dX12_nameOf_265
                          · have hw := hc_37t ((k_c0 _ _).mp c_37)
                            clear hc_37t hc_37f
                            refine lv_bipush (v := 11) hx hb dX12_nameOf_259 (by decide) ?_
                            refine lv_goto (tgt := 265) hx hb dX12_nameOf_261 (by decide) ?_
                            exact W.iret (v := 11) hx hb hr (fun t ht hW => ⟨⟨11, S_36, rfl, hw, by rw [ht]; exact hP, va_K.moved hW.alike hK, hD⟩, hS.F ht⟩) hS.2.2 dX12_nameOf_265
                        · have hw := hc_34t ((k_c0 _ _).mp c_34)
                          clear hc_34t hc_34f
                          refine lv_bipush (v := 10) hx hb dX12_nameOf_233 (by decide) ?_
                          refine lv_goto (tgt := 265) hx hb dX12_nameOf_235 (by decide) ?_
                          exact W.iret (v := 10) hx hb hr (fun t ht hW => ⟨⟨10, S_33, rfl, hw, by rw [ht]; exact hP, va_K.moved hW.alike hK, hD⟩, hS.F ht⟩) hS.2.2 dX12_nameOf_265
                      · have hw := hc_31t ((k_c0 _ _).mp c_31)
                        clear hc_31t hc_31f
                        refine lv_bipush (v := 9) hx hb dX12_nameOf_213 (by decide) ?_
                        exact W.iret (v := 9) hx hb hr (fun t ht hW => ⟨⟨9, S_30, rfl, hw, by rw [ht]; exact hP, va_K.moved hW.alike hK, hD⟩, hS.F ht⟩) hS.2.2 dX12_nameOf_215
                    · have hw := hc_28t ((k_c0 _ _).mp c_28)
                      clear hc_28t hc_28f
                      refine lv_bipush (v := 8) hx hb dX12_nameOf_191 (by decide) ?_
                      exact W.iret (v := 8) hx hb hr (fun t ht hW => ⟨⟨8, S_27, rfl, hw, by rw [ht]; exact hP, va_K.moved hW.alike hK, hD⟩, hS.F ht⟩) hS.2.2 dX12_nameOf_193
                  · have hw := hc_25t ((k_c0 _ _).mp c_25)
                    clear hc_25t hc_25f
                    refine lv_bipush (v := 7) hx hb dX12_nameOf_167 (by decide) ?_
                    exact W.iret (v := 7) hx hb hr (fun t ht hW => ⟨⟨7, S_24, rfl, hw, by rw [ht]; exact hP, va_K.moved hW.alike hK, hD⟩, hS.F ht⟩) hS.2.2 dX12_nameOf_169
                · have hw := hc_22t ((k_c0 _ _).mp c_22)
                  clear hc_22t hc_22f
                  refine lv_bipush (v := 6) hx hb dX12_nameOf_147 (by decide) ?_
                  exact W.iret (v := 6) hx hb hr (fun t ht hW => ⟨⟨6, S_21, rfl, hw, by rw [ht]; exact hP, va_K.moved hW.alike hK, hD⟩, hS.F ht⟩) hS.2.2 dX12_nameOf_149
              · have hw := hc_19t ((k_c0 _ _).mp c_19)
                clear hc_19t hc_19f
                refine lv_iconst (v := 5) hx hb dX12_nameOf_124 (by decide) ?_
                exact W.iret (v := 5) hx hb hr (fun t ht hW => ⟨⟨5, S_18, rfl, hw, by rw [ht]; exact hP, va_K.moved hW.alike hK, hD⟩, hS.F ht⟩) hS.2.2 dX12_nameOf_125
            · have hw := hc_16f c_16
              clear hc_16t hc_16f
              refine lv_iconst (v := 4) hx hb dX12_nameOf_101 (by decide) ?_
              exact W.iret (v := 4) hx hb hr (fun t ht hW => ⟨⟨4, S_15, rfl, hw, by rw [ht]; exact hP, va_K.moved hW.alike hK, hD⟩, hS.F ht⟩) hS.2.2 dX12_nameOf_102
          · have hw := hc_13t ((k_c0 _ _).mp c_13)
            clear hc_13t hc_13f
            refine lv_iconst (v := 3) hx hb dX12_nameOf_92 (by decide) ?_
            exact W.iret (v := 3) hx hb hr (fun t ht hW => ⟨⟨3, S_12, rfl, hw, by rw [ht]; exact hP, va_K.moved hW.alike hK, hD⟩, hS.F ht⟩) hS.2.2 dX12_nameOf_93
        · have hw := hc_10t ((k_c0 _ _).mp c_10)
          clear hc_10t hc_10f
          refine lv_iconst (v := 2) hx hb dX12_nameOf_71 (by decide) ?_
          exact W.iret (v := 2) hx hb hr (fun t ht hW => ⟨⟨2, S_9, rfl, hw, by rw [ht]; exact hP, va_K.moved hW.alike hK, hD⟩, hS.F ht⟩) hS.2.2 dX12_nameOf_72
      · have hw := hc_7t ((k_c0 _ _).mp c_7)
        clear hc_7t hc_7f
        refine lv_iconst (v := 1) hx hb dX12_nameOf_48 (by decide) ?_
        exact W.iret (v := 1) hx hb hr (fun t ht hW => ⟨⟨1, S_6, rfl, hw, by rw [ht]; exact hP, va_K.moved hW.alike hK, hD⟩, hS.F ht⟩) hS.2.2 dX12_nameOf_49
    · have hw := hc_4t ((k_c0 _ _).mp c_4)
      clear hc_4t hc_4f
      refine lv_iconst (v := 0) hx hb dX12_nameOf_27 (by decide) ?_
      exact W.iret (v := 0) hx hb hr (fun t ht hW => ⟨⟨0, S_3, rfl, hw, by rw [ht]; exact hP, va_K.moved hW.alike hK, hD⟩, hS.F ht⟩) hS.2.2 dX12_nameOf_28
  · have hw := hc_1f c_1
    clear hc_1t hc_1f
    refine lv_iconst (v := (-1)) hx hb dX12_nameOf_8 (by decide) ?_
    exact W.iret (v := (-1)) hx hb hr (fun t ht hW => ⟨⟨(-1), S, rfl, hw, by rw [ht]; exact hP, va_K.moved hW.alike hK, hD⟩, hS.F ht⟩) hS.2.2 dX12_nameOf_9
