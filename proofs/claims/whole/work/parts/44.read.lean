/-! a text is made: Arrays.copyOf, Text's constructor, the reader's tail -/
theorem k_cyeq {D : va_G} {cl : List vw_C} {tys : List (ClassId × FieldType)} {U : State} {i j : Nat} {c1 c2 : ClassId} (hK : va_K D cl tys U) (hi : tys[i]? = some (c1, .int)) (hj : tys[j]? = some (c2, .int)) : c1 = c2 := Option.some.inj ((va_nm_int (hK.2 i _ hi).2).symm.trans (va_nm_int (hK.2 j _ hj).2))
abbrev e_MqA {σ : Type} (E : (Nat → Prop) → State → Prop) (l : Launch) (y : MethodName) (ws : List Cond) (rm : Room) (D : va_G) (tys : List (ClassId × FieldType)) (wf : σ → va_W) (av : List Value) (S : σ) (post : Option Nat → σ → Prop) (mc ms : Nat) : Prop := ∀ sz : Nat, Met l y ws rm (va_Pc av (e_Pre E D tys wf S sz)) (va_Qq post (k_Post D tys wf (va_A (wf S) sz)) (va_A (wf S) sz)) mc ms (va_A (wf S) sz)
abbrev e_MiA {σ : Type} (E : (Nat → Prop) → State → Prop) (l : Launch) (y : MethodName) (ws : List Cond) (rm : Room) (D : va_G) (tys : List (ClassId × FieldType)) (wf : σ → va_W) (av : List Value) (S : σ) (post : Int32 → σ → Prop) (mc ms : Nat) : Prop := ∀ sz : Nat, Met l y ws rm (va_Pc av (e_Pre E D tys wf S sz)) (va_Qi post (k_Post D tys wf (va_A (wf S) sz)) (va_A (wf S) sz)) mc ms (va_A (wf S) sz)
abbrev r_Post (D : va_G) (tys : List (ClassId × FieldType)) (W0 : va_W) (cA : ClassId) (k : Nat) (A : Nat → Prop) : (Nat → Int32) → Nat → State → Prop := fun g b t => va_P D vwCl (W0 ++ [(b, .inl (cA, k, .inl g))]) t.heap ∧ va_K D vwCl tys t ∧ va_D A (W0 ++ [(b, .inl (cA, k, .inl g))])
set_option maxHeartbeats 4000000 in
theorem cA_copyOf (l : Launch) (D : va_G) (tys : List (ClassId × FieldType)) (W0 : va_W) (q0 t0 a : Nat) (cA : ClassId) (n : Nat) (f : Nat → Int32) (hq : W0[q0]? = some (a, .inl (cA, n, .inl f))) (ht : tys[t0]? = some (cA, .int)) (hn : n < 100000) (k : Nat) (hk : k ≤ n) (sz : Nat) : Met l yJ7_copyOf_59c91 wsJ7_copyOf_59c91 { frames := 1, cells := 1, slots := n, locals := 60 } (va_Pc [.ref a, .int (nI k)] (e_Pre clE D tys (fun _ : Unit => W0) () sz)) (va_Qr (fun g : Nat → Int32 => ∀ j, j < k → g j = f j) (r_Post D tys W0 cA k (va_A W0 sz)) (va_A W0 sz)) 1 n (va_A W0 sz) := by
  refine Met.ofW (cc := cJ7_copyOf_59c91) (maxL := 3) (ret := (some (.array .int))) (by decide) rfl ?_
  intro p e s m args below meth c s₁ B hml hv
  obtain ⟨rfl, hsz, hP, hK, hD0, hs⟩ := hv
  have hx := B.exec
  have hb := B.bytes
  have hr := B.returns
  have hlocks := B.notSynchronized
  have hts := atoms_spec (ws := wsJ7_copyOf_59c91) B.pre
  have hown : s.vm.findClass RJ7 = some m.cls := findClass_of_methodNamed B.named
  subst hsz
  have hD := hD0.self (sz := s.heap.size)
  generalize hAe : va_A W0 s.heap.size = A at hD hs ⊢
  have hA : ∀ q : Nat, s.heap.size ≤ q → A q := fun q h => by rw [← hAe]; exact Or.inr h
  have hS : va_S A s.heap s.heap [] := va_S.rf
  have hl := lv_entry ([.ref a, .int (nI k)]) (n := 3) (Nat.le_of_ble_eq_true rfl)
  rw [lg_entry_eq]
  generalize (lg_sl ([.ref a, .int (nI k)]) ++ List.replicate (3 - (lg_sl ([.ref a, .int (nI k)])).length) Slot.unset).toArray = ls at hl ⊢
  have hl : lv_has ls 3 [(0, .ref a), (1, .int (nI k))] := hl
  refine lv_iload_n hx hb dJ7_copyOf_59c91_0 rfl (lv_at hl 1 rfl) ?_
  refine lv_aload_n hx hb dJ7_copyOf_59c91_1 rfl (lv_at hl 0 rfl) ?_
  refine va_alen (v := nI n) hx hb hK hP q0 t0 hq ht rfl dJ7_copyOf_59c91_2 ?_
  refine lv_icmp_ne (tgt := 14) hx hb dJ7_copyOf_59c91_3 (by decide) (fun c1 => ?_) (fun c1 => ?_)
  · have hkn : k < n := by
      rcases Nat.lt_or_ge k n with h | h
      · exact h
      · exact absurd (by rw [show k = n by omega]) c1
    refine lv_iload_n hx hb dJ7_copyOf_59c91_14 rfl (lv_at hl 1 rfl) ?_
    refine va_newa (atype := .int) (ty := .int) (a0 := (k, .inl (fun _ => 0))) hx hb (hts (.arrayClass .int) (List.mem_of_getElem? (i := 7) rfl)) rfl hK hP hD hS hA (fun _ => rfl) (nI_pos (by omega)) (nI_clamp (by omega)) (by show k * 4 ≤ 536870912; omega) (Nat.le_of_ble_eq_true rfl) (by show 0 + k ≤ n; omega) dJ7_copyOf_59c91_15 (fun q cB H hK2 hP hD hS => ?_)
    have hcB : cB = cA := k_cyeq (i := tys.length) (j := t0) hK2 (by simp) (by rw [List.getElem?_append_left (List.getElem?_eq_some_iff.mp ht).1]; exact ht)
    subst hcB
    have hq2 : ∀ y : Nat × va_E, (W0 ++ [y])[q0]? = some (a, .inl (cB, n, .inl f)) := fun y => by rw [List.getElem?_append_left (List.getElem?_eq_some_iff.mp hq).1]; exact hq
    refine lv_astore_n (lv' := [(2, .ref q), (0, .ref a), (1, .int (nI k))]) hx hb dJ7_copyOf_59c91_17 rfl hl (by decide) rfl (fun ls hl => ?_)
    refine lv_aload_n hx hb dJ7_copyOf_59c91_18 rfl (lv_at hl 1 rfl) ?_
    refine lv_iconst (v := 0) hx hb dJ7_copyOf_59c91_19 (by decide) ?_
    refine lv_aload_n hx hb dJ7_copyOf_59c91_20 rfl (lv_at hl 0 rfl) ?_
    refine lv_iconst (v := 0) hx hb dJ7_copyOf_59c91_21 (by decide) ?_
    refine lv_aload_n hx hb dJ7_copyOf_59c91_22 rfl (lv_at hl 1 rfl) ?_
    refine va_alen (v := nI n) hx hb hK hP q0 t0 (hq2 _) ht rfl dJ7_copyOf_59c91_23 ?_
    refine lv_iload_n hx hb dJ7_copyOf_59c91_24 rfl (lv_at hl 2 rfl) ?_
    refine va_mmin (own := RJ7) (index := 304) hx hb (hml.trans hl.1.symm) hown (hts (.methodLink RJ7 304 Lib.Math.min.name) (List.mem_of_getElem? (i := 8) rfl)) (hts (.static Lib.Math.min.name) (List.mem_of_getElem? (i := 9) rfl)) (hts (.initialized "java/lang/Math") (List.mem_of_getElem? (i := 10) rfl)) (hts (.code Lib.Math.min.name Lib.Math.min.code 2 (some .int)) (List.mem_of_getElem? (i := 11) rfl)) (Nat.le_of_ble_eq_true rfl) (Nat.le_of_ble_eq_true rfl) (Nat.le_of_ble_eq_true rfl) (by show 0 + k ≤ n; omega) dJ7_copyOf_59c91_25 ?_
    rw [if_pos (nI_lt hkn (by omega))]
    have e0 : (0 : Int32).toNatClampNeg = 0 := by decide
    refine va_copyi (own := RJ7) (index := 150) (ty := .int) (n1 := k) (c1 := cB) (f := f) (g := fun _ => 0) hx hb (hml.trans hl.1.symm) hown (hts (.methodLink RJ7 150 arraycopyName) (List.mem_of_getElem? (i := 12) rfl)) (hts (.native arraycopyName) (List.mem_of_getElem? (i := 13) rfl)) (hts (.static arraycopyName) (List.mem_of_getElem? (i := 14) rfl)) (hts (.initialized "java/lang/System") (List.mem_of_getElem? (i := 15) rfl)) hK hP hD hS q0 W0.length t0 t0 (hq2 _) (by simp) ht ht rfl (by decide) (by decide) (nI_pos (by omega)) (by rw [e0, nI_clamp (by omega)]; omega) (by rw [e0, nI_clamp (by omega)]; omega) (fun _ _ => rfl) (Nat.le_of_ble_eq_true rfl) (by show 0 + (nativeFrameWords "java/lang/System" "arraycopy" 5 + 11) ≤ 60; decide) dJ7_copyOf_59c91_28 (fun H locs hP hD hS => ?_)
    rw [e0, nI_clamp (by omega), List.set_append_right _ _ (Nat.le_refl _), Nat.sub_self] at hP hD
    refine lv_aload_n hx hb dJ7_copyOf_59c91_31 rfl (lv_at hl 0 rfl) ?_
    refine W.widen (k := 1) (n := n) (Nat.le_refl 1) (by omega) ?_
    exact W.aret (v := .ref q) hx hb hr (Or.inr ⟨_, rfl⟩) (Or.inr ⟨q, rfl⟩) (fun t ht2 hW => ⟨⟨va_cpy f (fun _ => 0) 0 0 k, q, rfl, fun j hj => by rw [pk_cpy_in (Nat.zero_le _) (by omega)]; simp, by rw [ht2]; exact hP, va_K.moved hW.alike hK, hD⟩, hS.F ht2⟩) hS.2.2 dJ7_copyOf_59c91_32
  · have hkn : k = n := (nI_eq (by omega) (by omega)).mp c1
    subst hkn
    refine lv_aload_n hx hb dJ7_copyOf_59c91_6 rfl (lv_at hl 0 rfl) ?_
    refine va_clone (own := RJ7) (ad := "[I") (index := 316) (ty := .int) hx hb (hml.trans hl.1.symm) hown (hts (.methodLink RJ7 316 ⟨"[I", "clone", "()Ljava/lang/Object;"⟩) (List.mem_of_getElem? (i := 1) rfl)) (hts (.sameMethod "[I" "java/lang/Object" "clone" "()Ljava/lang/Object;") (List.mem_of_getElem? (i := 2) rfl)) (hts (.native ⟨"java/lang/Object", "clone", "()Ljava/lang/Object;"⟩) (List.mem_of_getElem? (i := 3) rfl)) (hts (.instanceMethod ⟨"java/lang/Object", "clone", "()Ljava/lang/Object;"⟩) (List.mem_of_getElem? (i := 4) rfl)) (hts (.selects "[I" ⟨"[I", "clone", "()Ljava/lang/Object;"⟩ ⟨"java/lang/Object", "clone", "()Ljava/lang/Object;"⟩) (List.mem_of_getElem? (i := 5) rfl)) (hs.1.2.2.2.2.2.2.2.2.2.2.2.2.2.2.2.2.2.2.2.2.2.2.2.2.2.2.2.2.2.2.2.2) hK hP hD hS hA q0 t0 hq ht (va_nm_int (hK.2 t0 _ ht).2) (fun i v hv => va_fit (ty := .int) (F := fun j => .int (f j)) (fun _ _ => rfl) i v hv) (Nat.le_of_ble_eq_true rfl) (by show 0 + 14 ≤ 60; decide) (Nat.le_of_ble_eq_true rfl) (by show 0 + k ≤ k; omega) dJ7_copyOf_59c91_7 (fun q H hK2 hP hD hS => ?_)
    refine va_castA (own := RJ7) (nm := "[I") (index := 317) hx hb hown (hts (.classLink RJ7 317 "[I") (List.mem_of_getElem? (i := 6) rfl)) hP W0.length (cA := cA) (x := (k, .inl f)) (by simp) (va_nm_int (hK.2 t0 _ ht).2) dJ7_copyOf_59c91_10 ?_
    refine W.widen (k := 1) (n := k) (Nat.le_refl 1) (by show 0 + k ≤ k; omega) ?_
    exact W.aret (v := .ref q) hx hb hr (Or.inr ⟨_, rfl⟩) (Or.inr ⟨q, rfl⟩) (fun t ht2 hW => ⟨⟨f, q, rfl, fun _ _ => rfl, by rw [ht2]; exact hP, va_K.moved hW.alike hK, hD⟩, hS.F ht2⟩) hS.2.2 dJ7_copyOf_59c91_13
theorem k_mid {α : Type} (X : List α) (a b c d a' : α) : ((((X ++ [a]) ++ [b]) ++ [c]) ++ [d])[X.length]? = some a ∧ ((((X ++ [a]) ++ [b]) ++ [c]) ++ [d]).set X.length a' = X ++ [a', b, c, d] := by
  constructor
  · simp
  · simp [List.set_append]
theorem wC_push (h : Nat → Nat) (cy : Nat → ClassId) (S : CS) (q : Nat × TB) : wC h cy S ++ tbW (cy 36) q = wC h cy (cx_set_px S (cx_px S ++ [q])) := by
  have e : wC h cy (cx_set_px S (cx_px S ++ [q])) = wC h cy (cx_set_px S []) ++ (cx_px S ++ [q]).flatMap (tbW (cy 36)) := by
    show _ ++ _ = (_ ++ []) ++ _
    rw [List.append_nil]
    rfl
  have e2 : wC h cy S = wC h cy (cx_set_px S []) ++ (cx_px S).flatMap (tbW (cy 36)) := by
    show _ ++ _ = (_ ++ []) ++ _
    rw [List.append_nil]
    rfl
  rw [e, e2, List.flatMap_append, List.append_assoc]
  simp
def k_held (x lo hi : Int32) : Int32 := if hi < (if x < lo then lo else x) then hi else (if x < lo then lo else x)
set_option maxHeartbeats 4000000 in
theorem cA_held {σ : Type} (l : Launch) (D : va_G) (E : (Nat → Prop) → State → Prop) (tys : List (ClassId × FieldType)) (wf : σ → va_W) (S : σ) (x lo hi : Int32) (post : Int32 → σ → Prop) (hw : post (k_held x lo hi) S) : e_Mi E l yX11_held wsX11_held { frames := 0, cells := 0, slots := 0, locals := 0 } D tys wf [.int x, .int lo, .int hi] S post := by
  intro sz
  refine Met.ofW (cc := cX11_held) (maxL := 4) (ret := (some .int)) (by decide) rfl ?_
  intro p e s m args below meth c s₁ B hml hv
  obtain ⟨rfl, hsz, hP, hK, hD0, hs⟩ := hv
  have hx := B.exec
  have hb := B.bytes
  have hr := B.returns
  have hlocks := B.notSynchronized
  subst hsz
  have hD := hD0.self (sz := s.heap.size)
  generalize hAe : va_A (wf S) s.heap.size = A at hD ⊢
  have hS : va_S A s.heap s.heap [] := va_S.rf
  have hl := lv_entry ([.int x, .int lo, .int hi]) (n := 4) (Nat.le_of_ble_eq_true rfl)
  rw [lg_entry_eq]
  generalize (lg_sl ([.int x, .int lo, .int hi]) ++ List.replicate (4 - (lg_sl ([.int x, .int lo, .int hi])).length) Slot.unset).toArray = ls at hl ⊢
  have hl : lv_has ls 4 [(0, .int x), (1, .int lo), (2, .int hi)] := hl
  have tail : ∀ (y : Int32) (ls : Array Slot), (if x < lo then lo else x) = y → lv_has ls 4 [(0, .int x), (1, .int lo), (2, .int hi)] → W p l e (headSpec wsX11_held { frames := 0, cells := 0, slots := 0, locals := 0 }).room s m (([.int x, .int lo, .int hi] : List Value).toArray) below meth c s.heap [] 0 0 (MQ below (va_Qi post (k_Post D tys wf A) A) (([.int x, .int lo, .int hi] : List Value).toArray) s 0 0 A) (F0 m 10 ls [.int y]) := by
    intro y ls hy hl
    unfold k_held at hw
    rw [hy] at hw
    refine lv_istore_n (lv' := [(3, .int y), (0, .int x), (1, .int lo), (2, .int hi)]) hx hb dX11_held_10 rfl hl (by decide) rfl (fun ls hl => ?_)
    refine lv_iload_n hx hb dX11_held_11 rfl (lv_at hl 0 rfl) ?_
    refine lv_iload_n hx hb dX11_held_12 rfl (lv_at hl 3 rfl) ?_
    refine lv_icmp_le (tgt := 20) hx hb dX11_held_13 (by decide) (fun c1 => ?_) (fun c1 => ?_)
    · rw [if_neg (Int32.not_lt.mpr c1)] at hw
      refine lv_iload_n hx hb dX11_held_20 rfl (lv_at hl 0 rfl) ?_
      exact W.iret (v := y) hx hb hr (fun t ht hW => ⟨⟨y, S, rfl, hw, by rw [ht]; exact hP, va_K.moved hW.alike hK, hD⟩, hS.F ht⟩) hS.2.2 dX11_held_21
    · rw [if_pos (Int32.not_le.mp c1)] at hw
      refine lv_iload_n hx hb dX11_held_16 rfl (lv_at hl 3 rfl) ?_
      refine lv_goto (tgt := 21) hx hb dX11_held_17 (by decide) ?_
      exact W.iret (v := hi) hx hb hr (fun t ht hW => ⟨⟨hi, S, rfl, hw, by rw [ht]; exact hP, va_K.moved hW.alike hK, hD⟩, hS.F ht⟩) hS.2.2 dX11_held_21
  refine lv_iload_n hx hb dX11_held_0 rfl (lv_at hl 0 rfl) ?_
  refine lv_iload_n hx hb dX11_held_1 rfl (lv_at hl 1 rfl) ?_
  refine lv_icmp_ge (tgt := 9) hx hb dX11_held_2 (by decide) (fun c1 => ?_) (fun c1 => ?_)
  · refine lv_iload_n hx hb dX11_held_9 rfl (lv_at hl 0 rfl) ?_
    exact tail x ls (if_neg (Int32.not_lt.mpr c1)) hl
  · refine lv_iload_n hx hb dX11_held_5 rfl (lv_at hl 1 rfl) ?_
    refine lv_goto (tgt := 10) hx hb dX11_held_6 (by decide) ?_
    exact tail lo ls (if_pos (Int32.not_le.mp c1)) hl
set_option maxHeartbeats 4000000 in
theorem cA_Text (l : Launch) (D : va_G) (E : (Nat → Prop) → State → Prop) (tys : List (ClassId × FieldType)) (W0 : va_W) (q0 t : Nat) (n : Int32) (b1 b2 b3 : Nat) (hq : W0[q0]? = some (t, .inr (9, [.int 0, .null, .null, .null]))) (sz : Nat) : Met l yX9_init wsX9_init { frames := 1, cells := 0, slots := 0, locals := 20 } (va_Pc [.ref t, .int n, .ref b1, .ref b2, .ref b3] (e_Pre E D tys (fun _ : Unit => W0) () sz)) (va_Qv (fun _ : Unit => True) (fun _ t2 => va_P D vwCl (W0.set q0 (t, .inr (9, [.int n, .ref b1, .ref b2, .ref b3]))) t2.heap ∧ va_K D vwCl tys t2 ∧ va_D (va_A W0 sz) (W0.set q0 (t, .inr (9, [.int n, .ref b1, .ref b2, .ref b3])))) (va_A W0 sz)) 0 0 (va_A W0 sz) := by
  refine Met.ofW (cc := cX9_init) (maxL := 5) (ret := none) (by decide) rfl ?_
  intro p e s m args below meth c s₁ B hml hv
  obtain ⟨rfl, hsz, hP, hK, hD0, hs⟩ := hv
  have hx := B.exec
  have hb := B.bytes
  have hr := B.returns
  have hlocks := B.notSynchronized
  have hts := atoms_spec (ws := wsX9_init) B.pre
  have hown : s.vm.findClass RX9 = some m.cls := findClass_of_methodNamed B.named
  have hin2 : meth.name = "<init>" := (name_of_methodNamed B.named B.method).1
  subst hsz
  have hD := hD0.self (sz := s.heap.size)
  generalize hAe : va_A W0 s.heap.size = A at hD ⊢
  have hS : va_S A s.heap s.heap [] := va_S.rf
  have hlen : q0 < W0.length := (List.getElem?_eq_some_iff.mp hq).1
  have hg : ∀ y : Nat × va_E, (W0.set q0 y)[q0]? = some y := fun y => List.getElem?_set_self hlen
  have hin9 : ∀ w ∈ wsX90, w ∈ wsX9_init := fun _ h => List.mem_cons_of_mem _ (List.mem_append_right _ h)
  have hl := lv_entry ([.ref t, .int n, .ref b1, .ref b2, .ref b3]) (n := 5) (Nat.le_of_ble_eq_true rfl)
  rw [lg_entry_eq]
  generalize (lg_sl ([.ref t, .int n, .ref b1, .ref b2, .ref b3]) ++ List.replicate (5 - (lg_sl ([.ref t, .int n, .ref b1, .ref b2, .ref b3])).length) Slot.unset).toArray = ls at hl ⊢
  have hl : lv_has ls 5 [(0, .ref t), (1, .int n), (2, .ref b1), (3, .ref b2), (4, .ref b3)] := hl
  refine lv_aload_n hx hb dX9_init_0 rfl (lv_at hl 0 rfl) ?_
  refine W.objInit hx hb hown (hts (.methodLink RX9 1 objectInit) (List.mem_of_getElem? (i := 1) rfl)) (hts (.instanceMethod objectInit) (List.mem_of_getElem? (i := 2) rfl)) (hts (.code objectInit ⟨#[0xb1]⟩ 1 none) (List.mem_of_getElem? (i := 3) rfl)) rfl (by rw [hml]; exact hl.1) rfl dX9_init_1 (Nat.le_of_ble_eq_true rfl) (Nat.le_of_ble_eq_true rfl) ?_
  refine W.eq (g2 := F0 m 4 ls []) rfl ?_
  have hP : va_P D vwCl W0 s.heap := hP
  refine lv_aload_n hx hb dX9_init_4 rfl (lv_at hl 0 rfl) ?_
  refine lv_iload_n hx hb dX9_init_5 rfl (lv_at hl 1 rfl) ?_
  refine va_putF (D := D) (ci := 9) (v := .int n) (ty := .int) (C := RX9) (T := TX9) (N := 4) hx hb hts hin9 tyX9 tyX9_ok nmX9 hown hK hP hD hS q0 hq rfl 0 (by decide) (hts (.fieldLink RX9 7 "ClownsMourn$Text" "clauseCount" "I") (List.mem_of_getElem? (i := 4) rfl)) (fun _ h9 => h9) rfl hin2 rfl (tyX9_ok 0 (by decide)) rfl rfl (Nat.le_of_ble_eq_true rfl) dX9_init_6 (fun H locs hP hD hS => ?_)
  refine lv_aload_n hx hb dX9_init_9 rfl (lv_at hl 0 rfl) ?_
  refine lv_aload_n hx hb dX9_init_10 rfl (lv_at hl 2 rfl) ?_
  refine va_putF (D := D) (ci := 9) (v := .ref b1) (ty := .array .int) (C := RX9) (T := TX9) (N := 4) hx hb hts hin9 tyX9 tyX9_ok nmX9 hown hK hP hD hS q0 (hg _) rfl 1 (by decide) (hts (.fieldLink RX9 13 "ClownsMourn$Text" "clauses" "[I") (List.mem_of_getElem? (i := 5) rfl)) (fun _ h9 => h9) rfl hin2 rfl (tyX9_ok 1 (by decide)) rfl rfl (Nat.le_of_ble_eq_true rfl) dX9_init_11 (fun H locs hP hD hS => ?_)
  rw [List.set_set] at hP hD
  refine lv_aload_n hx hb dX9_init_14 rfl (lv_at hl 0 rfl) ?_
  refine lv_aload_n hx hb dX9_init_15 rfl (lv_at hl 3 rfl) ?_
  refine va_putF (D := D) (ci := 9) (v := .ref b2) (ty := .array .int) (C := RX9) (T := TX9) (N := 4) hx hb hts hin9 tyX9 tyX9_ok nmX9 hown hK hP hD hS q0 (hg _) rfl 2 (by decide) (hts (.fieldLink RX9 17 "ClownsMourn$Text" "code" "[I") (List.mem_of_getElem? (i := 6) rfl)) (fun _ h9 => h9) rfl hin2 rfl (tyX9_ok 2 (by decide)) rfl rfl (Nat.le_of_ble_eq_true rfl) dX9_init_16 (fun H locs hP hD hS => ?_)
  rw [List.set_set] at hP hD
  refine lv_aload_n hx hb dX9_init_19 rfl (lv_at hl 0 rfl) ?_
  refine lv_aload hx hb dX9_init_20 (lv_at hl 4 rfl) ?_
  refine va_putF (D := D) (ci := 9) (v := .ref b3) (ty := .array .int) (C := RX9) (T := TX9) (N := 4) hx hb hts hin9 tyX9 tyX9_ok nmX9 hown hK hP hD hS q0 (hg _) rfl 3 (by decide) (hts (.fieldLink RX9 20 "ClownsMourn$Text" "bounds" "[I") (List.mem_of_getElem? (i := 7) rfl)) (fun _ h9 => h9) rfl hin2 rfl (tyX9_ok 3 (by decide)) rfl rfl (Nat.le_of_ble_eq_true rfl) dX9_init_22 (fun H locs hP hD hS => ?_)
  rw [List.set_set] at hP hD
  exact W.vret hx hb hr (fun t2 ht hW => ⟨⟨(), rfl, trivial, by rw [ht]; exact hP, va_K.moved hW.alike hK, hD⟩, hS.F ht⟩) hS.2.2 dX9_init_25
def wC_X6_readTape_103 (post : Option Nat → CS → Prop) (t1 : Int32) (S : CS) : Prop := (∀ S_1 : CS, S_1 = (cx_set_r_lastPlace S t1) → (∀ S_2 : CS, S_2 = (cx_set_r_length S_1 0) → (((cx_r_fault S_2) = 0 → wC_X11_held ((cx_r_clauseCount S_2) * 4) 0 96 S_2 (fun r_4 S_5 => (∃ k1 : Nat, k1 ≤ 96 ∧ r_4 = nI k1 ∧ ∃ k2 : Nat, k2 ≤ 300 ∧ k_held (cx_r_codeLength S_5) 0 300 = nI k2 ∧ ∀ (t a1 a2 a3 : Nat) (g1 g2 : Nat → Int32), (∀ j, j < k1 → g1 j = cx_r_clauses S_5 j) → (∀ j, j < k2 → g2 j = cx_r_code S_5 j) → ∀ S9 : CS, S9 = cx_set_px S_5 (cx_px S_5 ++ [(t, ((cx_r_clauseCount S_5), (a1, a2, a3), (k1, g1), (k2, g2), (6, cx_r_bounds S_5)))]) → post (some t) S9))) ∧ (¬ ((cx_r_fault S_2) = 0) → post none S_2))))
def wC_X6_readTape_79 (post : Option Nat → CS → Prop) (S : CS) : Prop := (∀ S_1 : CS, S_1 = (cx_set_r_lastFault S (cx_r_fault S)) → (((cx_r_fault S_1) = 0 → wC_X6_readTape_103 post (-1) S_1) ∧ (¬ ((cx_r_fault S_1) = 0) → wC_X6_readTape_103 post (cx_r_start S_1) S_1)))
def wC_X6_readTape_47 (post : Option Nat → CS → Prop) : Nat → Int32 → CS → Prop
  | 0, _, _ => False
  | n + 1, x1, S => ((24 < x1 → wC_X6_readTape_79 post S) ∧ (¬ (24 < x1) → (((cx_r_fault S) = 0 → (((cx_r_token S) = 31 → wC_X6_readTape_79 post S) ∧ (¬ ((cx_r_token S) = 31) → wC_X6_readClause S (fun S_5 => wC_X6_readTape_47 post n (x1 + 1) S_5)))) ∧ (¬ ((cx_r_fault S) = 0) → wC_X6_readTape_79 post S))))
def wC_X6_readTape (S : CS) (post : Option Nat → CS → Prop) : Prop := (∀ S_1 : CS, S_1 = (cx_set_r_place S 0) → (∀ S_2 : CS, S_2 = (cx_set_r_fault S_1 0) → (∀ S_3 : CS, S_3 = (cx_set_r_clauseCount S_2 0) → (∀ S_4 : CS, S_4 = (cx_set_r_codeLength S_3 0) → (∀ S_5 : CS, S_5 = (cx_set_r_open S_4 0) → (∀ S_6 : CS, S_6 = (cx_set_r_bounds S_5 (k_fill 6 (cx_r_bounds S_5) 0)) → (∀ S_7 : CS, S_7 = (cx_set_r_clauses S_6 (k_fill 96 (cx_r_clauses S_6) 0)) → wC_X6_advance S_7 (fun S_9 => ∃ k_ : Nat, wC_X6_readTape_47 post k_ 0 S_9))))))))
set_option maxHeartbeats 4000000 in
set_option maxRecDepth 100000 in
theorem cC_X6_readTape (l : Launch) (D : va_G) (h : Nat → Nat) (cy : Nat → ClassId) (S : CS) (post : Option Nat → CS → Prop) (hw : wC_X6_readTape S post) : e_MqA clE l yX6_readTape wsX6_readTape { frames := 73, cells := 4, slots := 406, locals := 1603 } D (tyC cy) (wC h cy) [.ref (h 5)] S post 4 406 := by
  intro sz
  refine Met.ofW (cc := cX6_readTape) (maxL := 2) (ret := (some (.object "ClownsMourn$Text"))) (by decide) rfl ?_
  intro p e s m args below meth c s₁ B hml hv
  obtain ⟨rfl, hsz, hP, hK, hD0, hs⟩ := hv
  have hx := B.exec
  have hb := B.bytes
  have hr := B.returns
  have hts := atoms_spec (ws := wsX6_readTape) B.pre
  have hown : s.vm.findClass RX6 = some m.cls := findClass_of_methodNamed B.named
  have hlocks := B.notSynchronized
  subst hsz
  have hD := hD0.self (sz := s.heap.size)
  generalize hAe : va_A (wC h cy S) s.heap.size = A at hD hs ⊢
  have hA : ∀ q : Nat, s.heap.size ≤ q → A q := fun q h => by rw [← hAe]; exact Or.inr h
  have hS : va_S A s.heap s.heap [] := va_S.rf
  have hin6 : ∀ w ∈ wsX60, w ∈ wsX6_readTape := fun _ h => List.mem_cons_of_mem _ (List.mem_append_left _ (List.mem_append_right _ h))
  have hin9 : ∀ w ∈ wsX90, w ∈ wsX6_readTape := fun _ h => List.mem_cons_of_mem _ (List.mem_append_right _ h)
  have w15 := hts (.fieldLink RX6 15 "ClownsMourn$Reader" "lastFault" "I") (List.mem_of_getElem? (i := 9) rfl)
  have w18 := hts (.fieldLink RX6 18 "ClownsMourn$Reader" "lastPlace" "I") (List.mem_of_getElem? (i := 11) rfl)
  have w25 := hts (.fieldLink RX6 25 "ClownsMourn$Reader" "clauses" "[I") (List.mem_of_getElem? (i := 7) rfl)
  have w31 := hts (.fieldLink RX6 31 "ClownsMourn$Reader" "bounds" "[I") (List.mem_of_getElem? (i := 6) rfl)
  have w38 := hts (.fieldLink RX6 38 "ClownsMourn$Reader" "place" "I") (List.mem_of_getElem? (i := 1) rfl)
  have w41 := hts (.fieldLink RX6 41 "ClownsMourn$Reader" "fault" "I") (List.mem_of_getElem? (i := 2) rfl)
  have w44 := hts (.fieldLink RX6 44 "ClownsMourn$Reader" "clauseCount" "I") (List.mem_of_getElem? (i := 3) rfl)
  have w47 := hts (.fieldLink RX6 47 "ClownsMourn$Reader" "codeLength" "I") (List.mem_of_getElem? (i := 4) rfl)
  have w50 := hts (.fieldLink RX6 50 "ClownsMourn$Reader" "open" "I") (List.mem_of_getElem? (i := 5) rfl)
  have w62 := hts (.fieldLink RX6 62 "ClownsMourn$Reader" "token" "I") (List.mem_of_getElem? (i := 8) rfl)
  have w68 := hts (.fieldLink RX6 68 "ClownsMourn$Reader" "start" "I") (List.mem_of_getElem? (i := 10) rfl)
  have w9 := hts (.fieldLink RX6 9 "ClownsMourn$Reader" "length" "I") (List.mem_of_getElem? (i := 12) rfl)
  have wiX11 := hts (.initialized RX11) (List.mem_of_getElem? (i := 34) rfl)
  have wstheld := hts (.static yX11_held) (List.mem_of_getElem? (i := 189) rfl)
  have hl := lv_entry ([.ref (h 5)]) (n := 2) (Nat.le_of_ble_eq_true rfl)
  rw [lg_entry_eq]
  generalize (lg_sl ([.ref (h 5)]) ++ List.replicate (2 - (lg_sl ([.ref (h 5)])).length) Slot.unset).toArray = ls at hl ⊢
  have hl : lv_has ls 2 [(0, .ref (h 5))] := hl
  unfold wC_X6_readTape at hw
  clear hD0
  have J_103 : ∀ (t1 : Int32) (S : CS) (H : Heap) (locs : List Loc) (ls : Array Slot), wC_X6_readTape_103 post t1 S → va_P D vwCl (wC h cy S) H → va_D A (wC h cy S) → va_S A s.heap H locs → lv_has ls 2 [(0, .ref (h 5))] → W p l e (headSpec wsX6_readTape { frames := 73, cells := 4, slots := 406, locals := 1603 }).room s m (([.ref (h 5)] : List Value).toArray) below meth c H locs 0 0 (MQ below (va_Qq post (k_Post D (tyC cy) (wC h cy) A) A) (([.ref (h 5)] : List Value).toArray) s 4 406 A) (F0 m 103 ls [.int t1, .ref (h 5)]) := by
    intro t1 S H locs ls hw hP hD hS hl
    unfold wC_X6_readTape_103 at hw
    refine va_put (D := D) (ci := 6) (v := .int t1) (ty := .int) (C := RX6) (T := TX6) (N := 16) hx hb hts hin6 tyX6 tyX6_ok nmX6 hown hK hP hD hS 5 rfl rfl 2 (by decide) w18 (fun _ h9 => h9) rfl (tyX6_ok 2 (by decide)) rfl rfl (Nat.le_of_ble_eq_true rfl) dX6_readTape_103 (fun H locs hP hD hS => ?_)
    obtain ⟨S_1, eS_1⟩ : ∃ z : CS, z = (cx_set_r_lastPlace S t1) := ⟨_, rfl⟩
    replace hw := hw S_1 eS_1
    have hP : va_P D vwCl (wC h cy S_1) H := by rw [eS_1, ← wCp_r_lastPlace]; exact hP
    have hD : va_D A (wC h cy S_1) := by rw [eS_1, ← wCp_r_lastPlace]; exact hD
    refine lv_aload_n hx hb dX6_readTape_106 rfl (lv_at hl 0 rfl) ?_
    refine lv_iconst (v := 0) hx hb dX6_readTape_107 (by decide) ?_
    refine va_put (D := D) (ci := 6) (v := .int 0) (ty := .int) (C := RX6) (T := TX6) (N := 16) hx hb hts hin6 tyX6 tyX6_ok nmX6 hown hK hP hD hS 5 rfl rfl 0 (by decide) w9 (fun _ h9 => h9) rfl (tyX6_ok 0 (by decide)) rfl rfl (Nat.le_of_ble_eq_true rfl) dX6_readTape_108 (fun H locs hP hD hS => ?_)
    obtain ⟨S_2, eS_2⟩ : ∃ z : CS, z = (cx_set_r_length S_1 0) := ⟨_, rfl⟩
    replace hw := hw S_2 eS_2
    have hP : va_P D vwCl (wC h cy S_2) H := by rw [eS_2, ← wCp_r_length]; exact hP
    have hD : va_D A (wC h cy S_2) := by rw [eS_2, ← wCp_r_length]; exact hD
    refine lv_aload_n hx hb dX6_readTape_111 rfl (lv_at hl 0 rfl) ?_
    refine va_get (D := D) (ci := 6) (v := .int (cx_r_fault S_2)) (C := RX6) (T := TX6) (N := 16) hx hb hts hin6 hown hK hP 5 rfl rfl 13 (by decide) w41 (fun _ h9 => h9) rfl dX6_readTape_112 ?_
    obtain ⟨hc_3t, hc_3f⟩ := hw
    refine lv_if_eq (tgt := 120) hx hb dX6_readTape_115 (by decide) (fun c_3 => ?_) (fun c_3 => ?_)
    · have hw := hc_3t c_3
      clear hc_3t hc_3f
      refine lv_aload_n hx hb dX6_readTape_120 rfl (lv_at hl 0 rfl) ?_
      refine va_get (D := D) (ci := 6) (v := .int (cx_r_clauseCount S_2)) (C := RX6) (T := TX6) (N := 16) hx hb hts hin6 hown hK hP 5 rfl rfl 7 (by decide) w44 (fun _ h9 => h9) rfl dX6_readTape_121 ?_
      refine lv_iconst (v := 4) hx hb dX6_readTape_124 (by decide) ?_
      refine lv_imul hx hb dX6_readTape_125 ?_
      refine lv_iconst (v := 0) hx hb dX6_readTape_126 (by decide) ?_
      refine lv_aload_n hx hb dX6_readTape_127 rfl (lv_at hl 0 rfl) ?_
      refine va_get (D := D) (ci := 6) (v := .ref (h 37)) (C := RX6) (T := TX6) (N := 16) hx hb hts hin6 hown hK hP 5 rfl rfl 4 (by decide) w25 (fun _ h9 => h9) rfl dX6_readTape_128 ?_
      refine va_alen (v := 96) hx hb hK hP 37 25 rfl rfl (show Int32.ofNat 96 = 96 by decide) dX6_readTape_131 ?_
      refine e_callNi (As := [.int ((cx_r_clauseCount S_2) * 4), .int 0, .int 96]) (rest := []) clE_stable hs ⟨hx, hb, hml, hown, hts⟩ (cC_X11_held l D h cy _ _ _ _ _ hw) ⟨va_cnB 3 hts gX6_readTape_X11_held_n71 rfl rfl rfl hs.1.2.2.2.2.2.2.2.2.2.2.1 wiX11 (by decide +kernel) ⟨Nat.le_of_ble_eq_true rfl, Nat.le_of_ble_eq_true rfl⟩, wstheld, trivial⟩ hK hP hD hS hA rfl hl.1 rfl (Nat.le_of_ble_eq_true rfl) dX6_readTape_132 ⟨Nat.zero_le _, Nat.zero_le _⟩ (fun r_4 S_5 H locs hw hP hD hS => ?_)
      refine lv_istore_n (lv' := [(1, .int r_4), (0, .ref (h 5))]) hx hb dX6_readTape_135 rfl hl (by decide) rfl (fun ls hl => ?_)
      obtain ⟨k1, hk1, ek1, k2, hk2, ek2, hw⟩ := hw
      refine va_new (ci := 9) (fs := [.int 0, .null, .null, .null]) (C := RX9) (T := TX9) (N := 4) hx hb hts hin9 tyX9 tyX9_ok hown (hts (.classLink RX6 75 RX9) (List.mem_of_getElem? (i := 13) rfl)) (hts (.instantiable RX9 4) (List.mem_of_getElem? (i := 14) rfl)) (hts (.initialized RX9) (List.mem_of_getElem? (i := 15) rfl)) hK hP hD hS hA rfl (fun j hj => by rcases (show j = 0 ∨ j = 1 ∨ j = 2 ∨ j = 3 by omega) with rfl | rfl | rfl | rfl <;> rfl) (Nat.le_of_ble_eq_true rfl) (Nat.le_of_ble_eq_true rfl) dX6_readTape_136 (fun qt H hP hD hS => ?_)
      refine lv_dup hx hb dX6_readTape_139 rfl ?_
      refine lv_aload_n hx hb dX6_readTape_140 rfl (lv_at hl 1 rfl) ?_
      refine va_get (D := D) (ci := 6) (v := .int (cx_r_clauseCount S_5)) (C := RX6) (T := TX6) (N := 16) hx hb hts hin6 hown hK hP 5 rfl rfl 7 (by decide) (hts (.fieldLink RX6 44 "ClownsMourn$Reader" "clauseCount" "I") (List.mem_of_getElem? (i := 3) rfl)) (fun _ h9 => h9) rfl dX6_readTape_141 ?_
      refine lv_aload_n hx hb dX6_readTape_144 rfl (lv_at hl 1 rfl) ?_
      refine va_get (D := D) (ci := 6) (v := .ref (h 37)) (C := RX6) (T := TX6) (N := 16) hx hb hts hin6 hown hK hP 5 rfl rfl 4 (by decide) (hts (.fieldLink RX6 25 "ClownsMourn$Reader" "clauses" "[I") (List.mem_of_getElem? (i := 7) rfl)) (fun _ h9 => h9) rfl dX6_readTape_145 ?_
      refine lv_iload_n hx hb dX6_readTape_148 rfl (lv_at hl 0 rfl) ?_
      rw [ek1]
      have hFc := k_free (wf := fun _ : Unit => wC h cy S_5 ++ [(qt, .inr (9, [.int 0, .null, .null, .null]))]) (S := ()) hD hS hA
      refine va_callr (va_runS (As := [.ref (h 37), .int (nI k1)]) (rest := [.int (cx_r_clauseCount S_5), .ref qt, .ref qt]) ⟨hx, hb, hml, hown, hts⟩ (cA_copyOf l D (tyC cy) (wC h cy S_5 ++ [(qt, .inr (9, [.int 0, .null, .null, .null]))]) 37 25 _ _ 96 _ rfl rfl (by decide) k1 hk1 H.size) (va_cwS 2 hts gX6_readTape_J7_copyOf_59c91 rfl rfl rfl (by decide +kernel) ⟨Nat.le_of_ble_eq_true rfl, Nat.le_of_ble_eq_true rfl⟩) ⟨e_blind clE_stable, e_here (wf := fun _ : Unit => wC h cy S_5 ++ [(qt, .inr (9, [.int 0, .null, .null, .null]))]) (S := ()) clE_stable hs hK hP hD hS hA⟩ rfl rfl hl.1 rfl (lv_room (Nat.le_of_ble_eq_true rfl)) dX6_readTape_149 ⟨Nat.le_of_ble_eq_true rfl, Nat.le_of_ble_eq_true rfl⟩) hS (fun q _ h => hFc q h) hFc (fun g1 b1 t H1 locs ht hvm hg1 hB hz1 hk1_ hS => ?_)
      obtain ⟨hP1, -, hD1⟩ := hB
      rw [ht] at hP1
      have hD := hD1.weaken (fun k q _ h => hFc q.1 h)
      have hP := hP1
      clear hP1 hD1 hFc
      generalize H1 = H at hP hS ⊢
      refine lv_aload_n hx hb dX6_readTape_152 rfl (lv_at hl 1 rfl) ?_
      refine va_get (D := D) (ci := 6) (v := .ref (h 38)) (C := RX6) (T := TX6) (N := 16) hx hb hts hin6 hown hK hP 5 rfl rfl 5 (by decide) (hts (.fieldLink RX6 28 "ClownsMourn$Reader" "code" "[I") (List.mem_of_getElem? (i := 16) rfl)) (fun _ h9 => h9) rfl dX6_readTape_153 ?_
      refine lv_aload_n hx hb dX6_readTape_156 rfl (lv_at hl 1 rfl) ?_
      refine va_get (D := D) (ci := 6) (v := .int (cx_r_codeLength S_5)) (C := RX6) (T := TX6) (N := 16) hx hb hts hin6 hown hK hP 5 rfl rfl 8 (by decide) (hts (.fieldLink RX6 47 "ClownsMourn$Reader" "codeLength" "I") (List.mem_of_getElem? (i := 4) rfl)) (fun _ h9 => h9) rfl dX6_readTape_157 ?_
      refine lv_iconst (v := 0) hx hb dX6_readTape_160 (by decide) ?_
      refine lv_aload_n hx hb dX6_readTape_161 rfl (lv_at hl 1 rfl) ?_
      refine va_get (D := D) (ci := 6) (v := .ref (h 38)) (C := RX6) (T := TX6) (N := 16) hx hb hts hin6 hown hK hP 5 rfl rfl 5 (by decide) (hts (.fieldLink RX6 28 "ClownsMourn$Reader" "code" "[I") (List.mem_of_getElem? (i := 16) rfl)) (fun _ h9 => h9) rfl dX6_readTape_162 ?_
      refine va_alen (v := 300) hx hb hK hP 38 26 rfl rfl (show Int32.ofNat 300 = 300 by decide) dX6_readTape_165 ?_
      refine e_callNi (wf := fun _ : Unit => (wC h cy S_5 ++ [(qt, .inr (9, [.int 0, .null, .null, .null]))]) ++ [(b1, .inl (cy 37, k1, .inl g1))]) (S := ()) (As := [.int (cx_r_codeLength S_5), .int 0, .int 300]) (rest := [.ref (h 38), .ref b1, .int (cx_r_clauseCount S_5), .ref qt, .ref qt]) clE_stable hs ⟨hx, hb, hml, hown, hts⟩ (cA_held l D clE (tyC cy) (fun _ : Unit => (wC h cy S_5 ++ [(qt, .inr (9, [.int 0, .null, .null, .null]))]) ++ [(b1, .inl (cy 37, k1, .inl g1))]) () _ _ _ (fun r _ => r = nI k2) ek2) ⟨va_cnB 3 hts gX6_readTape_X11_held_n71 rfl rfl rfl hs.1.2.2.2.2.2.2.2.2.2.2.1 (hts (.initialized RX11) (List.mem_of_getElem? (i := 34) rfl)) (by decide +kernel) ⟨Nat.le_of_ble_eq_true rfl, Nat.le_of_ble_eq_true rfl⟩, hts (.static yX11_held) (List.mem_of_getElem? (i := 189) rfl), trivial⟩ hK hP hD hS hA rfl hl.1 rfl (Nat.le_of_ble_eq_true rfl) dX6_readTape_166 ⟨Nat.le_of_ble_eq_true rfl, Nat.le_of_ble_eq_true rfl⟩ (fun r_ _ H locs hq hP hD hS => ?_)
      subst hq
      have hFc := k_free (wf := fun _ : Unit => (wC h cy S_5 ++ [(qt, .inr (9, [.int 0, .null, .null, .null]))]) ++ [(b1, .inl (cy 37, k1, .inl g1))]) (S := ()) hD hS hA
      refine va_callr (va_runS (As := [.ref (h 38), .int (nI k2)]) (rest := [.ref b1, .int (cx_r_clauseCount S_5), .ref qt, .ref qt]) ⟨hx, hb, hml, hown, hts⟩ (cA_copyOf l D (tyC cy) ((wC h cy S_5 ++ [(qt, .inr (9, [.int 0, .null, .null, .null]))]) ++ [(b1, .inl (cy 37, k1, .inl g1))]) 38 26 _ _ 300 _ rfl rfl (by decide) k2 hk2 H.size) (va_cwS 2 hts gX6_readTape_J7_copyOf_59c91 rfl rfl rfl (by decide +kernel) ⟨Nat.le_of_ble_eq_true rfl, Nat.le_of_ble_eq_true rfl⟩) ⟨e_blind clE_stable, e_here (wf := fun _ : Unit => (wC h cy S_5 ++ [(qt, .inr (9, [.int 0, .null, .null, .null]))]) ++ [(b1, .inl (cy 37, k1, .inl g1))]) (S := ()) clE_stable hs hK hP hD hS hA⟩ rfl rfl hl.1 rfl (lv_room (Nat.le_of_ble_eq_true rfl)) dX6_readTape_169 ⟨Nat.le_of_ble_eq_true rfl, Nat.le_of_ble_eq_true rfl⟩) hS (fun q _ h => hFc q h) hFc (fun g2 b2 t H1 locs ht hvm hg2 hB hz1 hk1_ hS => ?_)
      obtain ⟨hP1, -, hD1⟩ := hB
      rw [ht] at hP1
      have hD := hD1.weaken (fun k q _ h => hFc q.1 h)
      have hP := hP1
      clear hP1 hD1 hFc
      generalize H1 = H at hP hS ⊢
      refine lv_aload_n hx hb dX6_readTape_172 rfl (lv_at hl 1 rfl) ?_
      refine va_get (D := D) (ci := 6) (v := .ref (h 39)) (C := RX6) (T := TX6) (N := 16) hx hb hts hin6 hown hK hP 5 rfl rfl 6 (by decide) (hts (.fieldLink RX6 31 "ClownsMourn$Reader" "bounds" "[I") (List.mem_of_getElem? (i := 6) rfl)) (fun _ h9 => h9) rfl dX6_readTape_173 ?_
      refine va_clone (own := RX6) (ad := "[I") (index := 81) (ty := .int) hx hb (hml.trans hl.1.symm) hown (hts (.methodLink RX6 81 ⟨"[I", "clone", "()Ljava/lang/Object;"⟩) (List.mem_of_getElem? (i := 17) rfl)) (hts (.sameMethod "[I" "java/lang/Object" "clone" "()Ljava/lang/Object;") (List.mem_of_getElem? (i := 18) rfl)) (hts (.native ⟨"java/lang/Object", "clone", "()Ljava/lang/Object;"⟩) (List.mem_of_getElem? (i := 19) rfl)) (hts (.instanceMethod ⟨"java/lang/Object", "clone", "()Ljava/lang/Object;"⟩) (List.mem_of_getElem? (i := 20) rfl)) (hts (.selects "[I" ⟨"[I", "clone", "()Ljava/lang/Object;"⟩ ⟨"java/lang/Object", "clone", "()Ljava/lang/Object;"⟩) (List.mem_of_getElem? (i := 21) rfl)) (hs.1.2.2.2.2.2.2.2.2.2.2.2.2.2.2.2.2.2.2.2.2.2.2.2.2.2.2.2.2.2.2.2.2) hK hP hD hS hA 39 27 (x := (6, .inl (cx_r_bounds S_5))) rfl rfl (va_nm_int (hK.2 27 _ rfl).2) (fun i v hv => va_fit (ty := .int) (F := fun j => .int (cx_r_bounds S_5 j)) (fun _ _ => rfl) i v hv) (Nat.le_of_ble_eq_true rfl) (Nat.le_of_ble_eq_true rfl) (Nat.le_of_ble_eq_true rfl) (Nat.le_of_ble_eq_true rfl) dX6_readTape_176 (fun b3 H hK2 hP hD hS => ?_)
      refine va_castA (own := RX6) (nm := "[I") (index := 82) hx hb hown (hts (.classLink RX6 82 "[I") (List.mem_of_getElem? (i := 22) rfl)) hP ((((wC h cy S_5 ++ [(qt, .inr (9, [.int 0, .null, .null, .null]))]) ++ [(b1, .inl (cy 37, k1, .inl g1))]) ++ [(b2, .inl (cy 38, k2, .inl g2))] : va_W).length) (cA := cy 39) (x := (6, .inl (cx_r_bounds S_5))) (by simp) (va_nm_int (hK.2 27 _ rfl).2) dX6_readTape_179 ?_
      have hFc := k_free (wf := fun _ : Unit => (((wC h cy S_5 ++ [(qt, .inr (9, [.int 0, .null, .null, .null]))]) ++ [(b1, .inl (cy 37, k1, .inl g1))]) ++ [(b2, .inl (cy 38, k2, .inl g2))]) ++ [(b3, .inl (cy 39, 6, .inl (cx_r_bounds S_5)))]) (S := ()) hD hS hA
      refine va_callv (va_runI (As := [.int (cx_r_clauseCount S_5), .ref b1, .ref b2, .ref b3]) (rest := [.ref qt]) ⟨hx, hb, hml, hown, hts⟩ (cA_Text l D clE (tyC cy) ((((wC h cy S_5 ++ [(qt, .inr (9, [.int 0, .null, .null, .null]))]) ++ [(b1, .inl (cy 37, k1, .inl g1))]) ++ [(b2, .inl (cy 38, k2, .inl g2))]) ++ [(b3, .inl (cy 39, 6, .inl (cx_r_bounds S_5)))]) (wC h cy S_5).length qt _ b1 b2 b3 (k_mid _ _ _ _ _ (0, .inr (0, []))).1 H.size) (cwI 4 hts gX6_readTape_X9_init rfl rfl rfl (hts (.initialized RX9) (List.mem_of_getElem? (i := 15) rfl)) (hts (.methodLink RX6 86 yX9_init) (List.mem_of_getElem? (i := 202) rfl)) (hts (.instanceMethod yX9_init) (List.mem_of_getElem? (i := 203) rfl)) rfl (by decide +kernel) ⟨Nat.le_of_ble_eq_true rfl, Nat.le_of_ble_eq_true rfl⟩) ⟨e_blind clE_stable, e_here (wf := fun _ : Unit => (((wC h cy S_5 ++ [(qt, .inr (9, [.int 0, .null, .null, .null]))]) ++ [(b1, .inl (cy 37, k1, .inl g1))]) ++ [(b2, .inl (cy 38, k2, .inl g2))]) ++ [(b3, .inl (cy 39, 6, .inl (cx_r_bounds S_5)))]) (S := ()) clE_stable hs hK hP hD hS hA⟩ rfl rfl hl.1 rfl (lv_room (Nat.le_of_ble_eq_true rfl)) dX6_readTape_182 ⟨Nat.le_of_ble_eq_true rfl, Nat.le_of_ble_eq_true rfl⟩) hS (fun q _ h => hFc q h) hFc (fun u t H1 locs ht hvm _ hB hz1 hk1_ hS => ?_)
      obtain ⟨hP1, -, hD1⟩ := hB
      rw [ht] at hP1
      have hD := hD1.weaken (fun k q _ h => hFc q.1 h)
      have hP := hP1
      clear hP1 hD1 hFc
      generalize H1 = H at hP hS ⊢
      rw [(k_mid _ _ _ _ _ _).2] at hP hD
      have e1 : cy 37 = cy 36 := k_cyeq hK (i := 25) (j := 24) rfl rfl
      have e2 : cy 38 = cy 36 := k_cyeq hK (i := 26) (j := 24) rfl rfl
      have e3 : cy 39 = cy 36 := k_cyeq hK (i := 27) (j := 24) rfl rfl
      rw [e1, e2, e3] at hP hD
      have hP : va_P D vwCl (wC h cy S_5 ++ tbW (cy 36) (qt, ((cx_r_clauseCount S_5), (b1, b2, b3), (k1, g1), (k2, g2), (6, cx_r_bounds S_5)))) H := hP
      have hD : va_D A (wC h cy S_5 ++ tbW (cy 36) (qt, ((cx_r_clauseCount S_5), (b1, b2, b3), (k1, g1), (k2, g2), (6, cx_r_bounds S_5)))) := hD
      rw [wC_push] at hP hD
      refine W.widen (k := 4) (n := 406) (Nat.le_of_ble_eq_true rfl) (Nat.le_of_ble_eq_true rfl) ?_
      exact W.aret (v := .ref qt) hx hb hr (Or.inl ⟨_, rfl⟩) (Or.inr ⟨qt, rfl⟩) (fun t ht hW => ⟨⟨some qt, _, rfl, hw qt b1 b2 b3 g1 g2 hg1 hg2 _ rfl, by rw [ht]; exact hP, va_K.moved hW.alike hK, hD⟩, hS.F ht⟩) hS.2.2 dX6_readTape_185
    · have hw := hc_3f c_3
      clear hc_3t hc_3f
      refine lv_null hx hb dX6_readTape_118 ?_
      refine W.widen (k := 4) (n := 406) (Nat.zero_le _) (Nat.zero_le _) ?_
      exact W.aret (v := va_rf none) hx hb hr (Or.inl ⟨_, rfl⟩) (va_rf_or _) (fun t ht hW => ⟨⟨none, S_2, rfl, hw, by rw [ht]; exact hP, va_K.moved hW.alike hK, hD⟩, hS.F ht⟩) hS.2.2 dX6_readTape_119
  have J_79 : ∀ (S : CS) (H : Heap) (locs : List Loc) (ls : Array Slot), wC_X6_readTape_79 post S → va_P D vwCl (wC h cy S) H → va_D A (wC h cy S) → va_S A s.heap H locs → lv_has ls 2 [(0, .ref (h 5))] → W p l e (headSpec wsX6_readTape { frames := 73, cells := 4, slots := 406, locals := 1603 }).room s m (([.ref (h 5)] : List Value).toArray) below meth c H locs 0 0 (MQ below (va_Qq post (k_Post D (tyC cy) (wC h cy) A) A) (([.ref (h 5)] : List Value).toArray) s 4 406 A) (F0 m 79 ls []) := by
    intro S H locs ls hw hP hD hS hl
    unfold wC_X6_readTape_79 at hw
    refine lv_aload_n hx hb dX6_readTape_79 rfl (lv_at hl 0 rfl) ?_
    refine lv_aload_n hx hb dX6_readTape_80 rfl (lv_at hl 0 rfl) ?_
    refine va_get (D := D) (ci := 6) (v := .int (cx_r_fault S)) (C := RX6) (T := TX6) (N := 16) hx hb hts hin6 hown hK hP 5 rfl rfl 13 (by decide) w41 (fun _ h9 => h9) rfl dX6_readTape_81 ?_
    refine va_put (D := D) (ci := 6) (v := .int (cx_r_fault S)) (ty := .int) (C := RX6) (T := TX6) (N := 16) hx hb hts hin6 tyX6 tyX6_ok nmX6 hown hK hP hD hS 5 rfl rfl 1 (by decide) w15 (fun _ h9 => h9) rfl (tyX6_ok 1 (by decide)) rfl rfl (Nat.le_of_ble_eq_true rfl) dX6_readTape_84 (fun H locs hP hD hS => ?_)
    obtain ⟨S_6, eS_6⟩ : ∃ z : CS, z = (cx_set_r_lastFault S (cx_r_fault S)) := ⟨_, rfl⟩
    replace hw := hw S_6 eS_6
    have hP : va_P D vwCl (wC h cy S_6) H := by rw [eS_6, ← wCp_r_lastFault]; exact hP
    have hD : va_D A (wC h cy S_6) := by rw [eS_6, ← wCp_r_lastFault]; exact hD
    refine lv_aload_n hx hb dX6_readTape_87 rfl (lv_at hl 0 rfl) ?_
    refine lv_aload_n hx hb dX6_readTape_88 rfl (lv_at hl 0 rfl) ?_
    refine va_get (D := D) (ci := 6) (v := .int (cx_r_fault S_6)) (C := RX6) (T := TX6) (N := 16) hx hb hts hin6 hown hK hP 5 rfl rfl 13 (by decide) w41 (fun _ h9 => h9) rfl dX6_readTape_89 ?_
    obtain ⟨hc_7t, hc_7f⟩ := hw
    refine lv_if_ne (tgt := 99) hx hb dX6_readTape_92 (by decide) (fun c_7 => ?_) (fun c_7 => ?_)
    · have hw := hc_7f c_7
      clear hc_7t hc_7f
      refine lv_aload_n hx hb dX6_readTape_99 rfl (lv_at hl 0 rfl) ?_
      refine va_get (D := D) (ci := 6) (v := .int (cx_r_start S_6)) (C := RX6) (T := TX6) (N := 16) hx hb hts hin6 hown hK hP 5 rfl rfl 10 (by decide) w68 (fun _ h9 => h9) rfl dX6_readTape_100 ?_
      exact J_103 (cx_r_start S_6) S_6 _ _ _ hw hP hD hS (lv_sub hl [0] rfl)
    · have hw := hc_7t c_7
      clear hc_7t hc_7f
      refine lv_iconst (v := (-1)) hx hb dX6_readTape_95 (by decide) ?_
      refine lv_goto (tgt := 103) hx hb dX6_readTape_96 (by decide) ?_
      exact J_103 (-1) S_6 _ _ _ hw hP hD hS (lv_sub hl [0] rfl)
  have L_47 : ∀ (n47 : Nat) (x1 : Int32) (S : CS) (H : Heap) (locs : List Loc) (ls : Array Slot), wC_X6_readTape_47 post n47 x1 S → va_P D vwCl (wC h cy S) H → va_D A (wC h cy S) → va_S A s.heap H locs → lv_has ls 2 [(0, .ref (h 5)), (1, .int x1)] → W p l e (headSpec wsX6_readTape { frames := 73, cells := 4, slots := 406, locals := 1603 }).room s m (([.ref (h 5)] : List Value).toArray) below meth c H locs 0 0 (MQ below (va_Qq post (k_Post D (tyC cy) (wC h cy) A) A) (([.ref (h 5)] : List Value).toArray) s 4 406 A) (F0 m 47 ls []) := by
    intro n47
    induction n47 with
    | zero => intro x1 S H locs ls hw; exact False.elim hw
    | succ n47 ih_47 =>
      intro x1 S H locs ls hw hP hD hS hl
      unfold wC_X6_readTape_47 at hw
      refine lv_iload_n hx hb dX6_readTape_47 rfl (lv_at hl 1 rfl) ?_
      refine lv_bipush (v := 24) hx hb dX6_readTape_48 (by decide) ?_
      obtain ⟨hc_8t, hc_8f⟩ := hw
      refine lv_icmp_gt (tgt := 79) hx hb dX6_readTape_50 (by decide) (fun c_8 => ?_) (fun c_8 => ?_)
      · have hw := hc_8t c_8
        clear hc_8t hc_8f
        exact J_79 S _ _ _ hw hP hD hS (lv_sub hl [0] rfl)
      · have hw := hc_8f c_8
        clear hc_8t hc_8f
        refine lv_aload_n hx hb dX6_readTape_53 rfl (lv_at hl 0 rfl) ?_
        refine va_get (D := D) (ci := 6) (v := .int (cx_r_fault S)) (C := RX6) (T := TX6) (N := 16) hx hb hts hin6 hown hK hP 5 rfl rfl 13 (by decide) w41 (fun _ h9 => h9) rfl dX6_readTape_54 ?_
        obtain ⟨hc_9t, hc_9f⟩ := hw
        refine lv_if_ne (tgt := 79) hx hb dX6_readTape_57 (by decide) (fun c_9 => ?_) (fun c_9 => ?_)
        · have hw := hc_9f c_9
          clear hc_9t hc_9f
          exact J_79 S _ _ _ hw hP hD hS (lv_sub hl [0] rfl)
        · have hw := hc_9t c_9
          clear hc_9t hc_9f
          refine lv_aload_n hx hb dX6_readTape_60 rfl (lv_at hl 0 rfl) ?_
          refine va_get (D := D) (ci := 6) (v := .int (cx_r_token S)) (C := RX6) (T := TX6) (N := 16) hx hb hts hin6 hown hK hP 5 rfl rfl 11 (by decide) w62 (fun _ h9 => h9) rfl dX6_readTape_61 ?_
          refine lv_bipush (v := 31) hx hb dX6_readTape_64 (by decide) ?_
          obtain ⟨hc_10t, hc_10f⟩ := hw
          refine lv_icmp_eq (tgt := 79) hx hb dX6_readTape_66 (by decide) (fun c_10 => ?_) (fun c_10 => ?_)
          · have hw := hc_10t c_10
            clear hc_10t hc_10f
            exact J_79 S _ _ _ hw hP hD hS (lv_sub hl [0] rfl)
          · have hw := hc_10f c_10
            clear hc_10t hc_10f
            refine lv_aload_n hx hb dX6_readTape_69 rfl (lv_at hl 0 rfl) ?_
            refine e_callVv (As := []) (rest := []) clE_stable hs ⟨hx, hb, hml, hown, hts⟩ (cC_X6_readClause l D h cy _ _ hw) (cwV 0 hts gX6_readTape_X6_readClause rfl rfl rfl (by decide +kernel) ⟨Nat.le_of_ble_eq_true rfl, Nat.le_of_ble_eq_true rfl⟩) (va_recv hK hP (ci := 6) (q0 := 5) rfl rfl) hK hP hD hS hA rfl hl.1 rfl (Nat.le_of_ble_eq_true rfl) dX6_readTape_70 ⟨Nat.zero_le _, Nat.zero_le _⟩ (fun S_12 H locs hw hP hD hS => ?_)
            refine lv_iinc (v := x1 + 1) (lv' := [(1, .int (x1 + 1)), (0, .ref (h 5))]) hx hb dX6_readTape_73 hl (k := 1) rfl (k_inc (by decide)) (by decide) rfl (fun ls hl => ?_)
            refine lv_goto (tgt := 47) hx hb dX6_readTape_76 (by decide) ?_
            exact ih_47 (x1 + 1) S_12 _ _ _ hw hP hD hS (lv_sub hl [1, 0] rfl)
  refine lv_aload_n hx hb dX6_readTape_0 rfl (lv_at hl 0 rfl) ?_
  refine lv_iconst (v := 0) hx hb dX6_readTape_1 (by decide) ?_
  refine va_put (D := D) (ci := 6) (v := .int 0) (ty := .int) (C := RX6) (T := TX6) (N := 16) hx hb hts hin6 tyX6 tyX6_ok nmX6 hown hK hP hD hS 5 rfl rfl 9 (by decide) w38 (fun _ h9 => h9) rfl (tyX6_ok 9 (by decide)) rfl rfl (Nat.le_of_ble_eq_true rfl) dX6_readTape_2 (fun H locs hP hD hS => ?_)
  obtain ⟨S_13, eS_13⟩ : ∃ z : CS, z = (cx_set_r_place S 0) := ⟨_, rfl⟩
  replace hw := hw S_13 eS_13
  have hP : va_P D vwCl (wC h cy S_13) H := by rw [eS_13, ← wCp_r_place]; exact hP
  have hD : va_D A (wC h cy S_13) := by rw [eS_13, ← wCp_r_place]; exact hD
  refine lv_aload_n hx hb dX6_readTape_5 rfl (lv_at hl 0 rfl) ?_
  refine lv_iconst (v := 0) hx hb dX6_readTape_6 (by decide) ?_
  refine va_put (D := D) (ci := 6) (v := .int 0) (ty := .int) (C := RX6) (T := TX6) (N := 16) hx hb hts hin6 tyX6 tyX6_ok nmX6 hown hK hP hD hS 5 rfl rfl 13 (by decide) w41 (fun _ h9 => h9) rfl (tyX6_ok 13 (by decide)) rfl rfl (Nat.le_of_ble_eq_true rfl) dX6_readTape_7 (fun H locs hP hD hS => ?_)
  obtain ⟨S_14, eS_14⟩ : ∃ z : CS, z = (cx_set_r_fault S_13 0) := ⟨_, rfl⟩
  replace hw := hw S_14 eS_14
  have hP : va_P D vwCl (wC h cy S_14) H := by rw [eS_14, ← wCp_r_fault]; exact hP
  have hD : va_D A (wC h cy S_14) := by rw [eS_14, ← wCp_r_fault]; exact hD
  refine lv_aload_n hx hb dX6_readTape_10 rfl (lv_at hl 0 rfl) ?_
  refine lv_iconst (v := 0) hx hb dX6_readTape_11 (by decide) ?_
  refine va_put (D := D) (ci := 6) (v := .int 0) (ty := .int) (C := RX6) (T := TX6) (N := 16) hx hb hts hin6 tyX6 tyX6_ok nmX6 hown hK hP hD hS 5 rfl rfl 7 (by decide) w44 (fun _ h9 => h9) rfl (tyX6_ok 7 (by decide)) rfl rfl (Nat.le_of_ble_eq_true rfl) dX6_readTape_12 (fun H locs hP hD hS => ?_)
  obtain ⟨S_15, eS_15⟩ : ∃ z : CS, z = (cx_set_r_clauseCount S_14 0) := ⟨_, rfl⟩
  replace hw := hw S_15 eS_15
  have hP : va_P D vwCl (wC h cy S_15) H := by rw [eS_15, ← wCp_r_clauseCount]; exact hP
  have hD : va_D A (wC h cy S_15) := by rw [eS_15, ← wCp_r_clauseCount]; exact hD
  refine lv_aload_n hx hb dX6_readTape_15 rfl (lv_at hl 0 rfl) ?_
  refine lv_iconst (v := 0) hx hb dX6_readTape_16 (by decide) ?_
  refine va_put (D := D) (ci := 6) (v := .int 0) (ty := .int) (C := RX6) (T := TX6) (N := 16) hx hb hts hin6 tyX6 tyX6_ok nmX6 hown hK hP hD hS 5 rfl rfl 8 (by decide) w47 (fun _ h9 => h9) rfl (tyX6_ok 8 (by decide)) rfl rfl (Nat.le_of_ble_eq_true rfl) dX6_readTape_17 (fun H locs hP hD hS => ?_)
  obtain ⟨S_16, eS_16⟩ : ∃ z : CS, z = (cx_set_r_codeLength S_15 0) := ⟨_, rfl⟩
  replace hw := hw S_16 eS_16
  have hP : va_P D vwCl (wC h cy S_16) H := by rw [eS_16, ← wCp_r_codeLength]; exact hP
  have hD : va_D A (wC h cy S_16) := by rw [eS_16, ← wCp_r_codeLength]; exact hD
  refine lv_aload_n hx hb dX6_readTape_20 rfl (lv_at hl 0 rfl) ?_
  refine lv_iconst (v := 0) hx hb dX6_readTape_21 (by decide) ?_
  refine va_put (D := D) (ci := 6) (v := .int 0) (ty := .int) (C := RX6) (T := TX6) (N := 16) hx hb hts hin6 tyX6 tyX6_ok nmX6 hown hK hP hD hS 5 rfl rfl 15 (by decide) w50 (fun _ h9 => h9) rfl (tyX6_ok 15 (by decide)) rfl rfl (Nat.le_of_ble_eq_true rfl) dX6_readTape_22 (fun H locs hP hD hS => ?_)
  obtain ⟨S_17, eS_17⟩ : ∃ z : CS, z = (cx_set_r_open S_16 0) := ⟨_, rfl⟩
  replace hw := hw S_17 eS_17
  have hP : va_P D vwCl (wC h cy S_17) H := by rw [eS_17, ← wCp_r_open]; exact hP
  have hD : va_D A (wC h cy S_17) := by rw [eS_17, ← wCp_r_open]; exact hD
  refine lv_aload_n hx hb dX6_readTape_25 rfl (lv_at hl 0 rfl) ?_
  refine va_get (D := D) (ci := 6) (v := .ref (h 39)) (C := RX6) (T := TX6) (N := 16) hx hb hts hin6 hown hK hP 5 rfl rfl 6 (by decide) w31 (fun _ h9 => h9) rfl dX6_readTape_26 ?_
  refine lv_iconst (v := 0) hx hb dX6_readTape_29 (by decide) ?_
  refine e_callSv (As := [.ref (h 39), .int 0]) (rest := []) clE_stable hs ⟨hx, hb, hml, hown, hts⟩ (cA_fill l D clE (tyC cy) (wC h cy) cx_r_bounds cx_set_r_bounds S_17 39 27 _ _ 6 rfl (wCs_r_bounds h cy S_17) rfl (by decide) _ (fun S0 => S0 = (cx_set_r_bounds S_17 (k_fill 6 (cx_r_bounds S_17) 0))) rfl) (va_cwS 2 hts gX6_readTape_J7_fill_53178 rfl rfl rfl (by decide +kernel) ⟨Nat.le_of_ble_eq_true rfl, Nat.le_of_ble_eq_true rfl⟩) hK hP hD hS hA rfl hl.1 rfl (Nat.le_of_ble_eq_true rfl) dX6_readTape_30 ⟨Nat.zero_le _, Nat.zero_le _⟩ (fun S_18 H locs eS_18 hP hD hS => ?_)
  replace hw := hw S_18 eS_18
  refine lv_aload_n hx hb dX6_readTape_33 rfl (lv_at hl 0 rfl) ?_
  refine va_get (D := D) (ci := 6) (v := .ref (h 37)) (C := RX6) (T := TX6) (N := 16) hx hb hts hin6 hown hK hP 5 rfl rfl 4 (by decide) w25 (fun _ h9 => h9) rfl dX6_readTape_34 ?_
  refine lv_iconst (v := 0) hx hb dX6_readTape_37 (by decide) ?_
  refine e_callSv (As := [.ref (h 37), .int 0]) (rest := []) clE_stable hs ⟨hx, hb, hml, hown, hts⟩ (cA_fill l D clE (tyC cy) (wC h cy) cx_r_clauses cx_set_r_clauses S_18 37 25 _ _ 96 rfl (wCs_r_clauses h cy S_18) rfl (by decide) _ (fun S0 => S0 = (cx_set_r_clauses S_18 (k_fill 96 (cx_r_clauses S_18) 0))) rfl) (va_cwS 2 hts gX6_readTape_J7_fill_53178 rfl rfl rfl (by decide +kernel) ⟨Nat.le_of_ble_eq_true rfl, Nat.le_of_ble_eq_true rfl⟩) hK hP hD hS hA rfl hl.1 rfl (Nat.le_of_ble_eq_true rfl) dX6_readTape_38 ⟨Nat.zero_le _, Nat.zero_le _⟩ (fun S_19 H locs eS_19 hP hD hS => ?_)
  replace hw := hw S_19 eS_19
  refine lv_aload_n hx hb dX6_readTape_41 rfl (lv_at hl 0 rfl) ?_
  refine e_callVv (As := []) (rest := []) clE_stable hs ⟨hx, hb, hml, hown, hts⟩ (cC_X6_advance l D h cy _ _ hw) (cwV 0 hts gX6_readTape_X6_advance rfl rfl rfl (by decide +kernel) ⟨Nat.le_of_ble_eq_true rfl, Nat.le_of_ble_eq_true rfl⟩) (va_recv hK hP (ci := 6) (q0 := 5) rfl rfl) hK hP hD hS hA rfl hl.1 rfl (Nat.le_of_ble_eq_true rfl) dX6_readTape_42 ⟨Nat.zero_le _, Nat.zero_le _⟩ (fun S_21 H locs hw hP hD hS => ?_)
  refine lv_iconst (v := 0) hx hb dX6_readTape_45 (by decide) ?_
  refine lv_istore_n (lv' := [(1, .int 0), (0, .ref (h 5))]) hx hb dX6_readTape_46 rfl hl (by decide) rfl (fun ls hl => ?_)
  obtain ⟨n_47, hw⟩ := hw
  exact L_47 n_47 0 S_21 _ _ _ hw hP hD hS (lv_sub hl [1, 0] rfl)
