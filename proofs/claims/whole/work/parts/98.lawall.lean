/-! the law from its entry to its end -/
abbrev n12 : List Value := [.null, .null, .null, .null, .int 0, .int 0, .int 0, .int 0, .int 0, .int 0, .int 0, .long 0, .int 0, .int 0, .int 0, .null, .int 0, .int 0, .int 0, .int 0, .null, .null, .null, .null, .null, .null, .null, .null, .int 0, .null, .null]
theorem wC_startD (q : Nat) (u : (Nat → Nat) × (Nat → ClassId)) : [0, 1, 3, 15, 17, 29, 34, 37, 39, 43, 44, 45, 2, 5, 6, 7, 8, 9, 10, 11, 12, 13, 14, 4, 16, 19, 20, 21, 22, 23, 24, 25, 26, 27, 28, 18, 30, 31, 32, 33, 35, 36, 38, 40, 41, 42, 46, 47].map (fun i => (w11 q u)[i]?) = (wC (h00 q u) (cy00 u) cs0).map some := rfl
theorem apt_split {D : va_G} {cl : List vw_C} {A : Nat → Prop} {X Y : va_W} {H : Heap} (hP : va_P D cl (X ++ Y) H) (hD : va_D A (X ++ Y)) : va_P D cl X H ∧ va_D A X ∧ va_P D cl Y H ∧ va_D A Y ∧ Apt X Y := by
  have hx : ∀ (k : Nat) (q : Nat × va_E), X[k]? = some q → (X ++ Y)[k]? = some q := fun k q h => by
    rw [List.getElem?_append_left (List.getElem?_eq_some_iff.mp h).1]
    exact h
  have hy : ∀ (k : Nat) (q : Nat × va_E), Y[k]? = some q → (X ++ Y)[X.length + k]? = some q := fun k q h => by
    rw [List.getElem?_append_right (by omega), Nat.add_sub_cancel_left]
    exact h
  refine ⟨fun k q h => hP k q (hx k q h), ⟨fun i j p q hp hq e => hD.1 i j p q (hx i p hp) (hx j q hq) e, fun k q h => hD.2 k q (hx k q h)⟩, fun k q h => hP _ q (hy k q h), ⟨fun i j p q hp hq e => ?_, fun k q h => hD.2 _ q (hy k q h)⟩, fun i j p q hp hq e => ?_⟩
  · have h := hD.1 _ _ p q (hy i p hp) (hy j q hq) e
    omega
  · have h := hD.1 _ _ p q (hx i p hp) (hy j q hq) e
    have h2 := (List.getElem?_eq_some_iff.mp hp).1
    omega
set_option maxHeartbeats 4000000 in
set_option maxRecDepth 100000 in
theorem whole_start {p : Program} {e : Env} {s : State} {m : MethodId} {below : List Frame} {meth : Method} {c : Code} (l : Launch) (hflags : l.flags = flags0) {b L : Nat} {xs : Nat → Int32} (hL : L ≤ 3072) (C0 : lw_At p s m meth c b L xs) : W p l e room_1 s m #[Value.ref b] below meth c s.heap [] 0 0 (lw_Z below #[Value.ref b] s) (entryFrame m ([Value.ref b] : List Value).toArray 4) := by
  obtain ⟨hx, hb, hret, hml, hown, hts0, hX, hbl, hlk, hgv⟩ := C0
  have hts : ∀ w ∈ wsL_law, w.before #[Value.ref b] s = true := fun w hw => hts0 w (wsL_law_in w hw)
  obtain ⟨D, hK⟩ := vK_all hts0
  have hs : ciE (fun q => s.heap.size ≤ q) s := ci_start hts0 hgv (fun a h1 h2 => absurd (Nat.lt_of_lt_of_le h1 h2) (Nat.lt_irrefl a))
  have hA : ∀ q : Nat, s.heap.size ≤ q → (fun q => s.heap.size ≤ q) q := fun q h => h
  have hl := lv_entry ([Value.ref b]) (n := 4) (Nat.le_of_ble_eq_true rfl)
  rw [lg_entry_eq]
  generalize (lg_sl ([Value.ref b]) ++ List.replicate (4 - (lg_sl ([Value.ref b])).length) Slot.unset).toArray = ls at hl ⊢
  have hl : lv_has ls 4 [(0, .ref b)] := hl
  have hS : va_S (fun q => s.heap.size ≤ q) s.heap s.heap [] := va_S.rf
  have hP0 : va_P D vwCl [] s.heap := fun k q h => by cases (show (none : Option (Nat × va_E)) = some q from h)
  have hD0 : va_D (fun q => s.heap.size ≤ q) [] := ⟨(fun i j p q h => by cases (show (none : Option (Nat × va_E)) = some p from h)), (fun k q h => by cases (show (none : Option (Nat × va_E)) = some q from h))⟩
  refine va_new (ci := 10) (fs := n11) (C := RX11) (T := TX11) (N := 9) hx hb hts0 inL_wsX110 tyX11 tyX11_ok hown (hts0 (.classLink RL 7 RX11) (List.mem_of_getElem? (i := 137) rfl)) (hts0 (.instantiable RX11 9) (List.mem_of_getElem? (i := 138) rfl)) (hts0 (.initialized RX11) (List.mem_of_getElem? (i := 116) rfl)) hK hP0 hD0 hS hA rfl (fun j hj => by rcases (show j = 0 ∨ j = 1 ∨ j = 2 ∨ j = 3 ∨ j = 4 ∨ j = 5 ∨ j = 6 ∨ j = 7 ∨ j = 8 by omega) with rfl | rfl | rfl | rfl | rfl | rfl | rfl | rfl | rfl <;> rfl) (Nat.le_of_ble_eq_true rfl) (Nat.le_of_ble_eq_true rfl) dL_law_0 (fun q1 H hP hD hS => ?_)
  have hP : va_P D vwCl [(q1, .inr (10, n11))] H := hP
  have hD : va_D (fun q => s.heap.size ≤ q) [(q1, .inr (10, n11))] := hD
  refine lv_dup hx hb dL_law_3 rfl ?_
  have hFc := k_free (wf := fun _ : Unit => [(q1, .inr (10, n11))]) (S := ()) hD hS hA
  refine va_callv (va_runI (As := []) (rest := [.ref q1]) ⟨hx, hb, hml, hown, hts⟩ (cI_11 l D q1 H.size) (cwI 0 hts gL_law_X11_init rfl rfl rfl (hts0 (.initialized RX11) (List.mem_of_getElem? (i := 116) rfl)) (hts0 (.methodLink RL 9 yX11_init) (List.mem_of_getElem? (i := 139) rfl)) (hts0 (.instanceMethod yX11_init) (List.mem_of_getElem? (i := 140) rfl)) rfl (by decide +kernel) ⟨Nat.le_of_ble_eq_true rfl, Nat.le_of_ble_eq_true rfl⟩) ⟨e_blind ciE_stable, e_here (wf := fun _ : Unit => [(q1, .inr (10, n11))]) (S := ()) ciE_stable hs hK hP hD hS hA⟩ rfl rfl hl.1 rfl (lv_room (Nat.le_of_ble_eq_true rfl)) dL_law_4 ⟨Nat.le_of_ble_eq_true rfl, Nat.le_of_ble_eq_true rfl⟩) hS (fun q _ h => hFc q h) hFc (fun u t H1 locs ht hvm _ hB hz1 hk1 hS => ?_)
  obtain ⟨hP1, hK1, hD1⟩ := hB
  rw [ht] at hP1
  have hKC : va_K D vwCl (tyC (cy00 u)) s := (va_K.moved hvm.symm hK1).sub [0, 2, 3, 4, 5, 6, 7, 8, 9, 10, 11, 1, 12, 14, 15, 16, 17, 18, 19, 20, 21, 22, 23, 13, 24, 25, 26, 27, 28, 29, 30, 31, 32, 33, 34, 35] (tyC_start u)
  have hPC : va_P D vwCl (wC (h00 q1 u) (cy00 u) cs0) H1 := hP1.sub [0, 1, 3, 15, 17, 29, 34, 37, 39, 43, 44, 45, 2, 5, 6, 7, 8, 9, 10, 11, 12, 13, 14, 4, 16, 19, 20, 21, 22, 23, 24, 25, 26, 27, 28, 18, 30, 31, 32, 33, 35, 36, 38, 40, 41, 42, 46, 47] (wC_start q1 u)
  have hDC : va_D (fun q => s.heap.size ≤ q) (wC (h00 q1 u) (cy00 u) cs0) := (hD1.weaken (fun k q _ h => hFc q.1 h)).sub [0, 1, 3, 15, 17, 29, 34, 37, 39, 43, 44, 45, 2, 5, 6, 7, 8, 9, 10, 11, 12, 13, 14, 4, 16, 19, 20, 21, 22, 23, 24, 25, 26, 27, 28, 18, 30, 31, 32, 33, 35, 36, 38, 40, 41, 42, 46, 47] (by decide) (wC_startD q1 u)
  clear hP hD hFc hk1 hz1 hP1 hK1 hD1 ht hvm
  refine lv_astore_n (lv' := [(1, .ref q1), (0, .ref b)]) hx hb dL_law_7 rfl hl (by decide) rfl (fun ls hl => ?_)
  refine va_new (ci := 11) (fs := n12) (C := RX12) (T := TX12) (N := 31) hx hb hts0 inL_wsX120 tyX12 tyX12_ok hown (hts0 (.classLink RL 10 RX12) (List.mem_of_getElem? (i := 1291) rfl)) (hts0 (.instantiable RX12 31) (List.mem_of_getElem? (i := 1292) rfl)) (hts0 (.initialized RX12) (List.mem_of_getElem? (i := 128) rfl)) hK hPC hDC hS hA rfl (fun j hj => by rcases (show j = 0 ∨ j = 1 ∨ j = 2 ∨ j = 3 ∨ j = 4 ∨ j = 5 ∨ j = 6 ∨ j = 7 ∨ j = 8 ∨ j = 9 ∨ j = 10 ∨ j = 11 ∨ j = 12 ∨ j = 13 ∨ j = 14 ∨ j = 15 ∨ j = 16 ∨ j = 17 ∨ j = 18 ∨ j = 19 ∨ j = 20 ∨ j = 21 ∨ j = 22 ∨ j = 23 ∨ j = 24 ∨ j = 25 ∨ j = 26 ∨ j = 27 ∨ j = 28 ∨ j = 29 ∨ j = 30 by omega) with rfl | rfl | rfl | rfl | rfl | rfl | rfl | rfl | rfl | rfl | rfl | rfl | rfl | rfl | rfl | rfl | rfl | rfl | rfl | rfl | rfl | rfl | rfl | rfl | rfl | rfl | rfl | rfl | rfl | rfl | rfl <;> rfl) (Nat.le_of_ble_eq_true rfl) (Nat.le_of_ble_eq_true rfl) dL_law_8 (fun q2 H hP hD hS => ?_)
  clear hPC hDC
  obtain ⟨hPC, hDC, hP, hD, hAp⟩ := apt_split hP hD
  refine lv_dup hx hb dL_law_11 rfl ?_
  have hFc := k_free (wf := fun _ : Unit => [(q2, .inr (11, n12))]) (S := ()) hD hS hA
  refine va_callv (va_runI (As := []) (rest := [.ref q2]) ⟨hx, hb, hml, hown, hts⟩ (cM_init l D q2 (fun S => Rel cs0 S) init_rel H.size) (cwI 0 hts gL_law_X12_init rfl rfl rfl (hts0 (.initialized RX12) (List.mem_of_getElem? (i := 128) rfl)) (hts0 (.methodLink RL 12 yX12_init) (List.mem_of_getElem? (i := 1293) rfl)) (hts0 (.instanceMethod yX12_init) (List.mem_of_getElem? (i := 1294) rfl)) rfl (by decide +kernel) ⟨Nat.le_of_ble_eq_true rfl, Nat.le_of_ble_eq_true rfl⟩) ⟨k_blind, k_here (wf := fun _ : Unit => [(q2, .inr (11, n12))]) (S := ()) hK hP hD⟩ rfl rfl hl.1 rfl (lv_room (Nat.le_of_ble_eq_true rfl)) dL_law_12 ⟨Nat.le_of_ble_eq_true rfl, Nat.le_of_ble_eq_true rfl⟩) hS (fun q _ h => hFc q h) hFc (fun u2 t H1 locs ht hvm hw hB hz1 hk1 hS => ?_)
  obtain ⟨hPM, hK1, hDM⟩ := hB
  rw [ht] at hPM
  obtain ⟨hR, hg⟩ := hw
  have hKM : va_K D vwCl (tyM u2.2.1) s := va_K.moved hvm.symm hK1
  obtain ⟨hPC, hAp⟩ := apt_kept (X := [(q2, .inr (11, n12))]) hPC hAp.sym hk1 hDM
  have hDM : va_D (fun q => s.heap.size ≤ q) (wM u2.1 u2.2.1 u2.2.2) := hDM.weaken (fun k q _ h => hFc q.1 h)
  have hq : q2 = u2.1 31 := hg.symm
  clear hP hD hFc hk1 hz1 hK1 ht hvm
  refine lv_astore_n (lv' := [(2, .ref q2), (1, .ref q1), (0, .ref b)]) hx hb dL_law_15 rfl hl (by decide) rfl (fun ls hl => ?_)
  refine lv_iconst (v := nI 0) hx hb dL_law_16 (by decide) ?_
  refine lv_istore_n (lv' := [(3, .int (nI 0)), (2, .ref q2), (1, .ref q1), (0, .ref b)]) hx hb dL_law_17 rfl hl (by decide) rfl (fun ls hl => ?_)
  have hl : lv_has ls 4 (LL b (h00 q1 u) u2.1 0) := by rw [hq] at hl; exact hl
  exact la_loop (g := u2.1) (gy := u2.2.1) ⟨hx, hb, hml, hown, hts, hX, hbl, Nat.not_le.mpr hbl, hA, hKC, hKM, hs.1, hL⟩ hret hlk 512 0 cs0 u2.2.2 H1 locs ls _ _ ⟨hPC, hDC, hPM, hDM, hAp.sym, hS, hR⟩ hl (by omega) (Nat.zero_le _) (Nat.le_of_ble_eq_true rfl) (Nat.le_of_ble_eq_true rfl)

