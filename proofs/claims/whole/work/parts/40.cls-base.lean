/-! calls as in the reference's base, with what the contract takes of the tables beside the words (E: links between nest mates) -/
def k_stable (E : (Nat → Prop) → State → Prop) : Prop := (∀ (A A1 : Nat → Prop) (s U : State) (locs : List Loc), va_S A s.heap U.heap locs → (∀ q, A1 q → A q) → s.WarmedH U.vm → E A s → E A1 U) ∧ ∀ (A : Nat → Prop) (U : State) (g : JFrame) (mk : MethodId) (a : Array Value), E A U → E A (U.calling g mk a)
abbrev e_Pre {σ : Type} (E : (Nat → Prop) → State → Prop) (D : va_G) (tys : List (ClassId × FieldType)) (wf : σ → va_W) (S : σ) (sz : Nat) : State → Prop := fun U => U.heap.size = sz ∧ va_P D vwCl (wf S) U.heap ∧ va_K D vwCl tys U ∧ va_D (fun _ => True) (wf S) ∧ E (va_A (wf S) sz) U
abbrev e_Mi {σ : Type} (E : (Nat → Prop) → State → Prop) (l : Launch) (y : MethodName) (ws : List Cond) (rm : Room) (D : va_G) (tys : List (ClassId × FieldType)) (wf : σ → va_W) (av : List Value) (S : σ) (post : Int32 → σ → Prop) : Prop := ∀ sz : Nat, Met l y ws rm (va_Pc av (e_Pre E D tys wf S sz)) (va_Qi post (k_Post D tys wf (va_A (wf S) sz)) (va_A (wf S) sz)) 0 0 (va_A (wf S) sz)
abbrev e_Ml {σ : Type} (E : (Nat → Prop) → State → Prop) (l : Launch) (y : MethodName) (ws : List Cond) (rm : Room) (D : va_G) (tys : List (ClassId × FieldType)) (wf : σ → va_W) (av : List Value) (S : σ) (post : Int64 → σ → Prop) : Prop := ∀ sz : Nat, Met l y ws rm (va_Pc av (e_Pre E D tys wf S sz)) (va_Ql post (k_Post D tys wf (va_A (wf S) sz)) (va_A (wf S) sz)) 0 0 (va_A (wf S) sz)
abbrev e_Mq {σ : Type} (E : (Nat → Prop) → State → Prop) (l : Launch) (y : MethodName) (ws : List Cond) (rm : Room) (D : va_G) (tys : List (ClassId × FieldType)) (wf : σ → va_W) (av : List Value) (S : σ) (post : Option Nat → σ → Prop) : Prop := ∀ sz : Nat, Met l y ws rm (va_Pc av (e_Pre E D tys wf S sz)) (va_Qq post (k_Post D tys wf (va_A (wf S) sz)) (va_A (wf S) sz)) 0 0 (va_A (wf S) sz)
abbrev e_Mv {σ : Type} (E : (Nat → Prop) → State → Prop) (l : Launch) (y : MethodName) (ws : List Cond) (rm : Room) (D : va_G) (tys : List (ClassId × FieldType)) (wf : σ → va_W) (av : List Value) (S : σ) (post : σ → Prop) : Prop := ∀ sz : Nat, Met l y ws rm (va_Pc av (e_Pre E D tys wf S sz)) (va_Qv post (k_Post D tys wf (va_A (wf S) sz)) (va_A (wf S) sz)) 0 0 (va_A (wf S) sz)
section ECALL
variable {p : Program} {l : Launch} {e : Env} {R : Room} {s : State} {m : MethodId} {args : Array Value} {below : List Frame} {meth : Method} {c : Code} {H : Heap} {locs : List Loc} {cells slots : Nat} {Q : State → Prop}
variable {σ : Type} {E : (Nat → Prop) → State → Prop} {D : va_G} {tys : List (ClassId × FieldType)} {wf : σ → va_W} {S : σ} {y : MethodName} {ws Ts : List Cond} {rm : Room} {own C : String} {index maxL n nL pc : Nat} {bytes cc : ByteArray} {ret : Option FieldType} {b : Addr} {As rest st : List Value} {ls : Array Slot} {A : Nat → Prop}
theorem e_blind {av : List Value} {sz : Nat} (hE : k_stable E) : FrameBlind (va_Pc av (e_Pre E D tys wf S sz)) := by
  intro a U g mk q
  obtain ⟨q0, q1, qP, qK, qD, qE⟩ := q
  exact ⟨q0, q1, qP, va_K.moved (u := U) (U := U.calling g mk a) (Vm.Alike.refl U.vm) qK, qD, hE.2 _ U g mk a qE⟩
theorem e_here {av : List Value} (hE : k_stable E) (hs : E A s) (hK : va_K D vwCl tys s) (hP : va_P D vwCl (wf S) H) (hD : va_D A (wf S)) (hS : va_S A s.heap H locs) (hA : ∀ q, s.heap.size ≤ q → A q) : ∀ U : State, U.heap = H → s.WarmedH U.vm → va_Pc av (e_Pre E D tys wf S H.size) av.toArray U := by
  intro U hU hW
  exact ⟨rfl, by rw [hU], by rw [hU]; exact hP, va_K.moved hW.alike hK, hD.weaken (fun _ _ _ _ => trivial), hE.1 A _ s U locs (by rw [hU]; exact hS) (k_free hD hS hA) hW hs⟩
theorem e_callVi {post : Int32 → σ → Prop} (hE : k_stable E) (hs : E A s) (CF : CallFix p m c cc nL s args Ts own) (hM : e_Mi E l y ws rm D tys wf (.ref b :: As) S post) (cw : CallW R s args own C index y bytes maxL ret ws rm 0 0 n) (hrec : ∃ cell : Cell, H[b]? = some cell ∧ cell.vm.isStatics = false ∧ s.vm.findClass C = some cell.cls) (hK : va_K D vwCl tys s) (hP : va_P D vwCl (wf S) H) (hD : va_D A (wf S)) (hS : va_S A s.heap H locs) (hA : ∀ q, s.heap.size ≤ q → A q) (hn : As.length = n) (hsize : ls.size = nL) (hst : st = As.reverse ++ .ref b :: rest) (hW : (rest.map fun v => v.category).sum ≤ 8) (hdg : decode cc pc = .ok (.invokevirtual index, 3)) (hf : cells ≤ R.cells ∧ slots ≤ R.slots)
    (kk : ∀ (r : Int32) (S' : σ) (H1 : Heap) (locs1 : List Loc), post r S' → va_P D vwCl (wf S') H1 → va_D A (wf S') → va_S A s.heap H1 locs1 → W p l e R s m args below meth c H1 locs1 cells slots Q (F0 m (pc + 3) ls (.int r :: rest))) : W p l e R s m args below meth c H locs cells slots Q (F0 m pc ls st) := by
  have hFc := k_free hD hS hA
  refine va_calli (va_runV (As := As) (rest := rest) CF (hM H.size) cw ⟨e_blind hE, hrec, e_here hE hs hK hP hD hS hA⟩ rfl hn hsize hst (lv_room hW) hdg hf) hS (fun q _ h => hFc q h) hFc (fun r u t H1 locs1 ht hvm hw hB hz1 hk1 hS1 => ?_)
  obtain ⟨hP1, hK1, hD1⟩ := hB
  rw [ht] at hP1
  exact kk r u H1 locs1 hw hP1 (hD1.weaken (fun k q _ h => hFc q.1 h)) hS1
theorem e_callVl {post : Int64 → σ → Prop} (hE : k_stable E) (hs : E A s) (CF : CallFix p m c cc nL s args Ts own) (hM : e_Ml E l y ws rm D tys wf (.ref b :: As) S post) (cw : CallW R s args own C index y bytes maxL ret ws rm 0 0 n) (hrec : ∃ cell : Cell, H[b]? = some cell ∧ cell.vm.isStatics = false ∧ s.vm.findClass C = some cell.cls) (hK : va_K D vwCl tys s) (hP : va_P D vwCl (wf S) H) (hD : va_D A (wf S)) (hS : va_S A s.heap H locs) (hA : ∀ q, s.heap.size ≤ q → A q) (hn : As.length = n) (hsize : ls.size = nL) (hst : st = As.reverse ++ .ref b :: rest) (hW : (rest.map fun v => v.category).sum ≤ 8) (hdg : decode cc pc = .ok (.invokevirtual index, 3)) (hf : cells ≤ R.cells ∧ slots ≤ R.slots)
    (kk : ∀ (r : Int64) (S' : σ) (H1 : Heap) (locs1 : List Loc), post r S' → va_P D vwCl (wf S') H1 → va_D A (wf S') → va_S A s.heap H1 locs1 → W p l e R s m args below meth c H1 locs1 cells slots Q (F0 m (pc + 3) ls (.long r :: rest))) : W p l e R s m args below meth c H locs cells slots Q (F0 m pc ls st) := by
  have hFc := k_free hD hS hA
  refine va_calll (va_runV (As := As) (rest := rest) CF (hM H.size) cw ⟨e_blind hE, hrec, e_here hE hs hK hP hD hS hA⟩ rfl hn hsize hst (lv_room hW) hdg hf) hS (fun q _ h => hFc q h) hFc (fun r u t H1 locs1 ht hvm hw hB hz1 hk1 hS1 => ?_)
  obtain ⟨hP1, hK1, hD1⟩ := hB
  rw [ht] at hP1
  exact kk r u H1 locs1 hw hP1 (hD1.weaken (fun k q _ h => hFc q.1 h)) hS1
theorem e_callVq {post : Option Nat → σ → Prop} (hE : k_stable E) (hs : E A s) (CF : CallFix p m c cc nL s args Ts own) (hM : e_Mq E l y ws rm D tys wf (.ref b :: As) S post) (cw : CallW R s args own C index y bytes maxL ret ws rm 0 0 n) (hrec : ∃ cell : Cell, H[b]? = some cell ∧ cell.vm.isStatics = false ∧ s.vm.findClass C = some cell.cls) (hK : va_K D vwCl tys s) (hP : va_P D vwCl (wf S) H) (hD : va_D A (wf S)) (hS : va_S A s.heap H locs) (hA : ∀ q, s.heap.size ≤ q → A q) (hn : As.length = n) (hsize : ls.size = nL) (hst : st = As.reverse ++ .ref b :: rest) (hW : (rest.map fun v => v.category).sum ≤ 8) (hdg : decode cc pc = .ok (.invokevirtual index, 3)) (hf : cells ≤ R.cells ∧ slots ≤ R.slots)
    (kk : ∀ (r : Option Nat) (S' : σ) (H1 : Heap) (locs1 : List Loc), post r S' → va_P D vwCl (wf S') H1 → va_D A (wf S') → va_S A s.heap H1 locs1 → W p l e R s m args below meth c H1 locs1 cells slots Q (F0 m (pc + 3) ls (va_rf r :: rest))) : W p l e R s m args below meth c H locs cells slots Q (F0 m pc ls st) := by
  have hFc := k_free hD hS hA
  refine va_callq (va_runV (As := As) (rest := rest) CF (hM H.size) cw ⟨e_blind hE, hrec, e_here hE hs hK hP hD hS hA⟩ rfl hn hsize hst (lv_room hW) hdg hf) hS (fun q _ h => hFc q h) hFc (fun r u t H1 locs1 ht hvm hw hB hz1 hk1 hS1 => ?_)
  obtain ⟨hP1, hK1, hD1⟩ := hB
  rw [ht] at hP1
  exact kk r u H1 locs1 hw hP1 (hD1.weaken (fun k q _ h => hFc q.1 h)) hS1
theorem e_callVv {post : σ → Prop} (hE : k_stable E) (hs : E A s) (CF : CallFix p m c cc nL s args Ts own) (hM : e_Mv E l y ws rm D tys wf (.ref b :: As) S post) (cw : CallW R s args own C index y bytes maxL ret ws rm 0 0 n) (hrec : ∃ cell : Cell, H[b]? = some cell ∧ cell.vm.isStatics = false ∧ s.vm.findClass C = some cell.cls) (hK : va_K D vwCl tys s) (hP : va_P D vwCl (wf S) H) (hD : va_D A (wf S)) (hS : va_S A s.heap H locs) (hA : ∀ q, s.heap.size ≤ q → A q) (hn : As.length = n) (hsize : ls.size = nL) (hst : st = As.reverse ++ .ref b :: rest) (hW : (rest.map fun v => v.category).sum ≤ 8) (hdg : decode cc pc = .ok (.invokevirtual index, 3)) (hf : cells ≤ R.cells ∧ slots ≤ R.slots)
    (kk : ∀ (S' : σ) (H1 : Heap) (locs1 : List Loc), post S' → va_P D vwCl (wf S') H1 → va_D A (wf S') → va_S A s.heap H1 locs1 → W p l e R s m args below meth c H1 locs1 cells slots Q (F0 m (pc + 3) ls rest)) : W p l e R s m args below meth c H locs cells slots Q (F0 m pc ls st) := by
  have hFc := k_free hD hS hA
  refine va_callv (va_runV (As := As) (rest := rest) CF (hM H.size) cw ⟨e_blind hE, hrec, e_here hE hs hK hP hD hS hA⟩ rfl hn hsize hst (lv_room hW) hdg hf) hS (fun q _ h => hFc q h) hFc (fun u t H1 locs1 ht hvm hw hB hz1 hk1 hS1 => ?_)
  obtain ⟨hP1, hK1, hD1⟩ := hB
  rw [ht] at hP1
  exact kk u H1 locs1 hw hP1 (hD1.weaken (fun k q _ h => hFc q.1 h)) hS1
theorem e_callSi {post : Int32 → σ → Prop} (hE : k_stable E) (hs : E A s) (CF : CallFix p m c cc nL s args Ts own) (hM : e_Mi E l y ws rm D tys wf (As) S post) (cw : CallB R s args own index y bytes maxL ret ws rm 0 0 n ∧ (Cond.static y).before args s = true) (hK : va_K D vwCl tys s) (hP : va_P D vwCl (wf S) H) (hD : va_D A (wf S)) (hS : va_S A s.heap H locs) (hA : ∀ q, s.heap.size ≤ q → A q) (hn : As.length = n) (hsize : ls.size = nL) (hst : st = As.reverse ++ rest) (hW : (rest.map fun v => v.category).sum ≤ 8) (hdg : decode cc pc = .ok (.invokestatic index, 3)) (hf : cells ≤ R.cells ∧ slots ≤ R.slots)
    (kk : ∀ (r : Int32) (S' : σ) (H1 : Heap) (locs1 : List Loc), post r S' → va_P D vwCl (wf S') H1 → va_D A (wf S') → va_S A s.heap H1 locs1 → W p l e R s m args below meth c H1 locs1 cells slots Q (F0 m (pc + 3) ls (.int r :: rest))) : W p l e R s m args below meth c H locs cells slots Q (F0 m pc ls st) := by
  have hFc := k_free hD hS hA
  refine va_calli (va_runS (As := As) (rest := rest) CF (hM H.size) cw ⟨e_blind hE, e_here hE hs hK hP hD hS hA⟩ rfl hn hsize hst (lv_room hW) hdg hf) hS (fun q _ h => hFc q h) hFc (fun r u t H1 locs1 ht hvm hw hB hz1 hk1 hS1 => ?_)
  obtain ⟨hP1, hK1, hD1⟩ := hB
  rw [ht] at hP1
  exact kk r u H1 locs1 hw hP1 (hD1.weaken (fun k q _ h => hFc q.1 h)) hS1
theorem e_callSl {post : Int64 → σ → Prop} (hE : k_stable E) (hs : E A s) (CF : CallFix p m c cc nL s args Ts own) (hM : e_Ml E l y ws rm D tys wf (As) S post) (cw : CallB R s args own index y bytes maxL ret ws rm 0 0 n ∧ (Cond.static y).before args s = true) (hK : va_K D vwCl tys s) (hP : va_P D vwCl (wf S) H) (hD : va_D A (wf S)) (hS : va_S A s.heap H locs) (hA : ∀ q, s.heap.size ≤ q → A q) (hn : As.length = n) (hsize : ls.size = nL) (hst : st = As.reverse ++ rest) (hW : (rest.map fun v => v.category).sum ≤ 8) (hdg : decode cc pc = .ok (.invokestatic index, 3)) (hf : cells ≤ R.cells ∧ slots ≤ R.slots)
    (kk : ∀ (r : Int64) (S' : σ) (H1 : Heap) (locs1 : List Loc), post r S' → va_P D vwCl (wf S') H1 → va_D A (wf S') → va_S A s.heap H1 locs1 → W p l e R s m args below meth c H1 locs1 cells slots Q (F0 m (pc + 3) ls (.long r :: rest))) : W p l e R s m args below meth c H locs cells slots Q (F0 m pc ls st) := by
  have hFc := k_free hD hS hA
  refine va_calll (va_runS (As := As) (rest := rest) CF (hM H.size) cw ⟨e_blind hE, e_here hE hs hK hP hD hS hA⟩ rfl hn hsize hst (lv_room hW) hdg hf) hS (fun q _ h => hFc q h) hFc (fun r u t H1 locs1 ht hvm hw hB hz1 hk1 hS1 => ?_)
  obtain ⟨hP1, hK1, hD1⟩ := hB
  rw [ht] at hP1
  exact kk r u H1 locs1 hw hP1 (hD1.weaken (fun k q _ h => hFc q.1 h)) hS1
theorem e_callSv {post : σ → Prop} (hE : k_stable E) (hs : E A s) (CF : CallFix p m c cc nL s args Ts own) (hM : e_Mv E l y ws rm D tys wf (As) S post) (cw : CallB R s args own index y bytes maxL ret ws rm 0 0 n ∧ (Cond.static y).before args s = true) (hK : va_K D vwCl tys s) (hP : va_P D vwCl (wf S) H) (hD : va_D A (wf S)) (hS : va_S A s.heap H locs) (hA : ∀ q, s.heap.size ≤ q → A q) (hn : As.length = n) (hsize : ls.size = nL) (hst : st = As.reverse ++ rest) (hW : (rest.map fun v => v.category).sum ≤ 8) (hdg : decode cc pc = .ok (.invokestatic index, 3)) (hf : cells ≤ R.cells ∧ slots ≤ R.slots)
    (kk : ∀ (S' : σ) (H1 : Heap) (locs1 : List Loc), post S' → va_P D vwCl (wf S') H1 → va_D A (wf S') → va_S A s.heap H1 locs1 → W p l e R s m args below meth c H1 locs1 cells slots Q (F0 m (pc + 3) ls rest)) : W p l e R s m args below meth c H locs cells slots Q (F0 m pc ls st) := by
  have hFc := k_free hD hS hA
  refine va_callv (va_runS (As := As) (rest := rest) CF (hM H.size) cw ⟨e_blind hE, e_here hE hs hK hP hD hS hA⟩ rfl hn hsize hst (lv_room hW) hdg hf) hS (fun q _ h => hFc q h) hFc (fun u t H1 locs1 ht hvm hw hB hz1 hk1 hS1 => ?_)
  obtain ⟨hP1, hK1, hD1⟩ := hB
  rw [ht] at hP1
  exact kk u H1 locs1 hw hP1 (hD1.weaken (fun k q _ h => hFc q.1 h)) hS1
theorem e_callNi {host : String} {post : Int32 → σ → Prop} (hE : k_stable E) (hs : E A s) (CF : CallFix p m c cc nL s args Ts own) (hM : e_Mi E l y ws rm D tys wf (As) S post) (cw : va_CN R s args own index y host bytes maxL ret ws rm 0 0 n ∧ (Cond.static y).before args s = true ∧ True) (hK : va_K D vwCl tys s) (hP : va_P D vwCl (wf S) H) (hD : va_D A (wf S)) (hS : va_S A s.heap H locs) (hA : ∀ q, s.heap.size ≤ q → A q) (hn : As.length = n) (hsize : ls.size = nL) (hst : st = As.reverse ++ rest) (hW : (rest.map fun v => v.category).sum ≤ 8) (hdg : decode cc pc = .ok (.invokestatic index, 3)) (hf : cells ≤ R.cells ∧ slots ≤ R.slots)
    (kk : ∀ (r : Int32) (S' : σ) (H1 : Heap) (locs1 : List Loc), post r S' → va_P D vwCl (wf S') H1 → va_D A (wf S') → va_S A s.heap H1 locs1 → W p l e R s m args below meth c H1 locs1 cells slots Q (F0 m (pc + 3) ls (.int r :: rest))) : W p l e R s m args below meth c H locs cells slots Q (F0 m pc ls st) := by
  have hFc := k_free hD hS hA
  refine va_calli (va_runSN (As := As) (rest := rest) CF (hM H.size) cw ⟨e_blind hE, e_here hE hs hK hP hD hS hA⟩ rfl hn hsize hst (lv_room hW) hdg hf) hS (fun q _ h => hFc q h) hFc (fun r u t H1 locs1 ht hvm hw hB hz1 hk1 hS1 => ?_)
  obtain ⟨hP1, hK1, hD1⟩ := hB
  rw [ht] at hP1
  exact kk r u H1 locs1 hw hP1 (hD1.weaken (fun k q _ h => hFc q.1 h)) hS1
theorem e_callNl {host : String} {post : Int64 → σ → Prop} (hE : k_stable E) (hs : E A s) (CF : CallFix p m c cc nL s args Ts own) (hM : e_Ml E l y ws rm D tys wf (As) S post) (cw : va_CN R s args own index y host bytes maxL ret ws rm 0 0 n ∧ (Cond.static y).before args s = true ∧ True) (hK : va_K D vwCl tys s) (hP : va_P D vwCl (wf S) H) (hD : va_D A (wf S)) (hS : va_S A s.heap H locs) (hA : ∀ q, s.heap.size ≤ q → A q) (hn : As.length = n) (hsize : ls.size = nL) (hst : st = As.reverse ++ rest) (hW : (rest.map fun v => v.category).sum ≤ 8) (hdg : decode cc pc = .ok (.invokestatic index, 3)) (hf : cells ≤ R.cells ∧ slots ≤ R.slots)
    (kk : ∀ (r : Int64) (S' : σ) (H1 : Heap) (locs1 : List Loc), post r S' → va_P D vwCl (wf S') H1 → va_D A (wf S') → va_S A s.heap H1 locs1 → W p l e R s m args below meth c H1 locs1 cells slots Q (F0 m (pc + 3) ls (.long r :: rest))) : W p l e R s m args below meth c H locs cells slots Q (F0 m pc ls st) := by
  have hFc := k_free hD hS hA
  refine va_calll (va_runSN (As := As) (rest := rest) CF (hM H.size) cw ⟨e_blind hE, e_here hE hs hK hP hD hS hA⟩ rfl hn hsize hst (lv_room hW) hdg hf) hS (fun q _ h => hFc q h) hFc (fun r u t H1 locs1 ht hvm hw hB hz1 hk1 hS1 => ?_)
  obtain ⟨hP1, hK1, hD1⟩ := hB
  rw [ht] at hP1
  exact kk r u H1 locs1 hw hP1 (hD1.weaken (fun k q _ h => hFc q.1 h)) hS1
theorem e_callNv {host : String} {post : σ → Prop} (hE : k_stable E) (hs : E A s) (CF : CallFix p m c cc nL s args Ts own) (hM : e_Mv E l y ws rm D tys wf (As) S post) (cw : va_CN R s args own index y host bytes maxL ret ws rm 0 0 n ∧ (Cond.static y).before args s = true ∧ True) (hK : va_K D vwCl tys s) (hP : va_P D vwCl (wf S) H) (hD : va_D A (wf S)) (hS : va_S A s.heap H locs) (hA : ∀ q, s.heap.size ≤ q → A q) (hn : As.length = n) (hsize : ls.size = nL) (hst : st = As.reverse ++ rest) (hW : (rest.map fun v => v.category).sum ≤ 8) (hdg : decode cc pc = .ok (.invokestatic index, 3)) (hf : cells ≤ R.cells ∧ slots ≤ R.slots)
    (kk : ∀ (S' : σ) (H1 : Heap) (locs1 : List Loc), post S' → va_P D vwCl (wf S') H1 → va_D A (wf S') → va_S A s.heap H1 locs1 → W p l e R s m args below meth c H1 locs1 cells slots Q (F0 m (pc + 3) ls rest)) : W p l e R s m args below meth c H locs cells slots Q (F0 m pc ls st) := by
  have hFc := k_free hD hS hA
  refine va_callv (va_runSN (As := As) (rest := rest) CF (hM H.size) cw ⟨e_blind hE, e_here hE hs hK hP hD hS hA⟩ rfl hn hsize hst (lv_room hW) hdg hf) hS (fun q _ h => hFc q h) hFc (fun u t H1 locs1 ht hvm hw hB hz1 hk1 hS1 => ?_)
  obtain ⟨hP1, hK1, hD1⟩ := hB
  rw [ht] at hP1
  exact kk u H1 locs1 hw hP1 (hD1.weaken (fun k q _ h => hFc q.1 h)) hS1
theorem e_callUi {owner : String} {x : MethodName} {post : Int32 → σ → Prop} (hE : k_stable E) (hs : E A s) (CF : CallFix p m c cc nL s args Ts own) (hM : e_Mi E l y ws rm D tys wf (.ref b :: As) S post) (cw : va_CU R s args own C owner index x y bytes maxL ret ws rm 0 0 n) (hrec : ∃ cell : Cell, H[b]? = some cell ∧ cell.vm.isStatics = false ∧ s.vm.findClass C = some cell.cls) (hK : va_K D vwCl tys s) (hP : va_P D vwCl (wf S) H) (hD : va_D A (wf S)) (hS : va_S A s.heap H locs) (hA : ∀ q, s.heap.size ≤ q → A q) (hn : As.length = n) (hsize : ls.size = nL) (hst : st = As.reverse ++ .ref b :: rest) (hW : (rest.map fun v => v.category).sum ≤ 8) (hdg : decode cc pc = .ok (.invokevirtual index, 3)) (hf : cells ≤ R.cells ∧ slots ≤ R.slots)
    (kk : ∀ (r : Int32) (S' : σ) (H1 : Heap) (locs1 : List Loc), post r S' → va_P D vwCl (wf S') H1 → va_D A (wf S') → va_S A s.heap H1 locs1 → W p l e R s m args below meth c H1 locs1 cells slots Q (F0 m (pc + 3) ls (.int r :: rest))) : W p l e R s m args below meth c H locs cells slots Q (F0 m pc ls st) := by
  have hFc := k_free hD hS hA
  refine va_calli (va_runU (As := As) (rest := rest) CF (hM H.size) cw ⟨e_blind hE, hrec, e_here hE hs hK hP hD hS hA⟩ rfl hn hsize hst (lv_room hW) hdg hf) hS (fun q _ h => hFc q h) hFc (fun r u t H1 locs1 ht hvm hw hB hz1 hk1 hS1 => ?_)
  obtain ⟨hP1, hK1, hD1⟩ := hB
  rw [ht] at hP1
  exact kk r u H1 locs1 hw hP1 (hD1.weaken (fun k q _ h => hFc q.1 h)) hS1
end ECALL
/-! rows of numbers behind their tests: what the class's own at, put, copyPart, copyWhole and the library's fill do -/
def k_at (n : Nat) (f : Nat → Int32) (i : Int32) : Int32 := if i < 0 then 0 else if nI n ≤ i then 0 else f i.toNatClampNeg
def k_put (n : Nat) (f : Nat → Int32) (i x : Int32) : Nat → Int32 := if i < 0 then f else if nI n ≤ i then f else upd f i.toNatClampNeg x
def k_fill (n : Nat) (f : Nat → Int32) (x : Int32) : Nat → Int32 := fun j => if j < n then x else f j
def k_copyP (n0 n1 : Nat) (f : Nat → Int32) (sp : Int32) (g : Nat → Int32) (dp ln : Int32) : Nat → Int32 := if sp < 0 then g else if dp < 0 then g else if ln < 0 then g else if nI n0 - sp < ln then g else if nI n1 - dp < ln then g else va_cpy f g sp.toNatClampNeg dp.toNatClampNeg ln.toNatClampNeg
def k_copyW (n0 n1 : Nat) (f g : Nat → Int32) : Nat → Int32 := k_copyP n0 n1 f 0 g 0 (nI n0)
theorem k_setself {α : Type} {l : List α} {k : Nat} {x : α} (h : l[k]? = some x) : l.set k x = l := by
  obtain ⟨hk, hx⟩ := List.getElem?_eq_some_iff.mp h
  rw [← hx]
  exact List.set_getElem_self hk
theorem k_inix {i : Int32} {n : Nat} (hn : n < 2 ^ 31) (h0 : ¬ i < 0) (h1 : ¬ nI n ≤ i) : vp_in i n := by
  rcases pk_ix i hn with h | h | ⟨j, hj, rfl⟩
  · exact absurd h h0
  · exact absurd h h1
  · exact vp_in_nI hj hn
set_option maxHeartbeats 4000000 in
theorem cA_at {σ : Type} (l : Launch) (D : va_G) (E : (Nat → Prop) → State → Prop) (tys : List (ClassId × FieldType)) (wf : σ → va_W) (S : σ) (q0 t0 a : Nat) (cA : ClassId) (n : Nat) (f : Nat → Int32) (hq : (wf S)[q0]? = some (a, .inl (cA, n, .inl f))) (ht : tys[t0]? = some (cA, .int)) (hn : n < 2 ^ 31) (i : Int32) (post : Int32 → σ → Prop) (hw : post (k_at n f i) S) : e_Mi E l yX11_at wsX11_at { frames := 0, cells := 0, slots := 0, locals := 0 } D tys wf [.ref a, .int i] S post := by
  intro sz
  refine Met.ofW (cc := cX11_at) (maxL := 2) (ret := (some .int)) (by decide) rfl ?_
  intro p e s m args below meth c s₁ B hml hv
  obtain ⟨rfl, hsz, hP, hK, hD0, hs⟩ := hv
  have hx := B.exec
  have hb := B.bytes
  have hr := B.returns
  have hlocks := B.notSynchronized
  subst hsz
  have hD := hD0.self (sz := s.heap.size)
  generalize hAe : va_A (wf S) s.heap.size = A at hD ⊢
  have hS : va_S A s.heap s.heap [] := va_S.rf
  have hl := lv_entry ([.ref a, .int i]) (n := 2) (Nat.le_of_ble_eq_true rfl)
  rw [lg_entry_eq]
  generalize (lg_sl ([.ref a, .int i]) ++ List.replicate (2 - (lg_sl ([.ref a, .int i])).length) Slot.unset).toArray = ls at hl ⊢
  have hl : lv_has ls 2 [(0, .ref a), (1, .int i)] := hl
  refine lv_iload_n hx hb dX11_at_0 rfl (lv_at hl 1 rfl) ?_
  refine lv_if_lt (tgt := 16) hx hb dX11_at_1 (by decide) (fun c1 => ?_) (fun c1 => ?_)
  · rw [show k_at n f i = 0 from if_pos c1] at hw
    refine lv_iconst (v := 0) hx hb dX11_at_16 (by decide) ?_
    exact W.iret (v := 0) hx hb hr (fun t ht hW => ⟨⟨0, S, rfl, hw, by rw [ht]; exact hP, va_K.moved hW.alike hK, hD⟩, hS.F ht⟩) hS.2.2 dX11_at_17
  · refine lv_iload_n hx hb dX11_at_4 rfl (lv_at hl 1 rfl) ?_
    refine lv_aload_n hx hb dX11_at_5 rfl (lv_at hl 0 rfl) ?_
    refine va_alen (v := nI n) hx hb hK hP q0 t0 hq ht rfl dX11_at_6 ?_
    refine lv_icmp_ge (tgt := 16) hx hb dX11_at_7 (by decide) (fun c2 => ?_) (fun c2 => ?_)
    · rw [show k_at n f i = 0 from (if_neg c1).trans (if_pos c2)] at hw
      refine lv_iconst (v := 0) hx hb dX11_at_16 (by decide) ?_
      exact W.iret (v := 0) hx hb hr (fun t ht hW => ⟨⟨0, S, rfl, hw, by rw [ht]; exact hP, va_K.moved hW.alike hK, hD⟩, hS.F ht⟩) hS.2.2 dX11_at_17
    · rw [show k_at n f i = f i.toNatClampNeg from (if_neg c1).trans (if_neg c2)] at hw
      refine lv_aload_n hx hb dX11_at_10 rfl (lv_at hl 0 rfl) ?_
      refine lv_iload_n hx hb dX11_at_11 rfl (lv_at hl 1 rfl) ?_
      refine va_iald (f := f) hx hb hK hP q0 t0 hq ht (k_inix hn c1 c2) dX11_at_12 ?_
      refine lv_goto (tgt := 17) hx hb dX11_at_13 (by decide) ?_
      exact W.iret (v := f i.toNatClampNeg) hx hb hr (fun t ht hW => ⟨⟨f i.toNatClampNeg, S, rfl, hw, by rw [ht]; exact hP, va_K.moved hW.alike hK, hD⟩, hS.F ht⟩) hS.2.2 dX11_at_17
set_option maxHeartbeats 4000000 in
theorem cA_put {σ : Type} (l : Launch) (D : va_G) (E : (Nat → Prop) → State → Prop) (tys : List (ClassId × FieldType)) (wf : σ → va_W) (gt : σ → Nat → Int32) (se : σ → (Nat → Int32) → σ) (S : σ) (q0 t0 a : Nat) (cA : ClassId) (n : Nat) (hq : (wf S)[q0]? = some (a, .inl (cA, n, .inl (gt S)))) (hse : ∀ f, (wf S).set q0 (a, .inl (cA, n, .inl f)) = wf (se S f)) (ht : tys[t0]? = some (cA, .int)) (hn : n < 2 ^ 31) (i x : Int32) (post : σ → Prop) (hw : post (se S (k_put n (gt S) i x))) : e_Mv E l yX11_put wsX11_put { frames := 0, cells := 0, slots := 0, locals := 0 } D tys wf [.ref a, .int i, .int x] S post := by
  intro sz
  refine Met.ofW (cc := cX11_put) (maxL := 3) (ret := none) (by decide) rfl ?_
  intro p e s m args below meth c s₁ B hml hv
  obtain ⟨rfl, hsz, hP, hK, hD0, hs⟩ := hv
  have hx := B.exec
  have hb := B.bytes
  have hr := B.returns
  have hlocks := B.notSynchronized
  subst hsz
  have hD := hD0.self (sz := s.heap.size)
  generalize hAe : va_A (wf S) s.heap.size = A at hD ⊢
  have hS : va_S A s.heap s.heap [] := va_S.rf
  have hl := lv_entry ([.ref a, .int i, .int x]) (n := 3) (Nat.le_of_ble_eq_true rfl)
  rw [lg_entry_eq]
  generalize (lg_sl ([.ref a, .int i, .int x]) ++ List.replicate (3 - (lg_sl ([.ref a, .int i, .int x])).length) Slot.unset).toArray = ls at hl ⊢
  have hl : lv_has ls 3 [(0, .ref a), (1, .int i), (2, .int x)] := hl
  have hid : wf (se S (gt S)) = wf S := by rw [← hse]; exact k_setself hq
  refine lv_iload_n hx hb dX11_put_0 rfl (lv_at hl 1 rfl) ?_
  refine lv_if_lt (tgt := 14) hx hb dX11_put_1 (by decide) (fun c1 => ?_) (fun c1 => ?_)
  · rw [show k_put n (gt S) i x = gt S from if_pos c1] at hw
    exact W.vret hx hb hr (fun t ht hW => ⟨⟨se S (gt S), rfl, hw, by rw [ht, hid]; exact hP, va_K.moved hW.alike hK, by rw [hid]; exact hD⟩, hS.F ht⟩) hS.2.2 dX11_put_14
  · refine lv_iload_n hx hb dX11_put_4 rfl (lv_at hl 1 rfl) ?_
    refine lv_aload_n hx hb dX11_put_5 rfl (lv_at hl 0 rfl) ?_
    refine va_alen (v := nI n) hx hb hK hP q0 t0 hq ht rfl dX11_put_6 ?_
    refine lv_icmp_ge (tgt := 14) hx hb dX11_put_7 (by decide) (fun c2 => ?_) (fun c2 => ?_)
    · rw [show k_put n (gt S) i x = gt S from (if_neg c1).trans (if_pos c2)] at hw
      exact W.vret hx hb hr (fun t ht hW => ⟨⟨se S (gt S), rfl, hw, by rw [ht, hid]; exact hP, va_K.moved hW.alike hK, by rw [hid]; exact hD⟩, hS.F ht⟩) hS.2.2 dX11_put_14
    · rw [show k_put n (gt S) i x = upd (gt S) i.toNatClampNeg x from (if_neg c1).trans (if_neg c2)] at hw
      refine lv_aload_n hx hb dX11_put_10 rfl (lv_at hl 0 rfl) ?_
      refine lv_iload_n hx hb dX11_put_11 rfl (lv_at hl 1 rfl) ?_
      refine lv_iload_n hx hb dX11_put_12 rfl (lv_at hl 2 rfl) ?_
      refine va_iast (f := gt S) hx hb hK hP hD hS q0 t0 hq ht (k_inix hn c1 c2) dX11_put_13 (fun H locs hP hD hS => ?_)
      rw [hse] at hP hD
      exact W.vret hx hb hr (fun t ht hW => ⟨⟨_, rfl, hw, by rw [ht]; exact hP, va_K.moved hW.alike hK, hD⟩, hS.F ht⟩) hS.2.2 dX11_put_14
theorem k_cpin {sp ln : Int32} {n : Nat} (hn : n < 2 ^ 31) (h0 : ¬ sp < 0) (h1 : ¬ ln < 0) (h2 : ¬ nI n - sp < ln) : sp.toNatClampNeg + ln.toNatClampNeg ≤ n := by
  obtain ⟨j, hj, rfl⟩ := nI_of h0
  obtain ⟨k, hk, rfl⟩ := nI_of h1
  rw [nI_clamp hj, nI_clamp hk]
  rw [Int32.lt_iff_toInt_lt, Int32.toInt_sub, nI_toInt hj, nI_toInt hk, nI_toInt hn] at h2
  rw [Int.bmod_eq_of_le (by omega) (by omega)] at h2
  omega
set_option maxHeartbeats 4000000 in
theorem cA_copyPart {σ : Type} (l : Launch) (D : va_G) (E : (Nat → Prop) → State → Prop) (tys : List (ClassId × FieldType)) (wf : σ → va_W) (S : σ) (q0 t0 q1 t1 a0 : Nat) (c0 : ClassId) (a1 : Nat) (c1 : ClassId) (n0 n1 : Nat) (ga gb : σ → Nat → Int32) (sb : σ → (Nat → Int32) → σ) (h0 : (wf S)[q0]? = some (a0, .inl (c0, n0, .inl (ga S)))) (h1 : (wf S)[q1]? = some (a1, .inl (c1, n1, .inl (gb S)))) (hse : ∀ f, (wf S).set q1 (a1, .inl (c1, n1, .inl f)) = wf (sb S f)) (ht0 : tys[t0]? = some (c0, .int)) (ht1 : tys[t1]? = some (c1, .int)) (hn0 : n0 < 2 ^ 31) (hn1 : n1 < 2 ^ 31) (sp dp ln : Int32) (post : σ → Prop) (hw : post (sb S (k_copyP n0 n1 (ga S) sp (gb S) dp ln))) : e_Mv E l yX11_copyPart wsX11_copyPart { frames := 1, cells := 0, slots := 0, locals := 60 } D tys wf [.ref a0, .int sp, .ref a1, .int dp, .int ln] S post := by
  intro sz
  refine Met.ofW (cc := cX11_copyPart) (maxL := 5) (ret := none) (by decide) rfl ?_
  intro p e s m args below meth c s₁ B hml hv
  obtain ⟨rfl, hsz, hP, hK, hD0, hs⟩ := hv
  have hx := B.exec
  have hb := B.bytes
  have hr := B.returns
  have hlocks := B.notSynchronized
  have hts := atoms_spec (ws := wsX11_copyPart) B.pre
  have hown : s.vm.findClass RX11 = some m.cls := findClass_of_methodNamed B.named
  subst hsz
  have hD := hD0.self (sz := s.heap.size)
  generalize hAe : va_A (wf S) s.heap.size = A at hD ⊢
  have hS : va_S A s.heap s.heap [] := va_S.rf
  have hl := lv_entry ([.ref a0, .int sp, .ref a1, .int dp, .int ln]) (n := 5) (Nat.le_of_ble_eq_true rfl)
  rw [lg_entry_eq]
  generalize (lg_sl ([.ref a0, .int sp, .ref a1, .int dp, .int ln]) ++ List.replicate (5 - (lg_sl ([.ref a0, .int sp, .ref a1, .int dp, .int ln])).length) Slot.unset).toArray = ls at hl ⊢
  have hl : lv_has ls 5 [(0, .ref a0), (1, .int sp), (2, .ref a1), (3, .int dp), (4, .int ln)] := hl
  have hid : wf (sb S (gb S)) = wf S := by rw [← hse]; exact k_setself h1
  have hout : k_copyP n0 n1 (ga S) sp (gb S) dp ln = gb S → W p l e (headSpec wsX11_copyPart { frames := 1, cells := 0, slots := 0, locals := 60 }).room s m (([.ref a0, .int sp, .ref a1, .int dp, .int ln] : List Value).toArray) below meth c s.heap [] 0 0 (MQ below (va_Qv post (k_Post D tys wf A) A) (([.ref a0, .int sp, .ref a1, .int dp, .int ln] : List Value).toArray) s 0 0 A) (F0 m 40 ls []) := by
    intro he
    rw [he] at hw
    exact W.vret hx hb hr (fun t ht hW => ⟨⟨sb S (gb S), rfl, hw, by rw [ht, hid]; exact hP, va_K.moved hW.alike hK, by rw [hid]; exact hD⟩, hS.F ht⟩) hS.2.2 dX11_copyPart_40
  refine lv_iload_n hx hb dX11_copyPart_0 rfl (lv_at hl 1 rfl) ?_
  refine lv_if_lt (tgt := 40) hx hb dX11_copyPart_1 (by decide) (fun e1 => hout (if_pos e1)) (fun e1 => ?_)
  refine lv_iload_n hx hb dX11_copyPart_4 rfl (lv_at hl 3 rfl) ?_
  refine lv_if_lt (tgt := 40) hx hb dX11_copyPart_5 (by decide) (fun e2 => hout ((if_neg e1).trans (if_pos e2))) (fun e2 => ?_)
  refine lv_iload hx hb dX11_copyPart_8 (lv_at hl 4 rfl) ?_
  refine lv_if_lt (tgt := 40) hx hb dX11_copyPart_10 (by decide) (fun e3 => hout ((if_neg e1).trans ((if_neg e2).trans (if_pos e3)))) (fun e3 => ?_)
  refine lv_iload hx hb dX11_copyPart_13 (lv_at hl 4 rfl) ?_
  refine lv_aload_n hx hb dX11_copyPart_15 rfl (lv_at hl 0 rfl) ?_
  refine va_alen (v := nI n0) hx hb hK hP q0 t0 h0 ht0 rfl dX11_copyPart_16 ?_
  refine lv_iload_n hx hb dX11_copyPart_17 rfl (lv_at hl 1 rfl) ?_
  refine lv_isub hx hb dX11_copyPart_18 ?_
  refine lv_icmp_gt (tgt := 40) hx hb dX11_copyPart_19 (by decide) (fun e4 => hout ((if_neg e1).trans ((if_neg e2).trans ((if_neg e3).trans (if_pos e4))))) (fun e4 => ?_)
  refine lv_iload hx hb dX11_copyPart_22 (lv_at hl 4 rfl) ?_
  refine lv_aload_n hx hb dX11_copyPart_24 rfl (lv_at hl 2 rfl) ?_
  refine va_alen (v := nI n1) hx hb hK hP q1 t1 h1 ht1 rfl dX11_copyPart_25 ?_
  refine lv_iload_n hx hb dX11_copyPart_26 rfl (lv_at hl 3 rfl) ?_
  refine lv_isub hx hb dX11_copyPart_27 ?_
  refine lv_icmp_gt (tgt := 40) hx hb dX11_copyPart_28 (by decide) (fun e5 => hout ((if_neg e1).trans ((if_neg e2).trans ((if_neg e3).trans ((if_neg e4).trans (if_pos e5)))))) (fun e5 => ?_)
  refine lv_aload_n hx hb dX11_copyPart_31 rfl (lv_at hl 0 rfl) ?_
  refine lv_iload_n hx hb dX11_copyPart_32 rfl (lv_at hl 1 rfl) ?_
  refine lv_aload_n hx hb dX11_copyPart_33 rfl (lv_at hl 2 rfl) ?_
  refine lv_iload_n hx hb dX11_copyPart_34 rfl (lv_at hl 3 rfl) ?_
  refine lv_iload hx hb dX11_copyPart_35 (lv_at hl 4 rfl) ?_
  rw [show k_copyP n0 n1 (ga S) sp (gb S) dp ln = va_cpy (ga S) (gb S) sp.toNatClampNeg dp.toNatClampNeg ln.toNatClampNeg from (if_neg e1).trans ((if_neg e2).trans ((if_neg e3).trans ((if_neg e4).trans (if_neg e5))))] at hw
  refine va_copyi (own := RX11) (index := 383) (ty := .int) (f := ga S) (g := gb S) hx hb (hml.trans hl.1.symm) hown (hts (.methodLink RX11 383 arraycopyName) (List.mem_of_getElem? (i := 1) rfl)) (hts (.native arraycopyName) (List.mem_of_getElem? (i := 2) rfl)) (hts (.static arraycopyName) (List.mem_of_getElem? (i := 3) rfl)) (hts (.initialized "java/lang/System") (List.mem_of_getElem? (i := 4) rfl)) hK hP hD hS q0 q1 t0 t1 h0 h1 ht0 ht1 rfl e1 e2 e3 (k_cpin hn0 e1 e3 e4) (k_cpin hn1 e2 e3 e5) (fun _ _ => rfl) (Nat.le_of_ble_eq_true rfl) (by decide) dX11_copyPart_37 (fun H locs hP hD hS => ?_)
  rw [hse] at hP hD
  exact W.vret hx hb hr (fun t ht hW => ⟨⟨_, rfl, hw, by rw [ht]; exact hP, va_K.moved hW.alike hK, hD⟩, hS.F ht⟩) hS.2.2 dX11_copyPart_40
set_option maxHeartbeats 4000000 in
theorem cA_copyWhole {σ : Type} (l : Launch) (D : va_G) (E : (Nat → Prop) → State → Prop) (hE : k_stable E) (tys : List (ClassId × FieldType)) (wf : σ → va_W) (S : σ) (q0 t0 q1 t1 a0 : Nat) (c0 : ClassId) (a1 : Nat) (c1 : ClassId) (n0 n1 : Nat) (ga gb : σ → Nat → Int32) (sb : σ → (Nat → Int32) → σ) (h0 : (wf S)[q0]? = some (a0, .inl (c0, n0, .inl (ga S)))) (h1 : (wf S)[q1]? = some (a1, .inl (c1, n1, .inl (gb S)))) (hse : ∀ f, (wf S).set q1 (a1, .inl (c1, n1, .inl f)) = wf (sb S f)) (ht0 : tys[t0]? = some (c0, .int)) (ht1 : tys[t1]? = some (c1, .int)) (hn0 : n0 < 2 ^ 31) (hn1 : n1 < 2 ^ 31) (post : σ → Prop) (hw : post (sb S (k_copyW n0 n1 (ga S) (gb S)))) : e_Mv E l yX11_copyWhole wsX11_copyWhole { frames := 2, cells := 0, slots := 0, locals := 84 } D tys wf [.ref a0, .ref a1] S post := by
  intro sz
  refine Met.ofW (cc := cX11_copyWhole) (maxL := 2) (ret := none) (by decide) rfl ?_
  intro p e s m args below meth c s₁ B hml hv
  obtain ⟨rfl, hsz, hP, hK, hD0, hs⟩ := hv
  have hx := B.exec
  have hb := B.bytes
  have hr := B.returns
  have hlocks := B.notSynchronized
  have hts := atoms_spec (ws := wsX11_copyWhole) B.pre
  have hown : s.vm.findClass RX11 = some m.cls := findClass_of_methodNamed B.named
  subst hsz
  have hD := hD0.self (sz := s.heap.size)
  generalize hAe : va_A (wf S) s.heap.size = A at hD hs ⊢
  have hA : ∀ q : Nat, s.heap.size ≤ q → A q := fun q h => by rw [← hAe]; exact Or.inr h
  have hS : va_S A s.heap s.heap [] := va_S.rf
  have hl := lv_entry ([.ref a0, .ref a1]) (n := 2) (Nat.le_of_ble_eq_true rfl)
  rw [lg_entry_eq]
  generalize (lg_sl ([.ref a0, .ref a1]) ++ List.replicate (2 - (lg_sl ([.ref a0, .ref a1])).length) Slot.unset).toArray = ls at hl ⊢
  have hl : lv_has ls 2 [(0, .ref a0), (1, .ref a1)] := hl
  refine lv_aload_n hx hb dX11_copyWhole_0 rfl (lv_at hl 0 rfl) ?_
  refine lv_iconst (v := 0) hx hb dX11_copyWhole_1 (by decide) ?_
  refine lv_aload_n hx hb dX11_copyWhole_2 rfl (lv_at hl 1 rfl) ?_
  refine lv_iconst (v := 0) hx hb dX11_copyWhole_3 (by decide) ?_
  refine lv_aload_n hx hb dX11_copyWhole_4 rfl (lv_at hl 0 rfl) ?_
  refine va_alen (v := nI n0) hx hb hK hP q0 t0 h0 ht0 rfl dX11_copyWhole_5 ?_
  refine e_callSv (As := [.ref a0, .int 0, .ref a1, .int 0, .int (nI n0)]) (rest := []) hE hs ⟨hx, hb, hml, hown, hts⟩ (cA_copyPart l D E tys wf S q0 t0 q1 t1 a0 c0 a1 c1 n0 n1 ga gb sb h0 h1 hse ht0 ht1 hn0 hn1 0 0 (nI n0) post hw) (va_cwS 5 hts gX11_copyWhole_X11_copyPart rfl rfl rfl (by decide +kernel) ⟨Nat.le_of_ble_eq_true rfl, Nat.le_of_ble_eq_true rfl⟩) hK hP hD hS hA rfl hl.1 rfl (Nat.le_of_ble_eq_true rfl) dX11_copyWhole_6 ⟨Nat.zero_le _, Nat.zero_le _⟩ (fun S' H locs hw hP hD hS => ?_)
  exact W.vret hx hb hr (fun t ht hW => ⟨⟨S', rfl, hw, by rw [ht]; exact hP, va_K.moved hW.alike hK, hD⟩, hS.F ht⟩) hS.2.2 dX11_copyWhole_9
theorem k_fill_step (f : Nat → Int32) (x : Int32) (j : Nat) : upd (fun k => if k < j then x else f k) j x = fun k => if k < j + 1 then x else f k := by
  funext k
  unfold upd
  by_cases h : k = j
  · subst h; simp
  · by_cases h2 : k < j
    · simp [h, h2, Nat.lt_succ_of_lt h2]
    · have h3 : ¬ k < j + 1 := by omega
      simp [h, h2, h3]
set_option maxHeartbeats 4000000 in
theorem cA_fill {σ : Type} (l : Launch) (D : va_G) (E : (Nat → Prop) → State → Prop) (tys : List (ClassId × FieldType)) (wf : σ → va_W) (gt : σ → Nat → Int32) (se : σ → (Nat → Int32) → σ) (S : σ) (q0 t0 a : Nat) (cA : ClassId) (n : Nat) (hq : (wf S)[q0]? = some (a, .inl (cA, n, .inl (gt S)))) (hse : ∀ f, (wf S).set q0 (a, .inl (cA, n, .inl f)) = wf (se S f)) (ht : tys[t0]? = some (cA, .int)) (hn : n < 2 ^ 31) (x : Int32) (post : σ → Prop) (hw : post (se S (k_fill n (gt S) x))) : e_Mv E l yJ7_fill_53178 wsJ7_fill_53178 { frames := 0, cells := 0, slots := 0, locals := 0 } D tys wf [.ref a, .int x] S post := by
  intro sz
  refine Met.ofW (cc := cJ7_fill_53178) (maxL := 4) (ret := none) (by decide) rfl ?_
  intro p e s m args below meth c s₁ B hml hv
  obtain ⟨rfl, hsz, hP, hK, hD0, hs⟩ := hv
  have hx := B.exec
  have hb := B.bytes
  have hr := B.returns
  have hlocks := B.notSynchronized
  subst hsz
  have hD := hD0.self (sz := s.heap.size)
  generalize hAe : va_A (wf S) s.heap.size = A at hD ⊢
  have hS : va_S A s.heap s.heap [] := va_S.rf
  have hl := lv_entry ([.ref a, .int x]) (n := 4) (Nat.le_of_ble_eq_true rfl)
  rw [lg_entry_eq]
  generalize (lg_sl ([.ref a, .int x]) ++ List.replicate (4 - (lg_sl ([.ref a, .int x])).length) Slot.unset).toArray = ls at hl ⊢
  have hl : lv_has ls 4 [(0, .ref a), (1, .int x)] := hl
  have hlen : q0 < (wf S).length := (List.getElem?_eq_some_iff.mp hq).1
  have hget : ∀ f, ((wf S).set q0 (a, .inl (cA, n, .inl f)))[q0]? = some (a, .inl (cA, n, .inl f)) := fun f => List.getElem?_set_self hlen
  have loop : ∀ (d j : Nat) (H : Heap) (locs : List Loc) (ls : Array Slot), j ≤ n → n - j < d → va_P D vwCl ((wf S).set q0 (a, .inl (cA, n, .inl (fun k => if k < j then x else gt S k)))) H → va_D A ((wf S).set q0 (a, .inl (cA, n, .inl (fun k => if k < j then x else gt S k)))) → va_S A s.heap H locs → lv_has ls 4 [(0, .ref a), (1, .int x), (2, .int (nI j)), (3, .int (nI n))] → W p l e (headSpec wsJ7_fill_53178 { frames := 0, cells := 0, slots := 0, locals := 0 }).room s m (([.ref a, .int x] : List Value).toArray) below meth c H locs 0 0 (MQ below (va_Qv post (k_Post D tys wf A) A) (([.ref a, .int x] : List Value).toArray) s 0 0 A) (F0 m 5 ls []) := by
    intro d
    induction d with
    | zero => intro j H locs ls h1 h2; exact absurd h2 (by omega)
    | succ d ih =>
      intro j H locs ls hj hd hP hD hS hl
      refine lv_iload_n hx hb dJ7_fill_53178_5 rfl (lv_at hl 2 rfl) ?_
      refine lv_iload_n hx hb dJ7_fill_53178_6 rfl (lv_at hl 3 rfl) ?_
      refine lv_icmp_ge (tgt := 20) hx hb dJ7_fill_53178_7 (by decide) (fun c1 => ?_) (fun c1 => ?_)
      · have hjn : j = n := by
          rcases Nat.lt_or_ge j n with h | h
          · exact absurd c1 (nI_ge h hn)
          · omega
        subst hjn
        rw [hse] at hP hD
        exact W.vret hx hb hr (fun t ht hW => ⟨⟨_, rfl, hw, by rw [ht]; exact hP, va_K.moved hW.alike hK, hD⟩, hS.F ht⟩) hS.2.2 dJ7_fill_53178_20
      · have hjn : j < n := by
          rcases Nat.lt_or_ge j n with h | h
          · exact h
          · exact absurd (nI_le h (by omega)) c1
        refine lv_aload_n hx hb dJ7_fill_53178_10 rfl (lv_at hl 0 rfl) ?_
        refine lv_iload_n hx hb dJ7_fill_53178_11 rfl (lv_at hl 2 rfl) ?_
        refine lv_iload_n hx hb dJ7_fill_53178_12 rfl (lv_at hl 1 rfl) ?_
        refine va_iast (f := fun k => if k < j then x else gt S k) hx hb hK hP hD hS q0 t0 (hget _) ht (vp_in_nI hjn hn) dJ7_fill_53178_13 (fun H locs hP hD hS => ?_)
        rw [List.set_set, nI_clamp (by omega), k_fill_step] at hP hD
        refine lv_iinc (v := nI (j + 1)) (lv' := [(2, .int (nI (j + 1))), (0, .ref a), (1, .int x), (3, .int (nI n))]) hx hb dJ7_fill_53178_14 hl (k := 2) rfl (nI_1 j) (by decide) rfl (fun ls hl => ?_)
        refine lv_goto (tgt := 5) hx hb dJ7_fill_53178_17 (by decide) ?_
        exact ih (j + 1) H locs ls (by omega) (by omega) hP hD hS (lv_sub hl [1, 2, 0, 3] rfl)
  refine lv_iconst (v := 0) hx hb dJ7_fill_53178_0 (by decide) ?_
  refine lv_istore_n (lv' := [(2, .int 0), (0, .ref a), (1, .int x)]) hx hb dJ7_fill_53178_1 rfl hl (by decide) rfl (fun ls hl => ?_)
  refine lv_aload_n hx hb dJ7_fill_53178_2 rfl (lv_at hl 1 rfl) ?_
  refine va_alen (v := nI n) hx hb hK hP q0 t0 hq ht rfl dJ7_fill_53178_3 ?_
  refine lv_istore_n (lv' := [(3, .int (nI n)), (2, .int 0), (0, .ref a), (1, .int x)]) hx hb dJ7_fill_53178_4 rfl hl (by decide) rfl (fun ls hl => ?_)
  have e0 : (fun k => if k < 0 then x else gt S k) = gt S := by funext k; simp
  refine loop (n + 1) 0 _ _ ls (Nat.zero_le _) (by omega) (by rw [e0, k_setself hq]; exact hP) (by rw [e0, k_setself hq]; exact hD) hS (lv_sub hl [2, 3, 1, 0] rfl)
theorem k_copyl0 {p : Program} {l : Launch} {e : Env} {R : Room} {s : State} {m : MethodId} {args : Array Value} {below : List Frame} {meth : Method} {c : Code} {H : Heap} {locs : List Loc} {cells slots : Nat} {Q : State → Prop} {pc : Nat} {ls : Array Slot} {rest : List Value} {D : va_G} {cl : List vw_C} {A : Nat → Prop} {a : Nat} {tys : List (ClassId × FieldType)} {ws : va_W} {H0 : Heap} {cc : ByteArray} (hexec : p.tables.exec = Jvm.exec) (hb : c.code = cc) (hml : c.maxLocals = ls.size) {own : String} {index : Nat} (hown : s.vm.findClass own = some m.cls) (hlink : (Cond.methodLink own index arraycopyName).before args s = true) (hnat : (Cond.native arraycopyName).before args s = true) (hstat : (Cond.static arraycopyName).before args s = true) (hini : (Cond.initialized "java/lang/System").before args s = true)
    (hK : va_K D cl tys s) (hP : va_P D cl ws H) (hD : va_D A ws) (hS : va_S A H0 H locs) (q0 q1 t0 t1 : Nat) {a0 : Nat} {c0 c1 : ClassId} {n0 n1 : Nat} {f g : Nat → Int64} (ha0 : ws[q0]? = some (a0, .inl (c0, n0, .inr (.inl f)))) (ha1 : ws[q1]? = some (a, .inl (c1, n1, .inr (.inl g)))) (ht0 : tys[t0]? = some (c0, .long)) (ht1 : tys[t1]? = some (c1, .long))
    {n : Int32} (h3 : ¬ n < 0) (h4 : n.toNatClampNeg ≤ n0) (h5 : n.toNatClampNeg ≤ n1) (hframes : 1 ≤ R.frames) (hlocals : (rest.map fun v => v.category).sum + (nativeFrameWords "java/lang/System" "arraycopy" 5 + 11) ≤ R.locals) (hdg : decode cc pc = .ok (.invokestatic index, 3))
    (kk : ∀ (H1 : Heap) (locs1 : List Loc), va_P D cl (ws.set q1 (a, .inl (c1, n1, .inr (.inl (va_cpy f g 0 0 n.toNatClampNeg))))) H1 → va_D A (ws.set q1 (a, .inl (c1, n1, .inr (.inl (va_cpy f g 0 0 n.toNatClampNeg))))) → va_S A H0 H1 locs1 → W p l e R s m args below meth c H1 locs1 cells slots Q (F0 m (pc + 3) ls rest)) : W p l e R s m args below meth c H locs cells slots Q (F0 m pc ls (.int n :: .int 0 :: .ref a :: .int 0 :: .ref a0 :: rest)) := by
  have e0 : (0 : Int32).toNatClampNeg = 0 := by decide
  refine va_copyl (ty := .long) (f := f) (g := g) hexec hb hml hown hlink hnat hstat hini hK hP hD hS q0 q1 t0 t1 ha0 ha1 ht0 ht1 rfl (by decide) (by decide) h3 (by rw [e0]; omega) (by rw [e0]; omega) (fun _ _ => rfl) hframes hlocals hdg (fun H1 locs1 h1 h2 h3 => ?_)
  rw [e0] at h1 h2
  exact kk H1 locs1 h1 h2 h3
section NULLS
variable {p : Program} {l : Launch} {e : Env} {R : Room} {s : State} {m : MethodId} {args : Array Value} {below : List Frame} {meth : Method} {c : Code} {H : Heap} {locs : List Loc} {cells slots : Nat} {Q : State → Prop}
variable {cc : ByteArray} {pc : Nat} {ls : Array Slot} {rest : List Value} {v : Option Nat}
theorem k_cat (v : Option Nat) : (va_rf v).category = 1 := by cases v <;> rfl
theorem k_aload_nq (hexec : p.tables.exec = Jvm.exec) (hb : c.code = cc) {k : Fin 4} {i : Nat} (hdg : decode cc pc = .ok (.aload_n k, 1)) (hi : (k : Nat) = i) (hl : ls[i]? = some (.val (va_rf v))) (kk : W p l e R s m args below meth c H locs cells slots Q (F0 m (pc + 1) ls (va_rf v :: rest))) : W p l e R s m args below meth c H locs cells slots Q (F0 m pc ls rest) := by
  cases v with
  | none => exact lv_aload_nN hexec hb hdg hi hl kk
  | some a => exact lv_aload_n hexec hb hdg hi hl kk
theorem k_astore_nq (hexec : p.tables.exec = Jvm.exec) (hb : c.code = cc) {k : Fin 4} {i nL : Nat} {lv lv' : List (Nat × Value)} (hdg : decode cc pc = .ok (.astore_n k, 1)) (hi : (k : Nat) = i) (h : lv_has ls nL lv) (hn : i < nL) (hl : (i, va_rf v) :: lv.filter (fun q => !(q.1 == i) && !(q.1 + 1 == i && q.2.category == 2)) = lv') (kk : ∀ ls' : Array Slot, lv_has ls' nL lv' → W p l e R s m args below meth c H locs cells slots Q (F0 m (pc + 1) ls' rest)) : W p l e R s m args below meth c H locs cells slots Q (F0 m pc ls (va_rf v :: rest)) := by
  cases v with
  | none => exact lv_astore_nN hexec hb hdg hi h hn hl kk
  | some a => exact lv_astore_n hexec hb hdg hi h hn hl kk
theorem k_aloadq (hexec : p.tables.exec = Jvm.exec) (hb : c.code = cc) {i : Nat} (hdg : decode cc pc = .ok (.aload i, 2)) (hl : ls[i]? = some (.val (va_rf v))) (kk : W p l e R s m args below meth c H locs cells slots Q (F0 m (pc + 2) ls (va_rf v :: rest))) : W p l e R s m args below meth c H locs cells slots Q (F0 m pc ls rest) := by
  cases v with
  | none => exact lv_aloadN hexec hb hdg hl kk
  | some a => exact lv_aload hexec hb hdg hl kk
theorem k_astoreq (hexec : p.tables.exec = Jvm.exec) (hb : c.code = cc) {i nL : Nat} {lv lv' : List (Nat × Value)} (hdg : decode cc pc = .ok (.astore i, 2)) (h : lv_has ls nL lv) (hn : i < nL) (hl : (i, va_rf v) :: lv.filter (fun q => !(q.1 == i) && !(q.1 + 1 == i && q.2.category == 2)) = lv') (kk : ∀ ls' : Array Slot, lv_has ls' nL lv' → W p l e R s m args below meth c H locs cells slots Q (F0 m (pc + 2) ls' rest)) : W p l e R s m args below meth c H locs cells slots Q (F0 m pc ls (va_rf v :: rest)) := by
  cases v with
  | none => exact lv_astoreN hexec hb hdg h hn hl kk
  | some a => exact lv_astore hexec hb hdg h hn hl kk
theorem k_ifnull (hexec : p.tables.exec = Jvm.exec) (hb : c.code = cc) {off : Int} {tgt : Nat} (hdg : decode cc pc = .ok (.ifnull off, 3)) (ht : (pc : Int) + off = (tgt : Int)) (kn : v = none → W p l e R s m args below meth c H locs cells slots Q (F0 m tgt ls rest)) (ks : ∀ a : Nat, v = some a → W p l e R s m args below meth c H locs cells slots Q (F0 m (pc + 3) ls rest)) : W p l e R s m args below meth c H locs cells slots Q (F0 m pc ls (va_rf v :: rest)) := by
  cases v with
  | none => exact lv_ifnullN hexec hb hdg ht (kn rfl)
  | some a => exact lv_ifnull hexec hb hdg (ks a rfl)
theorem k_ifnonnull (hexec : p.tables.exec = Jvm.exec) (hb : c.code = cc) {off : Int} {tgt : Nat} (hdg : decode cc pc = .ok (.ifnonnull off, 3)) (ht : (pc : Int) + off = (tgt : Int)) (kn : v = none → W p l e R s m args below meth c H locs cells slots Q (F0 m (pc + 3) ls rest)) (ks : ∀ a : Nat, v = some a → W p l e R s m args below meth c H locs cells slots Q (F0 m tgt ls rest)) : W p l e R s m args below meth c H locs cells slots Q (F0 m pc ls (va_rf v :: rest)) := by
  cases v with
  | none => exact lv_ifnonnullN hexec hb hdg (kn rfl)
  | some a => exact lv_ifnonnull hexec hb hdg ht (ks a rfl)
theorem k_astq {D : va_G} {tys : List (ClassId × FieldType)} {W0 : va_W} {A : Nat → Prop} {H0 : Heap} {a : Nat} (hexec : p.tables.exec = Jvm.exec) (hb : c.code = cc) (hK : va_K D vwCl tys s) (hP : va_P D vwCl W0 H) (hD : va_D A W0) (hS : va_S A H0 H locs) (q0 t0 : Nat) {cA : ClassId} {n : Nat} {f : Nat → Option Nat} (ha : W0[q0]? = some (a, .inl (cA, n, .inr (.inr (.inr (.inr f)))))) (ht : tys[t0]? = some (cA, .object "ClownsMourn$Text")) (hv : ∀ b : Nat, v = some b → ∃ (k : Nat) (vs : List Value), W0[k]? = some (b, .inr (9, vs))) {i : Int32} (hin : vp_in i n) (hdg : decode cc pc = .ok (.aastore, 1))
    (kk : ∀ (H1 : Heap) (locs1 : List Loc), va_P D vwCl (W0.set q0 (a, .inl (cA, n, .inr (.inr (.inr (.inr (va_up f i.toNatClampNeg v))))))) H1 → va_D A (W0.set q0 (a, .inl (cA, n, .inr (.inr (.inr (.inr (va_up f i.toNatClampNeg v))))))) → va_S A H0 H1 locs1 → W p l e R s m args below meth c H1 locs1 cells slots Q (F0 m (pc + 1) ls rest)) : W p l e R s m args below meth c H locs cells slots Q (F0 m pc ls (va_rf v :: .int i :: .ref a :: rest)) := by
  cases v with
  | none => exact va_astqN hexec hb hK hP hD hS q0 t0 ha ht hin hdg kk
  | some b =>
    obtain ⟨k, vs, hk⟩ := hv b rfl
    exact va_astq (r := (RX9, TX9, 4)) hexec hb hK hP hD hS q0 t0 k 9 ha ht hk rfl hin hdg kk
end NULLS
/-- a text that was read: how many clauses; where its three rows lie; the rows (length, contents): clauses, code, bounds -/
abbrev TB : Type := Int32 × (Nat × Nat × Nat) × (Nat × (Nat → Int32)) × (Nat × (Nat → Int32)) × (Nat × (Nat → Int32))
abbrev CS_c : Type := (Nat → Int32) × (Nat → Int32) × (Nat → Int32) × (Nat → Int32) × (Nat → Int32) × (Nat → Option Nat) × (Int32) × (Int32) × (Nat → Int32) × (Nat → Int32) × (Int32) × (Nat → Int32) × (Nat → Int32) × (Nat → Int32) × (Int32) × (Nat → Int32) × (Int32) × (Int32)
abbrev CS_k : Type := (Nat → Int32) × (Nat → Int32) × (Nat → Int32) × (Nat → Int32) × (Nat → Int32) × (Nat → Option Nat) × (Int32) × (Int32) × (Nat → Int32) × (Nat → Int32) × (Int32) × (Nat → Int32) × (Nat → Int32) × (Nat → Int32) × (Int32) × (Nat → Int32) × (Int32) × (Int32)
abbrev CS_r : Type := (Int32) × (Int32) × (Int32) × (Nat → Int32) × (Nat → Int32) × (Nat → Int32) × (Nat → Int32) × (Int32) × (Int32) × (Int32) × (Int32) × (Int32) × (Int32) × (Int32) × (Int32) × (Int32)
abbrev CS_z : Type := (Nat → Int32) × (Nat → Int32) × (Int32) × (Nat → Int32) × (Nat → Int64) × (Nat → Int64) × (Nat → Int32) × (Int32) × (Int32) × (Int64) × (Int32) × (Int32) × (Int32) × (Int32) × (Int32) × (Int32) × (Nat → Int32) × (Nat → Int32)
abbrev CS : Type := CS_c × CS_k × CS_r × CS_z × List (Nat × TB)
def cx_c_now (S : CS) : Nat → Int32 := S.1.1
def cx_set_c_now (S : CS) (v : Nat → Int32) : CS := ((v, S.1.2), S.2)
def cx_c_kinds (S : CS) : Nat → Int32 := S.1.2.1
def cx_set_c_kinds (S : CS) (v : Nat → Int32) : CS := ((S.1.1, v, S.1.2.2), S.2)
def cx_c_skills (S : CS) : Nat → Int32 := S.1.2.2.1
def cx_set_c_skills (S : CS) (v : Nat → Int32) : CS := ((S.1.1, S.1.2.1, v, S.1.2.2.2), S.2)
def cx_c_ages (S : CS) : Nat → Int32 := S.1.2.2.2.1
def cx_set_c_ages (S : CS) (v : Nat → Int32) : CS := ((S.1.1, S.1.2.1, S.1.2.2.1, v, S.1.2.2.2.2), S.2)
def cx_c_turns (S : CS) : Nat → Int32 := S.1.2.2.2.2.1
def cx_set_c_turns (S : CS) (v : Nat → Int32) : CS := ((S.1.1, S.1.2.1, S.1.2.2.1, S.1.2.2.2.1, v, S.1.2.2.2.2.2), S.2)
def cx_c_texts (S : CS) : Nat → Option Nat := S.1.2.2.2.2.2.1
def cx_set_c_texts (S : CS) (v : Nat → Option Nat) : CS := ((S.1.1, S.1.2.1, S.1.2.2.1, S.1.2.2.2.1, S.1.2.2.2.2.1, v, S.1.2.2.2.2.2.2), S.2)
def cx_c_textCount (S : CS) : Int32 := S.1.2.2.2.2.2.2.1
def cx_set_c_textCount (S : CS) (v : Int32) : CS := ((S.1.1, S.1.2.1, S.1.2.2.1, S.1.2.2.2.1, S.1.2.2.2.2.1, S.1.2.2.2.2.2.1, v, S.1.2.2.2.2.2.2.2), S.2)
def cx_c_ruling (S : CS) : Int32 := S.1.2.2.2.2.2.2.2.1
def cx_set_c_ruling (S : CS) (v : Int32) : CS := ((S.1.1, S.1.2.1, S.1.2.2.1, S.1.2.2.2.1, S.1.2.2.2.2.1, S.1.2.2.2.2.2.1, S.1.2.2.2.2.2.2.1, v, S.1.2.2.2.2.2.2.2.2), S.2)
def cx_c_costs (S : CS) : Nat → Int32 := S.1.2.2.2.2.2.2.2.2.1
def cx_set_c_costs (S : CS) (v : Nat → Int32) : CS := ((S.1.1, S.1.2.1, S.1.2.2.1, S.1.2.2.2.1, S.1.2.2.2.2.1, S.1.2.2.2.2.2.1, S.1.2.2.2.2.2.2.1, S.1.2.2.2.2.2.2.2.1, v, S.1.2.2.2.2.2.2.2.2.2), S.2)
def cx_c_trials (S : CS) : Nat → Int32 := S.1.2.2.2.2.2.2.2.2.2.1
def cx_set_c_trials (S : CS) (v : Nat → Int32) : CS := ((S.1.1, S.1.2.1, S.1.2.2.1, S.1.2.2.2.1, S.1.2.2.2.2.1, S.1.2.2.2.2.2.1, S.1.2.2.2.2.2.2.1, S.1.2.2.2.2.2.2.2.1, S.1.2.2.2.2.2.2.2.2.1, v, S.1.2.2.2.2.2.2.2.2.2.2), S.2)
def cx_c_trialCount (S : CS) : Int32 := S.1.2.2.2.2.2.2.2.2.2.2.1
def cx_set_c_trialCount (S : CS) (v : Int32) : CS := ((S.1.1, S.1.2.1, S.1.2.2.1, S.1.2.2.2.1, S.1.2.2.2.2.1, S.1.2.2.2.2.2.1, S.1.2.2.2.2.2.2.1, S.1.2.2.2.2.2.2.2.1, S.1.2.2.2.2.2.2.2.2.1, S.1.2.2.2.2.2.2.2.2.2.1, v, S.1.2.2.2.2.2.2.2.2.2.2.2), S.2)
def cx_c_worths (S : CS) : Nat → Int32 := S.1.2.2.2.2.2.2.2.2.2.2.2.1
def cx_set_c_worths (S : CS) (v : Nat → Int32) : CS := ((S.1.1, S.1.2.1, S.1.2.2.1, S.1.2.2.2.1, S.1.2.2.2.2.1, S.1.2.2.2.2.2.1, S.1.2.2.2.2.2.2.1, S.1.2.2.2.2.2.2.2.1, S.1.2.2.2.2.2.2.2.2.1, S.1.2.2.2.2.2.2.2.2.2.1, S.1.2.2.2.2.2.2.2.2.2.2.1, v, S.1.2.2.2.2.2.2.2.2.2.2.2.2), S.2)
def cx_c_aheads (S : CS) : Nat → Int32 := S.1.2.2.2.2.2.2.2.2.2.2.2.2.1
def cx_set_c_aheads (S : CS) (v : Nat → Int32) : CS := ((S.1.1, S.1.2.1, S.1.2.2.1, S.1.2.2.2.1, S.1.2.2.2.2.1, S.1.2.2.2.2.2.1, S.1.2.2.2.2.2.2.1, S.1.2.2.2.2.2.2.2.1, S.1.2.2.2.2.2.2.2.2.1, S.1.2.2.2.2.2.2.2.2.2.1, S.1.2.2.2.2.2.2.2.2.2.2.1, S.1.2.2.2.2.2.2.2.2.2.2.2.1, v, S.1.2.2.2.2.2.2.2.2.2.2.2.2.2), S.2)
def cx_c_growns (S : CS) : Nat → Int32 := S.1.2.2.2.2.2.2.2.2.2.2.2.2.2.1
def cx_set_c_growns (S : CS) (v : Nat → Int32) : CS := ((S.1.1, S.1.2.1, S.1.2.2.1, S.1.2.2.2.1, S.1.2.2.2.2.1, S.1.2.2.2.2.2.1, S.1.2.2.2.2.2.2.1, S.1.2.2.2.2.2.2.2.1, S.1.2.2.2.2.2.2.2.2.1, S.1.2.2.2.2.2.2.2.2.2.1, S.1.2.2.2.2.2.2.2.2.2.2.1, S.1.2.2.2.2.2.2.2.2.2.2.2.1, S.1.2.2.2.2.2.2.2.2.2.2.2.2.1, v, S.1.2.2.2.2.2.2.2.2.2.2.2.2.2.2), S.2)
def cx_c_grownCount (S : CS) : Int32 := S.1.2.2.2.2.2.2.2.2.2.2.2.2.2.2.1
def cx_set_c_grownCount (S : CS) (v : Int32) : CS := ((S.1.1, S.1.2.1, S.1.2.2.1, S.1.2.2.2.1, S.1.2.2.2.2.1, S.1.2.2.2.2.2.1, S.1.2.2.2.2.2.2.1, S.1.2.2.2.2.2.2.2.1, S.1.2.2.2.2.2.2.2.2.1, S.1.2.2.2.2.2.2.2.2.2.1, S.1.2.2.2.2.2.2.2.2.2.2.1, S.1.2.2.2.2.2.2.2.2.2.2.2.1, S.1.2.2.2.2.2.2.2.2.2.2.2.2.1, S.1.2.2.2.2.2.2.2.2.2.2.2.2.2.1, v, S.1.2.2.2.2.2.2.2.2.2.2.2.2.2.2.2), S.2)
def cx_cs_rows (S : CS) : Nat → Int32 := S.1.2.2.2.2.2.2.2.2.2.2.2.2.2.2.2.1
def cx_set_cs_rows (S : CS) (v : Nat → Int32) : CS := ((S.1.1, S.1.2.1, S.1.2.2.1, S.1.2.2.2.1, S.1.2.2.2.2.1, S.1.2.2.2.2.2.1, S.1.2.2.2.2.2.2.1, S.1.2.2.2.2.2.2.2.1, S.1.2.2.2.2.2.2.2.2.1, S.1.2.2.2.2.2.2.2.2.2.1, S.1.2.2.2.2.2.2.2.2.2.2.1, S.1.2.2.2.2.2.2.2.2.2.2.2.1, S.1.2.2.2.2.2.2.2.2.2.2.2.2.1, S.1.2.2.2.2.2.2.2.2.2.2.2.2.2.1, S.1.2.2.2.2.2.2.2.2.2.2.2.2.2.2.1, v, S.1.2.2.2.2.2.2.2.2.2.2.2.2.2.2.2.2), S.2)
def cx_cs_first (S : CS) : Int32 := S.1.2.2.2.2.2.2.2.2.2.2.2.2.2.2.2.2.1
def cx_set_cs_first (S : CS) (v : Int32) : CS := ((S.1.1, S.1.2.1, S.1.2.2.1, S.1.2.2.2.1, S.1.2.2.2.2.1, S.1.2.2.2.2.2.1, S.1.2.2.2.2.2.2.1, S.1.2.2.2.2.2.2.2.1, S.1.2.2.2.2.2.2.2.2.1, S.1.2.2.2.2.2.2.2.2.2.1, S.1.2.2.2.2.2.2.2.2.2.2.1, S.1.2.2.2.2.2.2.2.2.2.2.2.1, S.1.2.2.2.2.2.2.2.2.2.2.2.2.1, S.1.2.2.2.2.2.2.2.2.2.2.2.2.2.1, S.1.2.2.2.2.2.2.2.2.2.2.2.2.2.2.1, S.1.2.2.2.2.2.2.2.2.2.2.2.2.2.2.2.1, v, S.1.2.2.2.2.2.2.2.2.2.2.2.2.2.2.2.2.2), S.2)
def cx_cs_count (S : CS) : Int32 := S.1.2.2.2.2.2.2.2.2.2.2.2.2.2.2.2.2.2
def cx_set_cs_count (S : CS) (v : Int32) : CS := ((S.1.1, S.1.2.1, S.1.2.2.1, S.1.2.2.2.1, S.1.2.2.2.2.1, S.1.2.2.2.2.2.1, S.1.2.2.2.2.2.2.1, S.1.2.2.2.2.2.2.2.1, S.1.2.2.2.2.2.2.2.2.1, S.1.2.2.2.2.2.2.2.2.2.1, S.1.2.2.2.2.2.2.2.2.2.2.1, S.1.2.2.2.2.2.2.2.2.2.2.2.1, S.1.2.2.2.2.2.2.2.2.2.2.2.2.1, S.1.2.2.2.2.2.2.2.2.2.2.2.2.2.1, S.1.2.2.2.2.2.2.2.2.2.2.2.2.2.2.1, S.1.2.2.2.2.2.2.2.2.2.2.2.2.2.2.2.1, S.1.2.2.2.2.2.2.2.2.2.2.2.2.2.2.2.2.1, v), S.2)
def cx_k_now (S : CS) : Nat → Int32 := S.2.1.1
def cx_set_k_now (S : CS) (v : Nat → Int32) : CS := (S.1, (v, S.2.1.2), S.2.2)
def cx_k_kinds (S : CS) : Nat → Int32 := S.2.1.2.1
def cx_set_k_kinds (S : CS) (v : Nat → Int32) : CS := (S.1, (S.2.1.1, v, S.2.1.2.2), S.2.2)
def cx_k_skills (S : CS) : Nat → Int32 := S.2.1.2.2.1
def cx_set_k_skills (S : CS) (v : Nat → Int32) : CS := (S.1, (S.2.1.1, S.2.1.2.1, v, S.2.1.2.2.2), S.2.2)
def cx_k_ages (S : CS) : Nat → Int32 := S.2.1.2.2.2.1
def cx_set_k_ages (S : CS) (v : Nat → Int32) : CS := (S.1, (S.2.1.1, S.2.1.2.1, S.2.1.2.2.1, v, S.2.1.2.2.2.2), S.2.2)
def cx_k_turns (S : CS) : Nat → Int32 := S.2.1.2.2.2.2.1
def cx_set_k_turns (S : CS) (v : Nat → Int32) : CS := (S.1, (S.2.1.1, S.2.1.2.1, S.2.1.2.2.1, S.2.1.2.2.2.1, v, S.2.1.2.2.2.2.2), S.2.2)
def cx_k_texts (S : CS) : Nat → Option Nat := S.2.1.2.2.2.2.2.1
def cx_set_k_texts (S : CS) (v : Nat → Option Nat) : CS := (S.1, (S.2.1.1, S.2.1.2.1, S.2.1.2.2.1, S.2.1.2.2.2.1, S.2.1.2.2.2.2.1, v, S.2.1.2.2.2.2.2.2), S.2.2)
def cx_k_textCount (S : CS) : Int32 := S.2.1.2.2.2.2.2.2.1
def cx_set_k_textCount (S : CS) (v : Int32) : CS := (S.1, (S.2.1.1, S.2.1.2.1, S.2.1.2.2.1, S.2.1.2.2.2.1, S.2.1.2.2.2.2.1, S.2.1.2.2.2.2.2.1, v, S.2.1.2.2.2.2.2.2.2), S.2.2)
def cx_k_ruling (S : CS) : Int32 := S.2.1.2.2.2.2.2.2.2.1
def cx_set_k_ruling (S : CS) (v : Int32) : CS := (S.1, (S.2.1.1, S.2.1.2.1, S.2.1.2.2.1, S.2.1.2.2.2.1, S.2.1.2.2.2.2.1, S.2.1.2.2.2.2.2.1, S.2.1.2.2.2.2.2.2.1, v, S.2.1.2.2.2.2.2.2.2.2), S.2.2)
def cx_k_costs (S : CS) : Nat → Int32 := S.2.1.2.2.2.2.2.2.2.2.1
def cx_set_k_costs (S : CS) (v : Nat → Int32) : CS := (S.1, (S.2.1.1, S.2.1.2.1, S.2.1.2.2.1, S.2.1.2.2.2.1, S.2.1.2.2.2.2.1, S.2.1.2.2.2.2.2.1, S.2.1.2.2.2.2.2.2.1, S.2.1.2.2.2.2.2.2.2.1, v, S.2.1.2.2.2.2.2.2.2.2.2), S.2.2)
def cx_k_trials (S : CS) : Nat → Int32 := S.2.1.2.2.2.2.2.2.2.2.2.1
def cx_set_k_trials (S : CS) (v : Nat → Int32) : CS := (S.1, (S.2.1.1, S.2.1.2.1, S.2.1.2.2.1, S.2.1.2.2.2.1, S.2.1.2.2.2.2.1, S.2.1.2.2.2.2.2.1, S.2.1.2.2.2.2.2.2.1, S.2.1.2.2.2.2.2.2.2.1, S.2.1.2.2.2.2.2.2.2.2.1, v, S.2.1.2.2.2.2.2.2.2.2.2.2), S.2.2)
def cx_k_trialCount (S : CS) : Int32 := S.2.1.2.2.2.2.2.2.2.2.2.2.1
def cx_set_k_trialCount (S : CS) (v : Int32) : CS := (S.1, (S.2.1.1, S.2.1.2.1, S.2.1.2.2.1, S.2.1.2.2.2.1, S.2.1.2.2.2.2.1, S.2.1.2.2.2.2.2.1, S.2.1.2.2.2.2.2.2.1, S.2.1.2.2.2.2.2.2.2.1, S.2.1.2.2.2.2.2.2.2.2.1, S.2.1.2.2.2.2.2.2.2.2.2.1, v, S.2.1.2.2.2.2.2.2.2.2.2.2.2), S.2.2)
def cx_k_worths (S : CS) : Nat → Int32 := S.2.1.2.2.2.2.2.2.2.2.2.2.2.1
def cx_set_k_worths (S : CS) (v : Nat → Int32) : CS := (S.1, (S.2.1.1, S.2.1.2.1, S.2.1.2.2.1, S.2.1.2.2.2.1, S.2.1.2.2.2.2.1, S.2.1.2.2.2.2.2.1, S.2.1.2.2.2.2.2.2.1, S.2.1.2.2.2.2.2.2.2.1, S.2.1.2.2.2.2.2.2.2.2.1, S.2.1.2.2.2.2.2.2.2.2.2.1, S.2.1.2.2.2.2.2.2.2.2.2.2.1, v, S.2.1.2.2.2.2.2.2.2.2.2.2.2.2), S.2.2)
def cx_k_aheads (S : CS) : Nat → Int32 := S.2.1.2.2.2.2.2.2.2.2.2.2.2.2.1
def cx_set_k_aheads (S : CS) (v : Nat → Int32) : CS := (S.1, (S.2.1.1, S.2.1.2.1, S.2.1.2.2.1, S.2.1.2.2.2.1, S.2.1.2.2.2.2.1, S.2.1.2.2.2.2.2.1, S.2.1.2.2.2.2.2.2.1, S.2.1.2.2.2.2.2.2.2.1, S.2.1.2.2.2.2.2.2.2.2.1, S.2.1.2.2.2.2.2.2.2.2.2.1, S.2.1.2.2.2.2.2.2.2.2.2.2.1, S.2.1.2.2.2.2.2.2.2.2.2.2.2.1, v, S.2.1.2.2.2.2.2.2.2.2.2.2.2.2.2), S.2.2)
def cx_k_growns (S : CS) : Nat → Int32 := S.2.1.2.2.2.2.2.2.2.2.2.2.2.2.2.1
def cx_set_k_growns (S : CS) (v : Nat → Int32) : CS := (S.1, (S.2.1.1, S.2.1.2.1, S.2.1.2.2.1, S.2.1.2.2.2.1, S.2.1.2.2.2.2.1, S.2.1.2.2.2.2.2.1, S.2.1.2.2.2.2.2.2.1, S.2.1.2.2.2.2.2.2.2.1, S.2.1.2.2.2.2.2.2.2.2.1, S.2.1.2.2.2.2.2.2.2.2.2.1, S.2.1.2.2.2.2.2.2.2.2.2.2.1, S.2.1.2.2.2.2.2.2.2.2.2.2.2.1, S.2.1.2.2.2.2.2.2.2.2.2.2.2.2.1, v, S.2.1.2.2.2.2.2.2.2.2.2.2.2.2.2.2), S.2.2)
def cx_k_grownCount (S : CS) : Int32 := S.2.1.2.2.2.2.2.2.2.2.2.2.2.2.2.2.1
def cx_set_k_grownCount (S : CS) (v : Int32) : CS := (S.1, (S.2.1.1, S.2.1.2.1, S.2.1.2.2.1, S.2.1.2.2.2.1, S.2.1.2.2.2.2.1, S.2.1.2.2.2.2.2.1, S.2.1.2.2.2.2.2.2.1, S.2.1.2.2.2.2.2.2.2.1, S.2.1.2.2.2.2.2.2.2.2.1, S.2.1.2.2.2.2.2.2.2.2.2.1, S.2.1.2.2.2.2.2.2.2.2.2.2.1, S.2.1.2.2.2.2.2.2.2.2.2.2.2.1, S.2.1.2.2.2.2.2.2.2.2.2.2.2.2.1, S.2.1.2.2.2.2.2.2.2.2.2.2.2.2.2.1, v, S.2.1.2.2.2.2.2.2.2.2.2.2.2.2.2.2.2), S.2.2)
def cx_ks_rows (S : CS) : Nat → Int32 := S.2.1.2.2.2.2.2.2.2.2.2.2.2.2.2.2.2.1
def cx_set_ks_rows (S : CS) (v : Nat → Int32) : CS := (S.1, (S.2.1.1, S.2.1.2.1, S.2.1.2.2.1, S.2.1.2.2.2.1, S.2.1.2.2.2.2.1, S.2.1.2.2.2.2.2.1, S.2.1.2.2.2.2.2.2.1, S.2.1.2.2.2.2.2.2.2.1, S.2.1.2.2.2.2.2.2.2.2.1, S.2.1.2.2.2.2.2.2.2.2.2.1, S.2.1.2.2.2.2.2.2.2.2.2.2.1, S.2.1.2.2.2.2.2.2.2.2.2.2.2.1, S.2.1.2.2.2.2.2.2.2.2.2.2.2.2.1, S.2.1.2.2.2.2.2.2.2.2.2.2.2.2.2.1, S.2.1.2.2.2.2.2.2.2.2.2.2.2.2.2.2.1, v, S.2.1.2.2.2.2.2.2.2.2.2.2.2.2.2.2.2.2), S.2.2)
def cx_ks_first (S : CS) : Int32 := S.2.1.2.2.2.2.2.2.2.2.2.2.2.2.2.2.2.2.1
def cx_set_ks_first (S : CS) (v : Int32) : CS := (S.1, (S.2.1.1, S.2.1.2.1, S.2.1.2.2.1, S.2.1.2.2.2.1, S.2.1.2.2.2.2.1, S.2.1.2.2.2.2.2.1, S.2.1.2.2.2.2.2.2.1, S.2.1.2.2.2.2.2.2.2.1, S.2.1.2.2.2.2.2.2.2.2.1, S.2.1.2.2.2.2.2.2.2.2.2.1, S.2.1.2.2.2.2.2.2.2.2.2.2.1, S.2.1.2.2.2.2.2.2.2.2.2.2.2.1, S.2.1.2.2.2.2.2.2.2.2.2.2.2.2.1, S.2.1.2.2.2.2.2.2.2.2.2.2.2.2.2.1, S.2.1.2.2.2.2.2.2.2.2.2.2.2.2.2.2.1, S.2.1.2.2.2.2.2.2.2.2.2.2.2.2.2.2.2.1, v, S.2.1.2.2.2.2.2.2.2.2.2.2.2.2.2.2.2.2.2), S.2.2)
def cx_ks_count (S : CS) : Int32 := S.2.1.2.2.2.2.2.2.2.2.2.2.2.2.2.2.2.2.2
def cx_set_ks_count (S : CS) (v : Int32) : CS := (S.1, (S.2.1.1, S.2.1.2.1, S.2.1.2.2.1, S.2.1.2.2.2.1, S.2.1.2.2.2.2.1, S.2.1.2.2.2.2.2.1, S.2.1.2.2.2.2.2.2.1, S.2.1.2.2.2.2.2.2.2.1, S.2.1.2.2.2.2.2.2.2.2.1, S.2.1.2.2.2.2.2.2.2.2.2.1, S.2.1.2.2.2.2.2.2.2.2.2.2.1, S.2.1.2.2.2.2.2.2.2.2.2.2.2.1, S.2.1.2.2.2.2.2.2.2.2.2.2.2.2.1, S.2.1.2.2.2.2.2.2.2.2.2.2.2.2.2.1, S.2.1.2.2.2.2.2.2.2.2.2.2.2.2.2.2.1, S.2.1.2.2.2.2.2.2.2.2.2.2.2.2.2.2.2.1, S.2.1.2.2.2.2.2.2.2.2.2.2.2.2.2.2.2.2.1, v), S.2.2)
def cx_r_length (S : CS) : Int32 := S.2.2.1.1
def cx_set_r_length (S : CS) (v : Int32) : CS := (S.1, S.2.1, (v, S.2.2.1.2), S.2.2.2)
def cx_r_lastFault (S : CS) : Int32 := S.2.2.1.2.1
def cx_set_r_lastFault (S : CS) (v : Int32) : CS := (S.1, S.2.1, (S.2.2.1.1, v, S.2.2.1.2.2), S.2.2.2)
def cx_r_lastPlace (S : CS) : Int32 := S.2.2.1.2.2.1
def cx_set_r_lastPlace (S : CS) (v : Int32) : CS := (S.1, S.2.1, (S.2.2.1.1, S.2.2.1.2.1, v, S.2.2.1.2.2.2), S.2.2.2)
def cx_r_tape (S : CS) : Nat → Int32 := S.2.2.1.2.2.2.1
def cx_set_r_tape (S : CS) (v : Nat → Int32) : CS := (S.1, S.2.1, (S.2.2.1.1, S.2.2.1.2.1, S.2.2.1.2.2.1, v, S.2.2.1.2.2.2.2), S.2.2.2)
def cx_r_clauses (S : CS) : Nat → Int32 := S.2.2.1.2.2.2.2.1
def cx_set_r_clauses (S : CS) (v : Nat → Int32) : CS := (S.1, S.2.1, (S.2.2.1.1, S.2.2.1.2.1, S.2.2.1.2.2.1, S.2.2.1.2.2.2.1, v, S.2.2.1.2.2.2.2.2), S.2.2.2)
def cx_r_code (S : CS) : Nat → Int32 := S.2.2.1.2.2.2.2.2.1
def cx_set_r_code (S : CS) (v : Nat → Int32) : CS := (S.1, S.2.1, (S.2.2.1.1, S.2.2.1.2.1, S.2.2.1.2.2.1, S.2.2.1.2.2.2.1, S.2.2.1.2.2.2.2.1, v, S.2.2.1.2.2.2.2.2.2), S.2.2.2)
def cx_r_bounds (S : CS) : Nat → Int32 := S.2.2.1.2.2.2.2.2.2.1
def cx_set_r_bounds (S : CS) (v : Nat → Int32) : CS := (S.1, S.2.1, (S.2.2.1.1, S.2.2.1.2.1, S.2.2.1.2.2.1, S.2.2.1.2.2.2.1, S.2.2.1.2.2.2.2.1, S.2.2.1.2.2.2.2.2.1, v, S.2.2.1.2.2.2.2.2.2.2), S.2.2.2)
def cx_r_clauseCount (S : CS) : Int32 := S.2.2.1.2.2.2.2.2.2.2.1
def cx_set_r_clauseCount (S : CS) (v : Int32) : CS := (S.1, S.2.1, (S.2.2.1.1, S.2.2.1.2.1, S.2.2.1.2.2.1, S.2.2.1.2.2.2.1, S.2.2.1.2.2.2.2.1, S.2.2.1.2.2.2.2.2.1, S.2.2.1.2.2.2.2.2.2.1, v, S.2.2.1.2.2.2.2.2.2.2.2), S.2.2.2)
def cx_r_codeLength (S : CS) : Int32 := S.2.2.1.2.2.2.2.2.2.2.2.1
def cx_set_r_codeLength (S : CS) (v : Int32) : CS := (S.1, S.2.1, (S.2.2.1.1, S.2.2.1.2.1, S.2.2.1.2.2.1, S.2.2.1.2.2.2.1, S.2.2.1.2.2.2.2.1, S.2.2.1.2.2.2.2.2.1, S.2.2.1.2.2.2.2.2.2.1, S.2.2.1.2.2.2.2.2.2.2.1, v, S.2.2.1.2.2.2.2.2.2.2.2.2), S.2.2.2)
def cx_r_place (S : CS) : Int32 := S.2.2.1.2.2.2.2.2.2.2.2.2.1
def cx_set_r_place (S : CS) (v : Int32) : CS := (S.1, S.2.1, (S.2.2.1.1, S.2.2.1.2.1, S.2.2.1.2.2.1, S.2.2.1.2.2.2.1, S.2.2.1.2.2.2.2.1, S.2.2.1.2.2.2.2.2.1, S.2.2.1.2.2.2.2.2.2.1, S.2.2.1.2.2.2.2.2.2.2.1, S.2.2.1.2.2.2.2.2.2.2.2.1, v, S.2.2.1.2.2.2.2.2.2.2.2.2.2), S.2.2.2)
def cx_r_start (S : CS) : Int32 := S.2.2.1.2.2.2.2.2.2.2.2.2.2.1
def cx_set_r_start (S : CS) (v : Int32) : CS := (S.1, S.2.1, (S.2.2.1.1, S.2.2.1.2.1, S.2.2.1.2.2.1, S.2.2.1.2.2.2.1, S.2.2.1.2.2.2.2.1, S.2.2.1.2.2.2.2.2.1, S.2.2.1.2.2.2.2.2.2.1, S.2.2.1.2.2.2.2.2.2.2.1, S.2.2.1.2.2.2.2.2.2.2.2.1, S.2.2.1.2.2.2.2.2.2.2.2.2.1, v, S.2.2.1.2.2.2.2.2.2.2.2.2.2.2), S.2.2.2)
def cx_r_token (S : CS) : Int32 := S.2.2.1.2.2.2.2.2.2.2.2.2.2.2.1
def cx_set_r_token (S : CS) (v : Int32) : CS := (S.1, S.2.1, (S.2.2.1.1, S.2.2.1.2.1, S.2.2.1.2.2.1, S.2.2.1.2.2.2.1, S.2.2.1.2.2.2.2.1, S.2.2.1.2.2.2.2.2.1, S.2.2.1.2.2.2.2.2.2.1, S.2.2.1.2.2.2.2.2.2.2.1, S.2.2.1.2.2.2.2.2.2.2.2.1, S.2.2.1.2.2.2.2.2.2.2.2.2.1, S.2.2.1.2.2.2.2.2.2.2.2.2.2.1, v, S.2.2.1.2.2.2.2.2.2.2.2.2.2.2.2), S.2.2.2)
def cx_r_number (S : CS) : Int32 := S.2.2.1.2.2.2.2.2.2.2.2.2.2.2.2.1
def cx_set_r_number (S : CS) (v : Int32) : CS := (S.1, S.2.1, (S.2.2.1.1, S.2.2.1.2.1, S.2.2.1.2.2.1, S.2.2.1.2.2.2.1, S.2.2.1.2.2.2.2.1, S.2.2.1.2.2.2.2.2.1, S.2.2.1.2.2.2.2.2.2.1, S.2.2.1.2.2.2.2.2.2.2.1, S.2.2.1.2.2.2.2.2.2.2.2.1, S.2.2.1.2.2.2.2.2.2.2.2.2.1, S.2.2.1.2.2.2.2.2.2.2.2.2.2.1, S.2.2.1.2.2.2.2.2.2.2.2.2.2.2.1, v, S.2.2.1.2.2.2.2.2.2.2.2.2.2.2.2.2), S.2.2.2)
def cx_r_fault (S : CS) : Int32 := S.2.2.1.2.2.2.2.2.2.2.2.2.2.2.2.2.1
def cx_set_r_fault (S : CS) (v : Int32) : CS := (S.1, S.2.1, (S.2.2.1.1, S.2.2.1.2.1, S.2.2.1.2.2.1, S.2.2.1.2.2.2.1, S.2.2.1.2.2.2.2.1, S.2.2.1.2.2.2.2.2.1, S.2.2.1.2.2.2.2.2.2.1, S.2.2.1.2.2.2.2.2.2.2.1, S.2.2.1.2.2.2.2.2.2.2.2.1, S.2.2.1.2.2.2.2.2.2.2.2.2.1, S.2.2.1.2.2.2.2.2.2.2.2.2.2.1, S.2.2.1.2.2.2.2.2.2.2.2.2.2.2.1, S.2.2.1.2.2.2.2.2.2.2.2.2.2.2.2.1, v, S.2.2.1.2.2.2.2.2.2.2.2.2.2.2.2.2.2), S.2.2.2)
def cx_r_law (S : CS) : Int32 := S.2.2.1.2.2.2.2.2.2.2.2.2.2.2.2.2.2.1
def cx_set_r_law (S : CS) (v : Int32) : CS := (S.1, S.2.1, (S.2.2.1.1, S.2.2.1.2.1, S.2.2.1.2.2.1, S.2.2.1.2.2.2.1, S.2.2.1.2.2.2.2.1, S.2.2.1.2.2.2.2.2.1, S.2.2.1.2.2.2.2.2.2.1, S.2.2.1.2.2.2.2.2.2.2.1, S.2.2.1.2.2.2.2.2.2.2.2.1, S.2.2.1.2.2.2.2.2.2.2.2.2.1, S.2.2.1.2.2.2.2.2.2.2.2.2.2.1, S.2.2.1.2.2.2.2.2.2.2.2.2.2.2.1, S.2.2.1.2.2.2.2.2.2.2.2.2.2.2.2.1, S.2.2.1.2.2.2.2.2.2.2.2.2.2.2.2.2.1, v, S.2.2.1.2.2.2.2.2.2.2.2.2.2.2.2.2.2.2), S.2.2.2)
def cx_r_open (S : CS) : Int32 := S.2.2.1.2.2.2.2.2.2.2.2.2.2.2.2.2.2.2
def cx_set_r_open (S : CS) (v : Int32) : CS := (S.1, S.2.1, (S.2.2.1.1, S.2.2.1.2.1, S.2.2.1.2.2.1, S.2.2.1.2.2.2.1, S.2.2.1.2.2.2.2.1, S.2.2.1.2.2.2.2.2.1, S.2.2.1.2.2.2.2.2.2.1, S.2.2.1.2.2.2.2.2.2.2.1, S.2.2.1.2.2.2.2.2.2.2.2.1, S.2.2.1.2.2.2.2.2.2.2.2.2.1, S.2.2.1.2.2.2.2.2.2.2.2.2.2.1, S.2.2.1.2.2.2.2.2.2.2.2.2.2.2.1, S.2.2.1.2.2.2.2.2.2.2.2.2.2.2.2.1, S.2.2.1.2.2.2.2.2.2.2.2.2.2.2.2.2.1, S.2.2.1.2.2.2.2.2.2.2.2.2.2.2.2.2.2.1, v), S.2.2.2)
def cx_l_named (S : CS) : Nat → Int32 := S.2.2.2.1.1
def cx_set_l_named (S : CS) (v : Nat → Int32) : CS := (S.1, S.2.1, S.2.2.1, (v, S.2.2.2.1.2), S.2.2.2.2)
def cx_l_stack (S : CS) : Nat → Int32 := S.2.2.2.1.2.1
def cx_set_l_stack (S : CS) (v : Nat → Int32) : CS := (S.1, S.2.1, S.2.2.1, (S.2.2.2.1.1, v, S.2.2.2.1.2.2), S.2.2.2.2)
def cx_l_height (S : CS) : Int32 := S.2.2.2.1.2.2.1
def cx_set_l_height (S : CS) (v : Int32) : CS := (S.1, S.2.1, S.2.2.1, (S.2.2.2.1.1, S.2.2.2.1.2.1, v, S.2.2.2.1.2.2.2), S.2.2.2.2)
def cx_g_asItIs (S : CS) : Nat → Int32 := S.2.2.2.1.2.2.2.1
def cx_set_g_asItIs (S : CS) (v : Nat → Int32) : CS := (S.1, S.2.1, S.2.2.1, (S.2.2.2.1.1, S.2.2.2.1.2.1, S.2.2.2.1.2.2.1, v, S.2.2.2.1.2.2.2.2), S.2.2.2.2)
def cx_s_layer (S : CS) : Nat → Int64 := S.2.2.2.1.2.2.2.2.1
def cx_set_s_layer (S : CS) (v : Nat → Int64) : CS := (S.1, S.2.1, S.2.2.1, (S.2.2.2.1.1, S.2.2.2.1.2.1, S.2.2.2.1.2.2.1, S.2.2.2.1.2.2.2.1, v, S.2.2.2.1.2.2.2.2.2), S.2.2.2.2)
def cx_s_nextLayer (S : CS) : Nat → Int64 := S.2.2.2.1.2.2.2.2.2.1
def cx_set_s_nextLayer (S : CS) (v : Nat → Int64) : CS := (S.1, S.2.1, S.2.2.1, (S.2.2.2.1.1, S.2.2.2.1.2.1, S.2.2.2.1.2.2.1, S.2.2.2.1.2.2.2.1, S.2.2.2.1.2.2.2.2.1, v, S.2.2.2.1.2.2.2.2.2.2), S.2.2.2.2)
def cx_s_seen (S : CS) : Nat → Int32 := S.2.2.2.1.2.2.2.2.2.2.1
def cx_set_s_seen (S : CS) (v : Nat → Int32) : CS := (S.1, S.2.1, S.2.2.1, (S.2.2.2.1.1, S.2.2.2.1.2.1, S.2.2.2.1.2.2.1, S.2.2.2.1.2.2.2.1, S.2.2.2.1.2.2.2.2.1, S.2.2.2.1.2.2.2.2.2.1, v, S.2.2.2.1.2.2.2.2.2.2.2), S.2.2.2.2)
def cx_s_count (S : CS) : Int32 := S.2.2.2.1.2.2.2.2.2.2.2.1
def cx_set_s_count (S : CS) (v : Int32) : CS := (S.1, S.2.1, S.2.2.1, (S.2.2.2.1.1, S.2.2.2.1.2.1, S.2.2.2.1.2.2.1, S.2.2.2.1.2.2.2.1, S.2.2.2.1.2.2.2.2.1, S.2.2.2.1.2.2.2.2.2.1, S.2.2.2.1.2.2.2.2.2.2.1, v, S.2.2.2.1.2.2.2.2.2.2.2.2), S.2.2.2.2)
def cx_s_length (S : CS) : Int32 := S.2.2.2.1.2.2.2.2.2.2.2.2.1
def cx_set_s_length (S : CS) (v : Int32) : CS := (S.1, S.2.1, S.2.2.1, (S.2.2.2.1.1, S.2.2.2.1.2.1, S.2.2.2.1.2.2.1, S.2.2.2.1.2.2.2.1, S.2.2.2.1.2.2.2.2.1, S.2.2.2.1.2.2.2.2.2.1, S.2.2.2.1.2.2.2.2.2.2.1, S.2.2.2.1.2.2.2.2.2.2.2.1, v, S.2.2.2.1.2.2.2.2.2.2.2.2.2), S.2.2.2.2)
def cx_s_path (S : CS) : Int64 := S.2.2.2.1.2.2.2.2.2.2.2.2.2.1
def cx_set_s_path (S : CS) (v : Int64) : CS := (S.1, S.2.1, S.2.2.1, (S.2.2.2.1.1, S.2.2.2.1.2.1, S.2.2.2.1.2.2.1, S.2.2.2.1.2.2.2.1, S.2.2.2.1.2.2.2.2.1, S.2.2.2.1.2.2.2.2.2.1, S.2.2.2.1.2.2.2.2.2.2.1, S.2.2.2.1.2.2.2.2.2.2.2.1, S.2.2.2.1.2.2.2.2.2.2.2.2.1, v, S.2.2.2.1.2.2.2.2.2.2.2.2.2.2), S.2.2.2.2)
def cx_m_toGladness (S : CS) : Int32 := S.2.2.2.1.2.2.2.2.2.2.2.2.2.2.1
def cx_set_m_toGladness (S : CS) (v : Int32) : CS := (S.1, S.2.1, S.2.2.1, (S.2.2.2.1.1, S.2.2.2.1.2.1, S.2.2.2.1.2.2.1, S.2.2.2.1.2.2.2.1, S.2.2.2.1.2.2.2.2.1, S.2.2.2.1.2.2.2.2.2.1, S.2.2.2.1.2.2.2.2.2.2.1, S.2.2.2.1.2.2.2.2.2.2.2.1, S.2.2.2.1.2.2.2.2.2.2.2.2.1, S.2.2.2.1.2.2.2.2.2.2.2.2.2.1, v, S.2.2.2.1.2.2.2.2.2.2.2.2.2.2.2), S.2.2.2.2)
def cx_f_tired (S : CS) : Int32 := S.2.2.2.1.2.2.2.2.2.2.2.2.2.2.2.1
def cx_set_f_tired (S : CS) (v : Int32) : CS := (S.1, S.2.1, S.2.2.1, (S.2.2.2.1.1, S.2.2.2.1.2.1, S.2.2.2.1.2.2.1, S.2.2.2.1.2.2.2.1, S.2.2.2.1.2.2.2.2.1, S.2.2.2.1.2.2.2.2.2.1, S.2.2.2.1.2.2.2.2.2.2.1, S.2.2.2.1.2.2.2.2.2.2.2.1, S.2.2.2.1.2.2.2.2.2.2.2.2.1, S.2.2.2.1.2.2.2.2.2.2.2.2.2.1, S.2.2.2.1.2.2.2.2.2.2.2.2.2.2.1, v, S.2.2.2.1.2.2.2.2.2.2.2.2.2.2.2.2), S.2.2.2.2)
def cx_f_clown (S : CS) : Int32 := S.2.2.2.1.2.2.2.2.2.2.2.2.2.2.2.2.1
def cx_set_f_clown (S : CS) (v : Int32) : CS := (S.1, S.2.1, S.2.2.1, (S.2.2.2.1.1, S.2.2.2.1.2.1, S.2.2.2.1.2.2.1, S.2.2.2.1.2.2.2.1, S.2.2.2.1.2.2.2.2.1, S.2.2.2.1.2.2.2.2.2.1, S.2.2.2.1.2.2.2.2.2.2.1, S.2.2.2.1.2.2.2.2.2.2.2.1, S.2.2.2.1.2.2.2.2.2.2.2.2.1, S.2.2.2.1.2.2.2.2.2.2.2.2.2.1, S.2.2.2.1.2.2.2.2.2.2.2.2.2.2.1, S.2.2.2.1.2.2.2.2.2.2.2.2.2.2.2.1, v, S.2.2.2.1.2.2.2.2.2.2.2.2.2.2.2.2.2), S.2.2.2.2)
def cx_f_house (S : CS) : Int32 := S.2.2.2.1.2.2.2.2.2.2.2.2.2.2.2.2.2.1
def cx_set_f_house (S : CS) (v : Int32) : CS := (S.1, S.2.1, S.2.2.1, (S.2.2.2.1.1, S.2.2.2.1.2.1, S.2.2.2.1.2.2.1, S.2.2.2.1.2.2.2.1, S.2.2.2.1.2.2.2.2.1, S.2.2.2.1.2.2.2.2.2.1, S.2.2.2.1.2.2.2.2.2.2.1, S.2.2.2.1.2.2.2.2.2.2.2.1, S.2.2.2.1.2.2.2.2.2.2.2.2.1, S.2.2.2.1.2.2.2.2.2.2.2.2.2.1, S.2.2.2.1.2.2.2.2.2.2.2.2.2.2.1, S.2.2.2.1.2.2.2.2.2.2.2.2.2.2.2.1, S.2.2.2.1.2.2.2.2.2.2.2.2.2.2.2.2.1, v, S.2.2.2.1.2.2.2.2.2.2.2.2.2.2.2.2.2.2), S.2.2.2.2)
def cx_f_enough (S : CS) : Int32 := S.2.2.2.1.2.2.2.2.2.2.2.2.2.2.2.2.2.2.1
def cx_set_f_enough (S : CS) (v : Int32) : CS := (S.1, S.2.1, S.2.2.1, (S.2.2.2.1.1, S.2.2.2.1.2.1, S.2.2.2.1.2.2.1, S.2.2.2.1.2.2.2.1, S.2.2.2.1.2.2.2.2.1, S.2.2.2.1.2.2.2.2.2.1, S.2.2.2.1.2.2.2.2.2.2.1, S.2.2.2.1.2.2.2.2.2.2.2.1, S.2.2.2.1.2.2.2.2.2.2.2.2.1, S.2.2.2.1.2.2.2.2.2.2.2.2.2.1, S.2.2.2.1.2.2.2.2.2.2.2.2.2.2.1, S.2.2.2.1.2.2.2.2.2.2.2.2.2.2.2.1, S.2.2.2.1.2.2.2.2.2.2.2.2.2.2.2.2.1, S.2.2.2.1.2.2.2.2.2.2.2.2.2.2.2.2.2.1, v, S.2.2.2.1.2.2.2.2.2.2.2.2.2.2.2.2.2.2.2), S.2.2.2.2)
def cx_t_least (S : CS) : Int32 := S.2.2.2.1.2.2.2.2.2.2.2.2.2.2.2.2.2.2.2.1
def cx_set_t_least (S : CS) (v : Int32) : CS := (S.1, S.2.1, S.2.2.1, (S.2.2.2.1.1, S.2.2.2.1.2.1, S.2.2.2.1.2.2.1, S.2.2.2.1.2.2.2.1, S.2.2.2.1.2.2.2.2.1, S.2.2.2.1.2.2.2.2.2.1, S.2.2.2.1.2.2.2.2.2.2.1, S.2.2.2.1.2.2.2.2.2.2.2.1, S.2.2.2.1.2.2.2.2.2.2.2.2.1, S.2.2.2.1.2.2.2.2.2.2.2.2.2.1, S.2.2.2.1.2.2.2.2.2.2.2.2.2.2.1, S.2.2.2.1.2.2.2.2.2.2.2.2.2.2.2.1, S.2.2.2.1.2.2.2.2.2.2.2.2.2.2.2.2.1, S.2.2.2.1.2.2.2.2.2.2.2.2.2.2.2.2.2.1, S.2.2.2.1.2.2.2.2.2.2.2.2.2.2.2.2.2.2.1, v, S.2.2.2.1.2.2.2.2.2.2.2.2.2.2.2.2.2.2.2.2), S.2.2.2.2)
def cx_t_best (S : CS) : Nat → Int32 := S.2.2.2.1.2.2.2.2.2.2.2.2.2.2.2.2.2.2.2.2.1
def cx_set_t_best (S : CS) (v : Nat → Int32) : CS := (S.1, S.2.1, S.2.2.1, (S.2.2.2.1.1, S.2.2.2.1.2.1, S.2.2.2.1.2.2.1, S.2.2.2.1.2.2.2.1, S.2.2.2.1.2.2.2.2.1, S.2.2.2.1.2.2.2.2.2.1, S.2.2.2.1.2.2.2.2.2.2.1, S.2.2.2.1.2.2.2.2.2.2.2.1, S.2.2.2.1.2.2.2.2.2.2.2.2.1, S.2.2.2.1.2.2.2.2.2.2.2.2.2.1, S.2.2.2.1.2.2.2.2.2.2.2.2.2.2.1, S.2.2.2.1.2.2.2.2.2.2.2.2.2.2.2.1, S.2.2.2.1.2.2.2.2.2.2.2.2.2.2.2.2.1, S.2.2.2.1.2.2.2.2.2.2.2.2.2.2.2.2.2.1, S.2.2.2.1.2.2.2.2.2.2.2.2.2.2.2.2.2.2.1, S.2.2.2.1.2.2.2.2.2.2.2.2.2.2.2.2.2.2.2.1, v, S.2.2.2.1.2.2.2.2.2.2.2.2.2.2.2.2.2.2.2.2.2), S.2.2.2.2)
def cx_t_goes (S : CS) : Nat → Int32 := S.2.2.2.1.2.2.2.2.2.2.2.2.2.2.2.2.2.2.2.2.2
def cx_set_t_goes (S : CS) (v : Nat → Int32) : CS := (S.1, S.2.1, S.2.2.1, (S.2.2.2.1.1, S.2.2.2.1.2.1, S.2.2.2.1.2.2.1, S.2.2.2.1.2.2.2.1, S.2.2.2.1.2.2.2.2.1, S.2.2.2.1.2.2.2.2.2.1, S.2.2.2.1.2.2.2.2.2.2.1, S.2.2.2.1.2.2.2.2.2.2.2.1, S.2.2.2.1.2.2.2.2.2.2.2.2.1, S.2.2.2.1.2.2.2.2.2.2.2.2.2.1, S.2.2.2.1.2.2.2.2.2.2.2.2.2.2.1, S.2.2.2.1.2.2.2.2.2.2.2.2.2.2.2.1, S.2.2.2.1.2.2.2.2.2.2.2.2.2.2.2.2.1, S.2.2.2.1.2.2.2.2.2.2.2.2.2.2.2.2.2.1, S.2.2.2.1.2.2.2.2.2.2.2.2.2.2.2.2.2.2.1, S.2.2.2.1.2.2.2.2.2.2.2.2.2.2.2.2.2.2.2.1, S.2.2.2.1.2.2.2.2.2.2.2.2.2.2.2.2.2.2.2.2.1, v), S.2.2.2.2)
def cx_px (S : CS) : List (Nat × TB) := S.2.2.2.2
def cx_set_px (S : CS) (v : List (Nat × TB)) : CS := (S.1, S.2.1, S.2.2.1, S.2.2.2.1, v)
/-- the cells of a text: itself and its three rows (their array class is the tape's) -/
def tbW (cI : ClassId) (q : Nat × TB) : va_W := [(q.1, .inr (9, [.int q.2.1, .ref q.2.2.1.1, .ref q.2.2.1.2.1, .ref q.2.2.1.2.2])), (q.2.2.1.1, .inl (cI, q.2.2.2.1.1, .inl q.2.2.2.1.2)), (q.2.2.1.2.1, .inl (cI, q.2.2.2.2.1.1, .inl q.2.2.2.2.1.2)), (q.2.2.1.2.2, .inl (cI, q.2.2.2.2.2.1, .inl q.2.2.2.2.2.2))]
def wC (h : Nat → Nat) (cy : Nat → ClassId) (S : CS) : va_W := [(h 0, .inr (10, [.ref (h 1), .ref (h 3), .ref (h 5), .ref (h 6), .ref (h 7), .ref (h 8), .ref (h 9), .ref (h 10), .ref (h 11)])), (h 1, .inr (0, [.ref (h 12), .ref (h 2), .ref (h 13), .ref (h 14), .ref (h 15), .ref (h 16), .ref (h 17), .int (cx_c_textCount S), .int (cx_c_ruling S), .ref (h 18), .ref (h 19), .int (cx_c_trialCount S), .ref (h 20), .ref (h 21), .ref (h 22), .int (cx_c_grownCount S)])), (h 2, .inr (8, [.ref (h 23), .int (cx_cs_first S), .int (cx_cs_count S)])), (h 3, .inr (0, [.ref (h 24), .ref (h 4), .ref (h 25), .ref (h 26), .ref (h 27), .ref (h 28), .ref (h 29), .int (cx_k_textCount S), .int (cx_k_ruling S), .ref (h 30), .ref (h 31), .int (cx_k_trialCount S), .ref (h 32), .ref (h 33), .ref (h 34), .int (cx_k_grownCount S)])), (h 4, .inr (8, [.ref (h 35), .int (cx_ks_first S), .int (cx_ks_count S)])), (h 5, .inr (6, [.int (cx_r_length S), .int (cx_r_lastFault S), .int (cx_r_lastPlace S), .ref (h 36), .ref (h 37), .ref (h 38), .ref (h 39), .int (cx_r_clauseCount S), .int (cx_r_codeLength S), .int (cx_r_place S), .int (cx_r_start S), .int (cx_r_token S), .int (cx_r_number S), .int (cx_r_fault S), .int (cx_r_law S), .int (cx_r_open S)])), (h 6, .inr (3, [.ref (h 1), .ref (h 40), .ref (h 41), .int (cx_l_height S)])), (h 7, .inr (2, [.ref (h 1), .ref (h 6), .ref (h 42)])), (h 8, .inr (7, [.ref (h 43), .ref (h 44), .ref (h 45), .int (cx_s_count S), .int (cx_s_length S), .long (cx_s_path S)])), (h 9, .inr (5, [.ref (h 1), .int (cx_m_toGladness S)])), (h 10, .inr (1, [.int (cx_f_tired S), .ref (h 1), .ref (h 6), .int (cx_f_clown S), .int (cx_f_house S), .int (cx_f_enough S)])), (h 11, .inr (4, [.int (cx_t_least S), .ref (h 46), .ref (h 1), .ref (h 47)])), (h 12, .inl (cy 12, 74, .inl (cx_c_now S))), (h 13, .inl (cy 13, 6, .inl (cx_c_kinds S))), (h 14, .inl (cy 14, 5, .inl (cx_c_skills S))), (h 15, .inl (cy 15, 5, .inl (cx_c_ages S))), (h 16, .inl (cy 16, 50, .inl (cx_c_turns S))), (h 17, .inl (cy 17, 4, .inr (.inr (.inr (.inr (cx_c_texts S)))))), (h 18, .inl (cy 18, 30, .inl (cx_c_costs S))), (h 19, .inl (cy 19, 8, .inl (cx_c_trials S))), (h 20, .inl (cy 20, 16, .inl (cx_c_worths S))), (h 21, .inl (cy 21, 5, .inl (cx_c_aheads S))), (h 22, .inl (cy 22, 8, .inl (cx_c_growns S))), (h 23, .inl (cy 23, 2220, .inl (cx_cs_rows S))), (h 24, .inl (cy 24, 74, .inl (cx_k_now S))), (h 25, .inl (cy 25, 6, .inl (cx_k_kinds S))), (h 26, .inl (cy 26, 5, .inl (cx_k_skills S))), (h 27, .inl (cy 27, 5, .inl (cx_k_ages S))), (h 28, .inl (cy 28, 50, .inl (cx_k_turns S))), (h 29, .inl (cy 29, 4, .inr (.inr (.inr (.inr (cx_k_texts S)))))), (h 30, .inl (cy 30, 30, .inl (cx_k_costs S))), (h 31, .inl (cy 31, 8, .inl (cx_k_trials S))), (h 32, .inl (cy 32, 16, .inl (cx_k_worths S))), (h 33, .inl (cy 33, 5, .inl (cx_k_aheads S))), (h 34, .inl (cy 34, 8, .inl (cx_k_growns S))), (h 35, .inl (cy 35, 2220, .inl (cx_ks_rows S))), (h 36, .inl (cy 36, 300, .inl (cx_r_tape S))), (h 37, .inl (cy 37, 96, .inl (cx_r_clauses S))), (h 38, .inl (cy 38, 300, .inl (cx_r_code S))), (h 39, .inl (cy 39, 6, .inl (cx_r_bounds S))), (h 40, .inl (cy 40, 12, .inl (cx_l_named S))), (h 41, .inl (cy 41, 64, .inl (cx_l_stack S))), (h 42, .inl (cy 42, 74, .inl (cx_g_asItIs S))), (h 43, .inl (cy 43, 1024, .inr (.inl (cx_s_layer S)))), (h 44, .inl (cy 44, 1024, .inr (.inl (cx_s_nextLayer S)))), (h 45, .inl (cy 45, 32, .inl (cx_s_seen S))), (h 46, .inl (cy 46, 5, .inl (cx_t_best S))), (h 47, .inl (cy 47, 5, .inl (cx_t_goes S)))] ++ (cx_px S).flatMap (tbW (cy 36))
def tyC (cy : Nat → ClassId) : List (ClassId × FieldType) := [(cy 12, .int), (cy 13, .int), (cy 14, .int), (cy 15, .int), (cy 16, .int), (cy 17, .object "ClownsMourn$Text"), (cy 18, .int), (cy 19, .int), (cy 20, .int), (cy 21, .int), (cy 22, .int), (cy 23, .int), (cy 24, .int), (cy 25, .int), (cy 26, .int), (cy 27, .int), (cy 28, .int), (cy 29, .object "ClownsMourn$Text"), (cy 30, .int), (cy 31, .int), (cy 32, .int), (cy 33, .int), (cy 34, .int), (cy 35, .int), (cy 36, .int), (cy 37, .int), (cy 38, .int), (cy 39, .int), (cy 40, .int), (cy 41, .int), (cy 42, .int), (cy 43, .long), (cy 44, .long), (cy 45, .int), (cy 46, .int), (cy 47, .int)]
theorem px_in {h : Nat → Nat} {cy : Nat → ClassId} {S : CS} {t : Nat} {B : TB} (hm : (t, B) ∈ cx_px S) {x : Nat × va_E} (hx : x ∈ tbW (cy 36) (t, B)) : ∃ k : Nat, (wC h cy S)[k]? = some x := List.getElem?_of_mem (List.mem_append_right _ (List.mem_flatMap.mpr ⟨(t, B), hm, hx⟩))
theorem px_obj {h : Nat → Nat} {cy : Nat → ClassId} {S : CS} {t : Nat} {B : TB} (hm : (t, B) ∈ cx_px S) : ∃ k : Nat, (wC h cy S)[k]? = some (t, .inr (9, [.int B.1, .ref B.2.1.1, .ref B.2.1.2.1, .ref B.2.1.2.2])) := px_in hm (List.mem_of_getElem? (i := 0) rfl)
theorem px_r1 {h : Nat → Nat} {cy : Nat → ClassId} {S : CS} {t : Nat} {B : TB} (hm : (t, B) ∈ cx_px S) : ∃ k : Nat, (wC h cy S)[k]? = some (B.2.1.1, .inl (cy 36, B.2.2.1.1, .inl B.2.2.1.2)) := px_in hm (List.mem_of_getElem? (i := 1) rfl)
theorem px_r2 {h : Nat → Nat} {cy : Nat → ClassId} {S : CS} {t : Nat} {B : TB} (hm : (t, B) ∈ cx_px S) : ∃ k : Nat, (wC h cy S)[k]? = some (B.2.1.2.1, .inl (cy 36, B.2.2.2.1.1, .inl B.2.2.2.1.2)) := px_in hm (List.mem_of_getElem? (i := 2) rfl)
theorem px_r3 {h : Nat → Nat} {cy : Nat → ClassId} {S : CS} {t : Nat} {B : TB} (hm : (t, B) ∈ cx_px S) : ∃ k : Nat, (wC h cy S)[k]? = some (B.2.1.2.2, .inl (cy 36, B.2.2.2.2.1, .inl B.2.2.2.2.2)) := px_in hm (List.mem_of_getElem? (i := 3) rfl)
theorem wCs_c_now (h : Nat → Nat) (cy : Nat → ClassId) (S : CS) (v : Nat → Int32) : (wC h cy S).set 12 (h 12, .inl (cy 12, 74, .inl v)) = wC h cy (cx_set_c_now S v) := rfl
theorem wCs_c_kinds (h : Nat → Nat) (cy : Nat → ClassId) (S : CS) (v : Nat → Int32) : (wC h cy S).set 13 (h 13, .inl (cy 13, 6, .inl v)) = wC h cy (cx_set_c_kinds S v) := rfl
theorem wCs_c_skills (h : Nat → Nat) (cy : Nat → ClassId) (S : CS) (v : Nat → Int32) : (wC h cy S).set 14 (h 14, .inl (cy 14, 5, .inl v)) = wC h cy (cx_set_c_skills S v) := rfl
theorem wCs_c_ages (h : Nat → Nat) (cy : Nat → ClassId) (S : CS) (v : Nat → Int32) : (wC h cy S).set 15 (h 15, .inl (cy 15, 5, .inl v)) = wC h cy (cx_set_c_ages S v) := rfl
theorem wCs_c_turns (h : Nat → Nat) (cy : Nat → ClassId) (S : CS) (v : Nat → Int32) : (wC h cy S).set 16 (h 16, .inl (cy 16, 50, .inl v)) = wC h cy (cx_set_c_turns S v) := rfl
theorem wCs_c_texts (h : Nat → Nat) (cy : Nat → ClassId) (S : CS) (v : Nat → Option Nat) : (wC h cy S).set 17 (h 17, .inl (cy 17, 4, .inr (.inr (.inr (.inr v))))) = wC h cy (cx_set_c_texts S v) := rfl
theorem wCs_c_costs (h : Nat → Nat) (cy : Nat → ClassId) (S : CS) (v : Nat → Int32) : (wC h cy S).set 18 (h 18, .inl (cy 18, 30, .inl v)) = wC h cy (cx_set_c_costs S v) := rfl
theorem wCs_c_trials (h : Nat → Nat) (cy : Nat → ClassId) (S : CS) (v : Nat → Int32) : (wC h cy S).set 19 (h 19, .inl (cy 19, 8, .inl v)) = wC h cy (cx_set_c_trials S v) := rfl
theorem wCs_c_worths (h : Nat → Nat) (cy : Nat → ClassId) (S : CS) (v : Nat → Int32) : (wC h cy S).set 20 (h 20, .inl (cy 20, 16, .inl v)) = wC h cy (cx_set_c_worths S v) := rfl
theorem wCs_c_aheads (h : Nat → Nat) (cy : Nat → ClassId) (S : CS) (v : Nat → Int32) : (wC h cy S).set 21 (h 21, .inl (cy 21, 5, .inl v)) = wC h cy (cx_set_c_aheads S v) := rfl
theorem wCs_c_growns (h : Nat → Nat) (cy : Nat → ClassId) (S : CS) (v : Nat → Int32) : (wC h cy S).set 22 (h 22, .inl (cy 22, 8, .inl v)) = wC h cy (cx_set_c_growns S v) := rfl
theorem wCs_cs_rows (h : Nat → Nat) (cy : Nat → ClassId) (S : CS) (v : Nat → Int32) : (wC h cy S).set 23 (h 23, .inl (cy 23, 2220, .inl v)) = wC h cy (cx_set_cs_rows S v) := rfl
theorem wCs_k_now (h : Nat → Nat) (cy : Nat → ClassId) (S : CS) (v : Nat → Int32) : (wC h cy S).set 24 (h 24, .inl (cy 24, 74, .inl v)) = wC h cy (cx_set_k_now S v) := rfl
theorem wCs_k_kinds (h : Nat → Nat) (cy : Nat → ClassId) (S : CS) (v : Nat → Int32) : (wC h cy S).set 25 (h 25, .inl (cy 25, 6, .inl v)) = wC h cy (cx_set_k_kinds S v) := rfl
theorem wCs_k_skills (h : Nat → Nat) (cy : Nat → ClassId) (S : CS) (v : Nat → Int32) : (wC h cy S).set 26 (h 26, .inl (cy 26, 5, .inl v)) = wC h cy (cx_set_k_skills S v) := rfl
theorem wCs_k_ages (h : Nat → Nat) (cy : Nat → ClassId) (S : CS) (v : Nat → Int32) : (wC h cy S).set 27 (h 27, .inl (cy 27, 5, .inl v)) = wC h cy (cx_set_k_ages S v) := rfl
theorem wCs_k_turns (h : Nat → Nat) (cy : Nat → ClassId) (S : CS) (v : Nat → Int32) : (wC h cy S).set 28 (h 28, .inl (cy 28, 50, .inl v)) = wC h cy (cx_set_k_turns S v) := rfl
theorem wCs_k_texts (h : Nat → Nat) (cy : Nat → ClassId) (S : CS) (v : Nat → Option Nat) : (wC h cy S).set 29 (h 29, .inl (cy 29, 4, .inr (.inr (.inr (.inr v))))) = wC h cy (cx_set_k_texts S v) := rfl
theorem wCs_k_costs (h : Nat → Nat) (cy : Nat → ClassId) (S : CS) (v : Nat → Int32) : (wC h cy S).set 30 (h 30, .inl (cy 30, 30, .inl v)) = wC h cy (cx_set_k_costs S v) := rfl
theorem wCs_k_trials (h : Nat → Nat) (cy : Nat → ClassId) (S : CS) (v : Nat → Int32) : (wC h cy S).set 31 (h 31, .inl (cy 31, 8, .inl v)) = wC h cy (cx_set_k_trials S v) := rfl
theorem wCs_k_worths (h : Nat → Nat) (cy : Nat → ClassId) (S : CS) (v : Nat → Int32) : (wC h cy S).set 32 (h 32, .inl (cy 32, 16, .inl v)) = wC h cy (cx_set_k_worths S v) := rfl
theorem wCs_k_aheads (h : Nat → Nat) (cy : Nat → ClassId) (S : CS) (v : Nat → Int32) : (wC h cy S).set 33 (h 33, .inl (cy 33, 5, .inl v)) = wC h cy (cx_set_k_aheads S v) := rfl
theorem wCs_k_growns (h : Nat → Nat) (cy : Nat → ClassId) (S : CS) (v : Nat → Int32) : (wC h cy S).set 34 (h 34, .inl (cy 34, 8, .inl v)) = wC h cy (cx_set_k_growns S v) := rfl
theorem wCs_ks_rows (h : Nat → Nat) (cy : Nat → ClassId) (S : CS) (v : Nat → Int32) : (wC h cy S).set 35 (h 35, .inl (cy 35, 2220, .inl v)) = wC h cy (cx_set_ks_rows S v) := rfl
theorem wCs_r_tape (h : Nat → Nat) (cy : Nat → ClassId) (S : CS) (v : Nat → Int32) : (wC h cy S).set 36 (h 36, .inl (cy 36, 300, .inl v)) = wC h cy (cx_set_r_tape S v) := rfl
theorem wCs_r_clauses (h : Nat → Nat) (cy : Nat → ClassId) (S : CS) (v : Nat → Int32) : (wC h cy S).set 37 (h 37, .inl (cy 37, 96, .inl v)) = wC h cy (cx_set_r_clauses S v) := rfl
theorem wCs_r_code (h : Nat → Nat) (cy : Nat → ClassId) (S : CS) (v : Nat → Int32) : (wC h cy S).set 38 (h 38, .inl (cy 38, 300, .inl v)) = wC h cy (cx_set_r_code S v) := rfl
theorem wCs_r_bounds (h : Nat → Nat) (cy : Nat → ClassId) (S : CS) (v : Nat → Int32) : (wC h cy S).set 39 (h 39, .inl (cy 39, 6, .inl v)) = wC h cy (cx_set_r_bounds S v) := rfl
theorem wCs_l_named (h : Nat → Nat) (cy : Nat → ClassId) (S : CS) (v : Nat → Int32) : (wC h cy S).set 40 (h 40, .inl (cy 40, 12, .inl v)) = wC h cy (cx_set_l_named S v) := rfl
theorem wCs_l_stack (h : Nat → Nat) (cy : Nat → ClassId) (S : CS) (v : Nat → Int32) : (wC h cy S).set 41 (h 41, .inl (cy 41, 64, .inl v)) = wC h cy (cx_set_l_stack S v) := rfl
theorem wCs_g_asItIs (h : Nat → Nat) (cy : Nat → ClassId) (S : CS) (v : Nat → Int32) : (wC h cy S).set 42 (h 42, .inl (cy 42, 74, .inl v)) = wC h cy (cx_set_g_asItIs S v) := rfl
theorem wCs_s_layer (h : Nat → Nat) (cy : Nat → ClassId) (S : CS) (v : Nat → Int64) : (wC h cy S).set 43 (h 43, .inl (cy 43, 1024, .inr (.inl v))) = wC h cy (cx_set_s_layer S v) := rfl
theorem wCs_s_nextLayer (h : Nat → Nat) (cy : Nat → ClassId) (S : CS) (v : Nat → Int64) : (wC h cy S).set 44 (h 44, .inl (cy 44, 1024, .inr (.inl v))) = wC h cy (cx_set_s_nextLayer S v) := rfl
theorem wCs_s_seen (h : Nat → Nat) (cy : Nat → ClassId) (S : CS) (v : Nat → Int32) : (wC h cy S).set 45 (h 45, .inl (cy 45, 32, .inl v)) = wC h cy (cx_set_s_seen S v) := rfl
theorem wCs_t_best (h : Nat → Nat) (cy : Nat → ClassId) (S : CS) (v : Nat → Int32) : (wC h cy S).set 46 (h 46, .inl (cy 46, 5, .inl v)) = wC h cy (cx_set_t_best S v) := rfl
theorem wCs_t_goes (h : Nat → Nat) (cy : Nat → ClassId) (S : CS) (v : Nat → Int32) : (wC h cy S).set 47 (h 47, .inl (cy 47, 5, .inl v)) = wC h cy (cx_set_t_goes S v) := rfl
theorem wCp_c_textCount (h : Nat → Nat) (cy : Nat → ClassId) (S : CS) (v : Int32) : (wC h cy S).set 1 (h 1, .inr (0, List.set [.ref (h 12), .ref (h 2), .ref (h 13), .ref (h 14), .ref (h 15), .ref (h 16), .ref (h 17), .int (cx_c_textCount S), .int (cx_c_ruling S), .ref (h 18), .ref (h 19), .int (cx_c_trialCount S), .ref (h 20), .ref (h 21), .ref (h 22), .int (cx_c_grownCount S)] 7 (.int v))) = wC h cy (cx_set_c_textCount S v) := rfl
theorem wCp_c_ruling (h : Nat → Nat) (cy : Nat → ClassId) (S : CS) (v : Int32) : (wC h cy S).set 1 (h 1, .inr (0, List.set [.ref (h 12), .ref (h 2), .ref (h 13), .ref (h 14), .ref (h 15), .ref (h 16), .ref (h 17), .int (cx_c_textCount S), .int (cx_c_ruling S), .ref (h 18), .ref (h 19), .int (cx_c_trialCount S), .ref (h 20), .ref (h 21), .ref (h 22), .int (cx_c_grownCount S)] 8 (.int v))) = wC h cy (cx_set_c_ruling S v) := rfl
theorem wCp_c_trialCount (h : Nat → Nat) (cy : Nat → ClassId) (S : CS) (v : Int32) : (wC h cy S).set 1 (h 1, .inr (0, List.set [.ref (h 12), .ref (h 2), .ref (h 13), .ref (h 14), .ref (h 15), .ref (h 16), .ref (h 17), .int (cx_c_textCount S), .int (cx_c_ruling S), .ref (h 18), .ref (h 19), .int (cx_c_trialCount S), .ref (h 20), .ref (h 21), .ref (h 22), .int (cx_c_grownCount S)] 11 (.int v))) = wC h cy (cx_set_c_trialCount S v) := rfl
theorem wCp_c_grownCount (h : Nat → Nat) (cy : Nat → ClassId) (S : CS) (v : Int32) : (wC h cy S).set 1 (h 1, .inr (0, List.set [.ref (h 12), .ref (h 2), .ref (h 13), .ref (h 14), .ref (h 15), .ref (h 16), .ref (h 17), .int (cx_c_textCount S), .int (cx_c_ruling S), .ref (h 18), .ref (h 19), .int (cx_c_trialCount S), .ref (h 20), .ref (h 21), .ref (h 22), .int (cx_c_grownCount S)] 15 (.int v))) = wC h cy (cx_set_c_grownCount S v) := rfl
theorem wCp_cs_first (h : Nat → Nat) (cy : Nat → ClassId) (S : CS) (v : Int32) : (wC h cy S).set 2 (h 2, .inr (8, List.set [.ref (h 23), .int (cx_cs_first S), .int (cx_cs_count S)] 1 (.int v))) = wC h cy (cx_set_cs_first S v) := rfl
theorem wCp_cs_count (h : Nat → Nat) (cy : Nat → ClassId) (S : CS) (v : Int32) : (wC h cy S).set 2 (h 2, .inr (8, List.set [.ref (h 23), .int (cx_cs_first S), .int (cx_cs_count S)] 2 (.int v))) = wC h cy (cx_set_cs_count S v) := rfl
theorem wCp_k_textCount (h : Nat → Nat) (cy : Nat → ClassId) (S : CS) (v : Int32) : (wC h cy S).set 3 (h 3, .inr (0, List.set [.ref (h 24), .ref (h 4), .ref (h 25), .ref (h 26), .ref (h 27), .ref (h 28), .ref (h 29), .int (cx_k_textCount S), .int (cx_k_ruling S), .ref (h 30), .ref (h 31), .int (cx_k_trialCount S), .ref (h 32), .ref (h 33), .ref (h 34), .int (cx_k_grownCount S)] 7 (.int v))) = wC h cy (cx_set_k_textCount S v) := rfl
theorem wCp_k_ruling (h : Nat → Nat) (cy : Nat → ClassId) (S : CS) (v : Int32) : (wC h cy S).set 3 (h 3, .inr (0, List.set [.ref (h 24), .ref (h 4), .ref (h 25), .ref (h 26), .ref (h 27), .ref (h 28), .ref (h 29), .int (cx_k_textCount S), .int (cx_k_ruling S), .ref (h 30), .ref (h 31), .int (cx_k_trialCount S), .ref (h 32), .ref (h 33), .ref (h 34), .int (cx_k_grownCount S)] 8 (.int v))) = wC h cy (cx_set_k_ruling S v) := rfl
theorem wCp_k_trialCount (h : Nat → Nat) (cy : Nat → ClassId) (S : CS) (v : Int32) : (wC h cy S).set 3 (h 3, .inr (0, List.set [.ref (h 24), .ref (h 4), .ref (h 25), .ref (h 26), .ref (h 27), .ref (h 28), .ref (h 29), .int (cx_k_textCount S), .int (cx_k_ruling S), .ref (h 30), .ref (h 31), .int (cx_k_trialCount S), .ref (h 32), .ref (h 33), .ref (h 34), .int (cx_k_grownCount S)] 11 (.int v))) = wC h cy (cx_set_k_trialCount S v) := rfl
theorem wCp_k_grownCount (h : Nat → Nat) (cy : Nat → ClassId) (S : CS) (v : Int32) : (wC h cy S).set 3 (h 3, .inr (0, List.set [.ref (h 24), .ref (h 4), .ref (h 25), .ref (h 26), .ref (h 27), .ref (h 28), .ref (h 29), .int (cx_k_textCount S), .int (cx_k_ruling S), .ref (h 30), .ref (h 31), .int (cx_k_trialCount S), .ref (h 32), .ref (h 33), .ref (h 34), .int (cx_k_grownCount S)] 15 (.int v))) = wC h cy (cx_set_k_grownCount S v) := rfl
theorem wCp_ks_first (h : Nat → Nat) (cy : Nat → ClassId) (S : CS) (v : Int32) : (wC h cy S).set 4 (h 4, .inr (8, List.set [.ref (h 35), .int (cx_ks_first S), .int (cx_ks_count S)] 1 (.int v))) = wC h cy (cx_set_ks_first S v) := rfl
theorem wCp_ks_count (h : Nat → Nat) (cy : Nat → ClassId) (S : CS) (v : Int32) : (wC h cy S).set 4 (h 4, .inr (8, List.set [.ref (h 35), .int (cx_ks_first S), .int (cx_ks_count S)] 2 (.int v))) = wC h cy (cx_set_ks_count S v) := rfl
theorem wCp_r_length (h : Nat → Nat) (cy : Nat → ClassId) (S : CS) (v : Int32) : (wC h cy S).set 5 (h 5, .inr (6, List.set [.int (cx_r_length S), .int (cx_r_lastFault S), .int (cx_r_lastPlace S), .ref (h 36), .ref (h 37), .ref (h 38), .ref (h 39), .int (cx_r_clauseCount S), .int (cx_r_codeLength S), .int (cx_r_place S), .int (cx_r_start S), .int (cx_r_token S), .int (cx_r_number S), .int (cx_r_fault S), .int (cx_r_law S), .int (cx_r_open S)] 0 (.int v))) = wC h cy (cx_set_r_length S v) := rfl
theorem wCp_r_lastFault (h : Nat → Nat) (cy : Nat → ClassId) (S : CS) (v : Int32) : (wC h cy S).set 5 (h 5, .inr (6, List.set [.int (cx_r_length S), .int (cx_r_lastFault S), .int (cx_r_lastPlace S), .ref (h 36), .ref (h 37), .ref (h 38), .ref (h 39), .int (cx_r_clauseCount S), .int (cx_r_codeLength S), .int (cx_r_place S), .int (cx_r_start S), .int (cx_r_token S), .int (cx_r_number S), .int (cx_r_fault S), .int (cx_r_law S), .int (cx_r_open S)] 1 (.int v))) = wC h cy (cx_set_r_lastFault S v) := rfl
theorem wCp_r_lastPlace (h : Nat → Nat) (cy : Nat → ClassId) (S : CS) (v : Int32) : (wC h cy S).set 5 (h 5, .inr (6, List.set [.int (cx_r_length S), .int (cx_r_lastFault S), .int (cx_r_lastPlace S), .ref (h 36), .ref (h 37), .ref (h 38), .ref (h 39), .int (cx_r_clauseCount S), .int (cx_r_codeLength S), .int (cx_r_place S), .int (cx_r_start S), .int (cx_r_token S), .int (cx_r_number S), .int (cx_r_fault S), .int (cx_r_law S), .int (cx_r_open S)] 2 (.int v))) = wC h cy (cx_set_r_lastPlace S v) := rfl
theorem wCp_r_clauseCount (h : Nat → Nat) (cy : Nat → ClassId) (S : CS) (v : Int32) : (wC h cy S).set 5 (h 5, .inr (6, List.set [.int (cx_r_length S), .int (cx_r_lastFault S), .int (cx_r_lastPlace S), .ref (h 36), .ref (h 37), .ref (h 38), .ref (h 39), .int (cx_r_clauseCount S), .int (cx_r_codeLength S), .int (cx_r_place S), .int (cx_r_start S), .int (cx_r_token S), .int (cx_r_number S), .int (cx_r_fault S), .int (cx_r_law S), .int (cx_r_open S)] 7 (.int v))) = wC h cy (cx_set_r_clauseCount S v) := rfl
theorem wCp_r_codeLength (h : Nat → Nat) (cy : Nat → ClassId) (S : CS) (v : Int32) : (wC h cy S).set 5 (h 5, .inr (6, List.set [.int (cx_r_length S), .int (cx_r_lastFault S), .int (cx_r_lastPlace S), .ref (h 36), .ref (h 37), .ref (h 38), .ref (h 39), .int (cx_r_clauseCount S), .int (cx_r_codeLength S), .int (cx_r_place S), .int (cx_r_start S), .int (cx_r_token S), .int (cx_r_number S), .int (cx_r_fault S), .int (cx_r_law S), .int (cx_r_open S)] 8 (.int v))) = wC h cy (cx_set_r_codeLength S v) := rfl
theorem wCp_r_place (h : Nat → Nat) (cy : Nat → ClassId) (S : CS) (v : Int32) : (wC h cy S).set 5 (h 5, .inr (6, List.set [.int (cx_r_length S), .int (cx_r_lastFault S), .int (cx_r_lastPlace S), .ref (h 36), .ref (h 37), .ref (h 38), .ref (h 39), .int (cx_r_clauseCount S), .int (cx_r_codeLength S), .int (cx_r_place S), .int (cx_r_start S), .int (cx_r_token S), .int (cx_r_number S), .int (cx_r_fault S), .int (cx_r_law S), .int (cx_r_open S)] 9 (.int v))) = wC h cy (cx_set_r_place S v) := rfl
theorem wCp_r_start (h : Nat → Nat) (cy : Nat → ClassId) (S : CS) (v : Int32) : (wC h cy S).set 5 (h 5, .inr (6, List.set [.int (cx_r_length S), .int (cx_r_lastFault S), .int (cx_r_lastPlace S), .ref (h 36), .ref (h 37), .ref (h 38), .ref (h 39), .int (cx_r_clauseCount S), .int (cx_r_codeLength S), .int (cx_r_place S), .int (cx_r_start S), .int (cx_r_token S), .int (cx_r_number S), .int (cx_r_fault S), .int (cx_r_law S), .int (cx_r_open S)] 10 (.int v))) = wC h cy (cx_set_r_start S v) := rfl
theorem wCp_r_token (h : Nat → Nat) (cy : Nat → ClassId) (S : CS) (v : Int32) : (wC h cy S).set 5 (h 5, .inr (6, List.set [.int (cx_r_length S), .int (cx_r_lastFault S), .int (cx_r_lastPlace S), .ref (h 36), .ref (h 37), .ref (h 38), .ref (h 39), .int (cx_r_clauseCount S), .int (cx_r_codeLength S), .int (cx_r_place S), .int (cx_r_start S), .int (cx_r_token S), .int (cx_r_number S), .int (cx_r_fault S), .int (cx_r_law S), .int (cx_r_open S)] 11 (.int v))) = wC h cy (cx_set_r_token S v) := rfl
theorem wCp_r_number (h : Nat → Nat) (cy : Nat → ClassId) (S : CS) (v : Int32) : (wC h cy S).set 5 (h 5, .inr (6, List.set [.int (cx_r_length S), .int (cx_r_lastFault S), .int (cx_r_lastPlace S), .ref (h 36), .ref (h 37), .ref (h 38), .ref (h 39), .int (cx_r_clauseCount S), .int (cx_r_codeLength S), .int (cx_r_place S), .int (cx_r_start S), .int (cx_r_token S), .int (cx_r_number S), .int (cx_r_fault S), .int (cx_r_law S), .int (cx_r_open S)] 12 (.int v))) = wC h cy (cx_set_r_number S v) := rfl
theorem wCp_r_fault (h : Nat → Nat) (cy : Nat → ClassId) (S : CS) (v : Int32) : (wC h cy S).set 5 (h 5, .inr (6, List.set [.int (cx_r_length S), .int (cx_r_lastFault S), .int (cx_r_lastPlace S), .ref (h 36), .ref (h 37), .ref (h 38), .ref (h 39), .int (cx_r_clauseCount S), .int (cx_r_codeLength S), .int (cx_r_place S), .int (cx_r_start S), .int (cx_r_token S), .int (cx_r_number S), .int (cx_r_fault S), .int (cx_r_law S), .int (cx_r_open S)] 13 (.int v))) = wC h cy (cx_set_r_fault S v) := rfl
theorem wCp_r_law (h : Nat → Nat) (cy : Nat → ClassId) (S : CS) (v : Int32) : (wC h cy S).set 5 (h 5, .inr (6, List.set [.int (cx_r_length S), .int (cx_r_lastFault S), .int (cx_r_lastPlace S), .ref (h 36), .ref (h 37), .ref (h 38), .ref (h 39), .int (cx_r_clauseCount S), .int (cx_r_codeLength S), .int (cx_r_place S), .int (cx_r_start S), .int (cx_r_token S), .int (cx_r_number S), .int (cx_r_fault S), .int (cx_r_law S), .int (cx_r_open S)] 14 (.int v))) = wC h cy (cx_set_r_law S v) := rfl
theorem wCp_r_open (h : Nat → Nat) (cy : Nat → ClassId) (S : CS) (v : Int32) : (wC h cy S).set 5 (h 5, .inr (6, List.set [.int (cx_r_length S), .int (cx_r_lastFault S), .int (cx_r_lastPlace S), .ref (h 36), .ref (h 37), .ref (h 38), .ref (h 39), .int (cx_r_clauseCount S), .int (cx_r_codeLength S), .int (cx_r_place S), .int (cx_r_start S), .int (cx_r_token S), .int (cx_r_number S), .int (cx_r_fault S), .int (cx_r_law S), .int (cx_r_open S)] 15 (.int v))) = wC h cy (cx_set_r_open S v) := rfl
theorem wCp_l_height (h : Nat → Nat) (cy : Nat → ClassId) (S : CS) (v : Int32) : (wC h cy S).set 6 (h 6, .inr (3, List.set [.ref (h 1), .ref (h 40), .ref (h 41), .int (cx_l_height S)] 3 (.int v))) = wC h cy (cx_set_l_height S v) := rfl
theorem wCp_s_count (h : Nat → Nat) (cy : Nat → ClassId) (S : CS) (v : Int32) : (wC h cy S).set 8 (h 8, .inr (7, List.set [.ref (h 43), .ref (h 44), .ref (h 45), .int (cx_s_count S), .int (cx_s_length S), .long (cx_s_path S)] 3 (.int v))) = wC h cy (cx_set_s_count S v) := rfl
theorem wCp_s_length (h : Nat → Nat) (cy : Nat → ClassId) (S : CS) (v : Int32) : (wC h cy S).set 8 (h 8, .inr (7, List.set [.ref (h 43), .ref (h 44), .ref (h 45), .int (cx_s_count S), .int (cx_s_length S), .long (cx_s_path S)] 4 (.int v))) = wC h cy (cx_set_s_length S v) := rfl
theorem wCp_s_path (h : Nat → Nat) (cy : Nat → ClassId) (S : CS) (v : Int64) : (wC h cy S).set 8 (h 8, .inr (7, List.set [.ref (h 43), .ref (h 44), .ref (h 45), .int (cx_s_count S), .int (cx_s_length S), .long (cx_s_path S)] 5 (.long v))) = wC h cy (cx_set_s_path S v) := rfl
theorem wCp_m_toGladness (h : Nat → Nat) (cy : Nat → ClassId) (S : CS) (v : Int32) : (wC h cy S).set 9 (h 9, .inr (5, List.set [.ref (h 1), .int (cx_m_toGladness S)] 1 (.int v))) = wC h cy (cx_set_m_toGladness S v) := rfl
theorem wCp_f_tired (h : Nat → Nat) (cy : Nat → ClassId) (S : CS) (v : Int32) : (wC h cy S).set 10 (h 10, .inr (1, List.set [.int (cx_f_tired S), .ref (h 1), .ref (h 6), .int (cx_f_clown S), .int (cx_f_house S), .int (cx_f_enough S)] 0 (.int v))) = wC h cy (cx_set_f_tired S v) := rfl
theorem wCp_f_clown (h : Nat → Nat) (cy : Nat → ClassId) (S : CS) (v : Int32) : (wC h cy S).set 10 (h 10, .inr (1, List.set [.int (cx_f_tired S), .ref (h 1), .ref (h 6), .int (cx_f_clown S), .int (cx_f_house S), .int (cx_f_enough S)] 3 (.int v))) = wC h cy (cx_set_f_clown S v) := rfl
theorem wCp_f_house (h : Nat → Nat) (cy : Nat → ClassId) (S : CS) (v : Int32) : (wC h cy S).set 10 (h 10, .inr (1, List.set [.int (cx_f_tired S), .ref (h 1), .ref (h 6), .int (cx_f_clown S), .int (cx_f_house S), .int (cx_f_enough S)] 4 (.int v))) = wC h cy (cx_set_f_house S v) := rfl
theorem wCp_f_enough (h : Nat → Nat) (cy : Nat → ClassId) (S : CS) (v : Int32) : (wC h cy S).set 10 (h 10, .inr (1, List.set [.int (cx_f_tired S), .ref (h 1), .ref (h 6), .int (cx_f_clown S), .int (cx_f_house S), .int (cx_f_enough S)] 5 (.int v))) = wC h cy (cx_set_f_enough S v) := rfl
theorem wCp_t_least (h : Nat → Nat) (cy : Nat → ClassId) (S : CS) (v : Int32) : (wC h cy S).set 11 (h 11, .inr (4, List.set [.int (cx_t_least S), .ref (h 46), .ref (h 1), .ref (h 47)] 0 (.int v))) = wC h cy (cx_set_t_least S v) := rfl
/-- what a contract of the class takes of the tables beside its words -/
def nxE (U : State) : Prop := va_Nw (.methodLinkNest "ClownsMourn$City" 17 ⟨"ClownsMourn$Steps", "<init>", "()V"⟩ "ClownsMourn") U ∧ va_Nw (.methodLinkNest "ClownsMourn$City" 68 ⟨"ClownsMourn", "put", "([III)V"⟩ "ClownsMourn") U ∧ va_Nw (.methodLinkNest "ClownsMourn" 21 ⟨"ClownsMourn$Reader", "<init>", "()V"⟩ "ClownsMourn") U ∧ va_Nw (.methodLinkNest "ClownsMourn" 46 ⟨"ClownsMourn$Search", "<init>", "()V"⟩ "ClownsMourn") U ∧ va_Nw (.methodLinkNest "ClownsMourn$MoodWalk" 3 ⟨"ClownsMourn$Walk", "<init>", "()V"⟩ "ClownsMourn") U ∧ va_Nw (.methodLinkNest "ClownsMourn$ComfortWalk" 1 ⟨"ClownsMourn$Walk", "<init>", "()V"⟩ "ClownsMourn") U ∧ va_Nw (.methodLinkNest "ClownsMourn$City" 86 ⟨"ClownsMourn", "at", "([II)I"⟩ "ClownsMourn") U ∧ va_Nw (.methodLinkNest "ClownsMourn$Reader" 34 ⟨"ClownsMourn", "put", "([III)V"⟩ "ClownsMourn") U ∧ va_Nw (.methodLinkNest "ClownsMourn$Reader" 100 ⟨"ClownsMourn", "at", "([II)I"⟩ "ClownsMourn") U ∧ va_Nw (.methodLinkNest "ClownsMourn$Reader" 123 ⟨"ClownsMourn", "within", "(III)Z"⟩ "ClownsMourn") U ∧ va_Nw (.methodLinkNest "ClownsMourn$Reader" 71 ⟨"ClownsMourn", "held", "(III)I"⟩ "ClownsMourn") U ∧ va_Nw (.methodLinkNest "ClownsMourn$Steps" 32 ⟨"ClownsMourn", "copyPart", "([II[III)V"⟩ "ClownsMourn") U ∧ va_Nw (.methodLinkNest "ClownsMourn$Guild" 39 ⟨"ClownsMourn", "isFall", "(I)Z"⟩ "ClownsMourn") U ∧ va_Nw (.methodLinkNest "ClownsMourn$Text" 25 ⟨"ClownsMourn", "at", "([II)I"⟩ "ClownsMourn") U ∧ va_Nw (.methodLinkNest "ClownsMourn$Laws" 44 ⟨"ClownsMourn", "at", "([II)I"⟩ "ClownsMourn") U ∧ va_Nw (.methodLinkNest "ClownsMourn$Laws" 79 ⟨"ClownsMourn", "put", "([III)V"⟩ "ClownsMourn") U ∧ va_Nw (.methodLinkNest "ClownsMourn$Laws" 66 ⟨"ClownsMourn", "held", "(III)I"⟩ "ClownsMourn") U ∧ va_Nw (.methodLinkNest "ClownsMourn$City" 117 ⟨"ClownsMourn", "copyPart", "([II[III)V"⟩ "ClownsMourn") U ∧ va_Nw (.methodLinkNest "ClownsMourn$Steps" 36 ⟨"ClownsMourn", "at", "([II)I"⟩ "ClownsMourn") U ∧ va_Nw (.methodLinkNest "ClownsMourn$Guild" 123 ⟨"ClownsMourn", "copyWhole", "([I[I)V"⟩ "ClownsMourn") U ∧ va_Nw (.methodLinkNest "ClownsMourn$Search" 70 ⟨"ClownsMourn", "at", "([II)I"⟩ "ClownsMourn") U ∧ va_Nw (.methodLinkNest "ClownsMourn$Search" 74 ⟨"ClownsMourn", "put", "([III)V"⟩ "ClownsMourn") U ∧ va_Nw (.methodLinkNest "ClownsMourn$Search" 61 ⟨"ClownsMourn", "held", "(III)I"⟩ "ClownsMourn") U ∧ va_Nw (.methodLinkNest "ClownsMourn$Match" 45 ⟨"ClownsMourn", "copyWhole", "([I[I)V"⟩ "ClownsMourn") U ∧ va_Nw (.methodLinkNest "ClownsMourn$Match" 49 ⟨"ClownsMourn", "put", "([III)V"⟩ "ClownsMourn") U ∧ va_Nw (.methodLinkNest "ClownsMourn$Match" 56 ⟨"ClownsMourn", "at", "([II)I"⟩ "ClownsMourn") U ∧ va_Nw (.methodLinkNest "ClownsMourn$City" 78 ⟨"ClownsMourn", "copyWhole", "([I[I)V"⟩ "ClownsMourn") U ∧ va_Nw (.methodLinkNest "ClownsMourn$Steps" 22 ⟨"ClownsMourn", "copyWhole", "([I[I)V"⟩ "ClownsMourn") U ∧ va_Nw (.fieldLinkNest "ClownsMourn$Laws" 99 "ClownsMourn$Text" "code" "[I" "ClownsMourn") U ∧ va_Nw (.declares ⟨"ClownsMourn$Walk", "arrived", "(I)Z"⟩) U ∧ va_Nw (.declares ⟨"ClownsMourn$Walk", "changes", "()Z"⟩) U ∧ va_Nw (.declares ⟨"ClownsMourn$Walk", "moved", "(III)I"⟩) U ∧ va_Nw (.castable "[I" "java/lang/Cloneable") U
def wzWords : String := "day kind grief mood laughed house skill age tired fall who there eases laughs grows clown send rest by to hold from moods if then else end or and not "
def wzBytes : List Int32 := [100, 97, 121, 32, 107, 105, 110, 100, 32, 103, 114, 105, 101, 102, 32, 109, 111, 111, 100, 32, 108, 97, 117, 103, 104, 101, 100, 32, 104, 111, 117, 115, 101, 32, 115, 107, 105, 108, 108, 32, 97, 103, 101, 32, 116, 105, 114, 101, 100, 32, 102, 97, 108, 108, 32, 119, 104, 111, 32, 116, 104, 101, 114, 101, 32, 101, 97, 115, 101, 115, 32, 108, 97, 117, 103, 104, 115, 32, 103, 114, 111, 119, 115, 32, 99, 108, 111, 119, 110, 32, 115, 101, 110, 100, 32, 114, 101, 115, 116, 32, 98, 121, 32, 116, 111, 32, 104, 111, 108, 100, 32, 102, 114, 111, 109, 32, 109, 111, 111, 100, 115, 32, 105, 102, 32, 116, 104, 101, 110, 32, 101, 108, 115, 101, 32, 101, 110, 100, 32, 111, 114, 32, 97, 110, 100, 32, 110, 111, 116, 32]
/-- the words' own String: where it is, what it holds; two statics of the library -/
def strE (A : Nat → Prop) (U : State) : Prop := ∃ (q v : Nat), vk_R "ClownsMourn$Reader" 177 wzWords q U ∧ va_O "java/lang/String" q A U U.heap ∧ va_OF "java/lang/String" "coder" "B" (.int 0) q A U U.heap ∧ va_OF "java/lang/String" "value" "[B" (.ref v) q A U U.heap ∧ va_T .byte v 150 (fun j => .int (wzBytes.getD j 0)) A U U.heap ∧ va_Z "java/lang/String" "COMPACT_STRINGS" "Z" (.int 1) A U U.heap ∧ va_Zq "jdk/internal/util/Preconditions" "SIOOBE_FORMATTER" "Ljava/util/function/BiFunction;" A U U.heap
def clE (A : Nat → Prop) (U : State) : Prop := nxE U ∧ strE A U
theorem clE_stable : k_stable clE := ⟨fun A A1 s U locs hS hA hW h => by
  obtain ⟨⟨e0, e1, e2, e3, e4, e5, e6, e7, e8, e9, e10, e11, e12, e13, e14, e15, e16, e17, e18, e19, e20, e21, e22, e23, e24, e25, e26, e27, e28, e29, e30, e31, e32⟩, q, v, h1, h2, h3, h4, h5, h6, h7⟩ := h
  have hk : ∀ a : Nat, a < s.heap.size → ¬ A a → U.heap[a]? = s.heap[a]? := hS.2.1
  exact ⟨⟨va_Nw.warmM hW e0, va_Nw.warmM hW e1, va_Nw.warmM hW e2, va_Nw.warmM hW e3, va_Nw.warmM hW e4, va_Nw.warmM hW e5, va_Nw.warmM hW e6, va_Nw.warmM hW e7, va_Nw.warmM hW e8, va_Nw.warmM hW e9, va_Nw.warmM hW e10, va_Nw.warmM hW e11, va_Nw.warmM hW e12, va_Nw.warmM hW e13, va_Nw.warmM hW e14, va_Nw.warmM hW e15, va_Nw.warmM hW e16, va_Nw.warmM hW e17, va_Nw.warmM hW e18, va_Nw.warmM hW e19, va_Nw.warmM hW e20, va_Nw.warmM hW e21, va_Nw.warmM hW e22, va_Nw.warmM hW e23, va_Nw.warmM hW e24, va_Nw.warmM hW e25, va_Nw.warmM hW e26, va_Nw.warmM hW e27, va_Nw.warmF hW e28, va_Nw.warmD hW e29, va_Nw.warmD hW e30, va_Nw.warmD hW e31, va_Nw.warmC hW e32⟩, q, v, vk_R.warm hW h1, ((h2.kept hk).moved hW.alike).narrow hA, ((h3.kept hk).moved hW.alike).narrow hA, ((h4.kept hk).moved hW.alike).narrow hA, ((h5.kept hk).moved hW.alike).narrow hA, ((h6.kept hk).moved hW.alike).narrow hA, ((h7.kept hk).moved hW.alike).narrow hA⟩, fun A U g mk a h => by
  obtain ⟨⟨e0, e1, e2, e3, e4, e5, e6, e7, e8, e9, e10, e11, e12, e13, e14, e15, e16, e17, e18, e19, e20, e21, e22, e23, e24, e25, e26, e27, e28, e29, e30, e31, e32⟩, q, v, h1, h2, h3, h4, h5, h6, h7⟩ := h
  exact ⟨⟨va_Nw.same rfl rfl e0, va_Nw.same rfl rfl e1, va_Nw.same rfl rfl e2, va_Nw.same rfl rfl e3, va_Nw.same rfl rfl e4, va_Nw.same rfl rfl e5, va_Nw.same rfl rfl e6, va_Nw.same rfl rfl e7, va_Nw.same rfl rfl e8, va_Nw.same rfl rfl e9, va_Nw.same rfl rfl e10, va_Nw.same rfl rfl e11, va_Nw.same rfl rfl e12, va_Nw.same rfl rfl e13, va_Nw.same rfl rfl e14, va_Nw.same rfl rfl e15, va_Nw.same rfl rfl e16, va_Nw.same rfl rfl e17, va_Nw.same rfl rfl e18, va_Nw.same rfl rfl e19, va_Nw.same rfl rfl e20, va_Nw.same rfl rfl e21, va_Nw.same rfl rfl e22, va_Nw.same rfl rfl e23, va_Nw.same rfl rfl e24, va_Nw.same rfl rfl e25, va_Nw.same rfl rfl e26, va_Nw.same rfl rfl e27, va_Nw.same rfl rfl e28, va_Nw.same rfl rfl e29, va_Nw.same rfl rfl e30, va_Nw.same rfl rfl e31, va_Nw.same rfl rfl e32⟩, q, v, vk_R.same rfl h1, h2.moved (Vm.Alike.refl U.vm), h3.moved (Vm.Alike.refl U.vm), h4.moved (Vm.Alike.refl U.vm), h5.moved (Vm.Alike.refl U.vm), h6.moved (Vm.Alike.refl U.vm), h7.moved (Vm.Alike.refl U.vm)⟩⟩
