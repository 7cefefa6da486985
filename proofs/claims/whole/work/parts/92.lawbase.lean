/-! THE LAW: two worlds apart (the class's, the reference's), calls that have one of them -/
def Apt (X Y : va_W) : Prop := ∀ (i j : Nat) (p q : Nat × va_E), X[i]? = some p → Y[j]? = some q → p.1 ≠ q.1
theorem Apt.sym {X Y : va_W} (h : Apt X Y) : Apt Y X := fun i j p q hp hq e => h j i q p hq hp e.symm
theorem apt_kept {D : va_G} {cl : List vw_C} {X X1 Y : va_W} {H H1 : Heap} (hY : va_P D cl Y H) (hX : Apt X Y) (hk : ∀ q : Nat, q < H.size → ¬ va_A X H.size q → H1[q]? = H[q]?) (hD1 : va_D (va_A X H.size) X1) : va_P D cl Y H1 ∧ Apt X1 Y := by
  have out : ∀ (j : Nat) (q : Nat × va_E), Y[j]? = some q → q.1 < H.size ∧ ¬ va_A X H.size q.1 := by
    intro j q hq
    have hl := (hY j q hq).lt
    refine ⟨hl, ?_⟩
    rintro (⟨k, e, h⟩ | h)
    · exact hX k j _ q h hq rfl
    · omega
  refine ⟨fun k q hq => (hY k q hq).kept (hk _ (out k q hq).1 (out k q hq).2), ?_⟩
  intro i j p q hp hq e
  have h1 := hD1.2 i p hp
  rw [e] at h1
  exact (out j q hq).2 h1
section LCALL
variable {p : Program} {l : Launch} {e : Env} {R : Room} {s : State} {m : MethodId} {args : Array Value} {below : List Frame} {meth : Method} {c : Code} {H : Heap} {locs : List Loc} {cells slots mc ms : Nat} {Q : State → Prop}
variable {σ : Type} {E : (Nat → Prop) → State → Prop} {D : va_G} {tys : List (ClassId × FieldType)} {wf : σ → va_W} {S : σ} {y : MethodName} {ws Ts : List Cond} {rm : Room} {own C : String} {index maxL n nL pc : Nat} {bytes cc : ByteArray} {ret : Option FieldType} {b : Addr} {As rest st : List Value} {ls : Array Slot} {A : Nat → Prop} {Y : va_W}
/-- a call on the class's side -/
theorem lc_Vi {post : Int32 → σ → Prop} (hE : k_stable E) (hs : E A s) (CF : CallFix p m c cc nL s args Ts own) (hM : e_MiA E l y ws rm D tys wf (.ref b :: As) S post mc ms) (cw : CallW R s args own C index y bytes maxL ret ws rm mc ms n) (hrec : ∃ cell : Cell, H[b]? = some cell ∧ cell.vm.isStatics = false ∧ s.vm.findClass C = some cell.cls) (hK : va_K D vwCl tys s) (hP : va_P D vwCl (wf S) H) (hD : va_D A (wf S)) (hS : va_S A s.heap H locs) (hA : ∀ q, s.heap.size ≤ q → A q) (hY : va_P D vwCl Y H) (hXY : Apt (wf S) Y) (hn : As.length = n) (hsize : ls.size = nL) (hst : st = As.reverse ++ .ref b :: rest) (hW : (rest.map fun v => v.category).sum ≤ 8) (hdg : decode cc pc = .ok (.invokevirtual index, 3)) (hf : cells + mc ≤ R.cells ∧ slots + ms ≤ R.slots)
    (kk : ∀ (r : Int32) (S' : σ) (H1 : Heap) (locs1 : List Loc), post r S' → va_P D vwCl (wf S') H1 → va_D A (wf S') → va_S A s.heap H1 locs1 → va_P D vwCl Y H1 → Apt (wf S') Y → W p l e R s m args below meth c H1 locs1 (cells + mc) (slots + ms) Q (F0 m (pc + 3) ls (.int r :: rest))) : W p l e R s m args below meth c H locs cells slots Q (F0 m pc ls st) := by
  have hFc := k_free hD hS hA
  refine va_calli (va_runV (As := As) (rest := rest) CF (hM H.size) cw ⟨e_blind hE, hrec, e_here hE hs hK hP hD hS hA⟩ rfl hn hsize hst (lv_room hW) hdg hf) hS (fun q _ h => hFc q h) hFc (fun r u t H1 locs1 ht hvm hw hB hz1 hk1 hS1 => ?_)
  obtain ⟨hP1, hK1, hD1⟩ := hB
  rw [ht] at hP1
  obtain ⟨hY1, hX1⟩ := apt_kept hY hXY hk1 hD1
  exact kk r u H1 locs1 hw hP1 (hD1.weaken (fun k q _ h => hFc q.1 h)) hS1 hY1 hX1
/-- a call on the reference's side -/
theorem lm_Vi {post : Int32 → σ → Prop} (CF : CallFix p m c cc nL s args Ts own) (hM : k_Mi l y ws rm D tys wf (.ref b :: As) S post) (cw : CallW R s args own C index y bytes maxL ret ws rm 0 0 n) (hrec : ∃ cell : Cell, H[b]? = some cell ∧ cell.vm.isStatics = false ∧ s.vm.findClass C = some cell.cls) (hK : va_K D vwCl tys s) (hP : va_P D vwCl (wf S) H) (hD : va_D A (wf S)) (hS : va_S A s.heap H locs) (hA : ∀ q, s.heap.size ≤ q → A q) (hY : va_P D vwCl Y H) (hXY : Apt (wf S) Y) (hn : As.length = n) (hsize : ls.size = nL) (hst : st = As.reverse ++ .ref b :: rest) (hW : (rest.map fun v => v.category).sum ≤ 8) (hdg : decode cc pc = .ok (.invokevirtual index, 3)) (hf : cells ≤ R.cells ∧ slots ≤ R.slots)
    (kk : ∀ (r : Int32) (S' : σ) (H1 : Heap) (locs1 : List Loc), post r S' → va_P D vwCl (wf S') H1 → va_D A (wf S') → va_S A s.heap H1 locs1 → va_P D vwCl Y H1 → Apt (wf S') Y → W p l e R s m args below meth c H1 locs1 cells slots Q (F0 m (pc + 3) ls (.int r :: rest))) : W p l e R s m args below meth c H locs cells slots Q (F0 m pc ls st) := by
  have hFc := k_free hD hS hA
  refine va_calli (va_runV (As := As) (rest := rest) CF (hM H.size) cw ⟨k_blind, hrec, k_here hK hP hD⟩ rfl hn hsize hst (lv_room hW) hdg hf) hS (fun q _ h => hFc q h) hFc (fun r u t H1 locs1 ht hvm hw hB hz1 hk1 hS1 => ?_)
  obtain ⟨hP1, hK1, hD1⟩ := hB
  rw [ht] at hP1
  obtain ⟨hY1, hX1⟩ := apt_kept hY hXY hk1 hD1
  exact kk r u H1 locs1 hw hP1 (hD1.weaken (fun k q _ h => hFc q.1 h)) hS1 hY1 hX1
/-- an int of the script on the stack -/
theorem la_arg {cc : ByteArray} (hx : p.tables.exec = Jvm.exec) (hb : c.code = cc) {b L : Nat} {xs : Nat → Int32} (hX : va_X b L xs s s.heap) (hbl : b < s.heap.size) (hbA : ¬ A b) (hS : va_S A s.heap H locs) {i k : Nat} {kI : Int} (hi : i + k < L) (hL : L ≤ 3072) (hl0 : ls[0]? = some (.val (.ref b))) (hl3 : ls[3]? = some (.val (.int (nI i)))) (hk : Int32.ofInt kI = nI k)
    (d0 : decode cc pc = .ok (.aload_n 0, 1)) (d1 : decode cc (pc + 1) = .ok (.iload_n 3, 1)) (d2 : decode cc (pc + 1 + 1) = .ok (.iconst kI, 1)) (d3 : decode cc (pc + 1 + 1 + 1) = .ok (.iadd, 1)) (d4 : decode cc (pc + 1 + 1 + 1 + 1) = .ok (.iaload, 1))
    (kk : W p l e R s m args below meth c H locs cells slots Q (F0 m (pc + 1 + 1 + 1 + 1 + 1) ls (.int (xs (i + k)) :: rest))) : W p l e R s m args below meth c H locs cells slots Q (F0 m pc ls rest) := by
  refine lv_aload_n hx hb d0 rfl hl0 (lv_iload_n hx hb d1 rfl hl3 (lv_iconst (v := nI k) hx hb d2 hk (lv_iadd hx hb d3 ?_)))
  rw [nI_add]
  refine va_sld hx hb hX hbl hbA hS (vp_in_nI hi (by omega)) d4 ?_
  rw [nI_clamp (by omega)]
  exact kk
end LCALL
/-- class and reference in step at a call -/
def Sim2 (Wc : (Int32 → CS → Prop) → Prop) (Wr : (Int32 → MS → Prop) → Prop) : Prop := ∃ (r : Int32) (ms' : MS), Wr (fun r2 m2 => r2 = r ∧ m2 = ms') ∧ Wc (fun r1 c1 => r1 = r ∧ Rel c1 ms')
theorem Sim2.of {Wc : (Int32 → CS → Prop) → Prop} {Wr : (Int32 → MS → Prop) → Prop} {r : Int32} {cs' : CS} {ms' : MS} (h1 : rt Wc r cs') (h2 : rt Wr r ms') (R : Rel cs' ms') : Sim2 Wc Wr := ⟨r, ms', h2 _ ⟨rfl, rfl⟩, h1 _ ⟨rfl, R⟩⟩
