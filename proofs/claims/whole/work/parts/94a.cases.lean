/-! one case of the law: the class's call, the reference's call, equal answers, on to the next -/
/-- what the law's body stands on -/
def LF (p : Program) (m : MethodId) (c : Code) (s : State) (b L : Nat) (xs : Nat → Int32) (D : va_G) (cy gy : Nat → ClassId) (A : Nat → Prop) : Prop := p.tables.exec = Jvm.exec ∧ c.code = cL_law ∧ c.maxLocals = 4 ∧ s.vm.findClass RL = some m.cls ∧ (∀ w ∈ wsL_law, w.before #[Value.ref b] s = true) ∧ va_X b L xs s s.heap ∧ b < s.heap.size ∧ ¬ A b ∧ (∀ q : Nat, s.heap.size ≤ q → A q) ∧ va_K D vwCl (tyC cy) s ∧ va_K D vwCl (tyM gy) s ∧ clE A s ∧ L ≤ 3072
/-- what holds between two calls: both worlds, apart, in step -/
def LI (s : State) (A : Nat → Prop) (D : va_G) (h : Nat → Nat) (cy : Nat → ClassId) (g : Nat → Nat) (gy : Nat → ClassId) (cs : CS) (ms : MS) (H : Heap) (locs : List Loc) : Prop := va_P D vwCl (wC h cy cs) H ∧ va_D A (wC h cy cs) ∧ va_P D vwCl (wM g gy ms) H ∧ va_D A (wM g gy ms) ∧ Apt (wC h cy cs) (wM g gy ms) ∧ va_S A s.heap H locs ∧ Rel cs ms
abbrev LL (b : Nat) (h g : Nat → Nat) (i : Nat) : List (Nat × Value) := [(3, .int (nI i)), (2, .ref (g 31)), (1, .ref (h 0)), (0, .ref b)]
theorem la_bool {p : Program} {l : Launch} {e : Env} {R : Room} {s : State} {m : MethodId} {args : Array Value} {below : List Frame} {meth : Method} {c : Code} {H : Heap} {locs : List Loc} {cells slots : Nat} {Q : State → Prop} {ls : Array Slot} {rest : List Value} {cc : ByteArray} {pc t0 t1 : Nat} {v : Int32} {o0 o1 : Int} (hx : p.tables.exec = Jvm.exec) (hb : c.code = cc) (d0 : decode cc pc = .ok (.ifCond .eq o0, 3)) (e0 : (pc : Int) + o0 = (t0 : Int)) (d1 : decode cc (pc + 3) = .ok (.iconst 1, 1)) (d2 : decode cc (pc + 3 + 1) = .ok (.goto o1, 3)) (e1 : ((pc + 3 + 1 : Nat) : Int) + o1 = (t1 : Int)) (d3 : decode cc t0 = .ok (.iconst 0, 1)) (e2 : t0 + 1 = t1) (kk : W p l e R s m args below meth c H locs cells slots Q (F0 m t1 ls (.int (if v = 0 then 0 else 1) :: rest))) : W p l e R s m args below meth c H locs cells slots Q (F0 m pc ls (.int v :: rest)) := by
  refine lv_if_eq (tgt := t0) hx hb d0 e0 (fun hv => ?_) (fun hv => ?_)
  · refine lv_iconst (v := 0) hx hb d3 (by decide) ?_
    rw [e2]
    rw [if_pos hv] at kk
    exact kk
  · refine lv_iconst (v := 1) hx hb d1 (by decide) (lv_goto (tgt := t1) hx hb d2 e1 ?_)
    rw [if_neg hv] at kk
    exact kk
section LCASE
variable {p : Program} {l : Launch} {e : Env} {s : State} {m : MethodId} {below : List Frame} {meth : Method} {c : Code} {H : Heap} {locs : List Loc} {cells slots : Nat} {Q : State → Prop} {D : va_G} {h g : Nat → Nat} {cy gy : Nat → ClassId} {cs : CS} {ms : MS} {ls : Array Slot} {A : Nat → Prop} {b L i : Nat} {xs : Nat → Int32}
theorem lcase_0 (F : LF p m c s b L xs D cy gy A) (I : LI s A D h cy g gy cs ms H locs) (hl : lv_has ls 4 (LL b h g i)) (hi : i + 6 ≤ L) (hr : cells + 4 ≤ 600000 ∧ slots + 406 ≤ 7302250) (kk : ∀ (cs1 : CS) (ms1 : MS) (H1 : Heap) (locs1 : List Loc), LI s A D h cy g gy cs1 ms1 H1 locs1 → W p l e room_1 s m #[Value.ref b] below meth c H1 locs1 (cells + 4) (slots + 406) Q (F0 m 1616 ls [])) : W p l e room_1 s m #[Value.ref b] below meth c H locs cells slots Q (F0 m 240 ls []) := by
  obtain ⟨hx, hb, hml, hown, hts, hX, hbl, hbA, hA, hKC, hKM, hs, hL⟩ := F
  obtain ⟨hPC, hDC, hPM, hDM, hAp, hS, R⟩ := I
  obtain ⟨hr1, hr2⟩ := hr
  obtain ⟨r, ms1, hwr, hwc⟩ := s2_house R (xs (i + 1)) (xs (i + 2))
  refine lv_aload_n hx hb dL_law_240 rfl (lv_at hl 2 rfl) ?_
  refine la_arg (k := 1) hx hb hX hbl hbA hS (by omega) hL (lv_at hl 3 rfl) (lv_at hl 0 rfl) (by decide) dL_law_241 dL_law_242 dL_law_243 dL_law_244 dL_law_245 ?_
  refine la_arg (k := 2) hx hb hX hbl hbA hS (by omega) hL (lv_at hl 3 rfl) (lv_at hl 0 rfl) (by decide) dL_law_246 dL_law_247 dL_law_248 dL_law_249 dL_law_250 ?_
  refine lc_Vi (b := h 0) (As := [.int (xs (i + 1)), .int (xs (i + 2))]) (rest := []) (mc := 0) (ms := 0) (Y := wM g gy ms) clE_stable hs ⟨hx, hb, hml, hown, hts⟩ (cC_X11_house l D h cy _ _ _ _ hwc) (cwV 2 hts gL_law_X11_house rfl rfl rfl (by decide +kernel) ⟨Nat.le_of_ble_eq_true rfl, Nat.le_of_ble_eq_true rfl⟩) (va_recv hKC hPC (ci := 10) (q0 := 0) rfl rfl) hKC hPC hDC hS hA hPM hAp rfl hl.1 rfl (Nat.le_of_ble_eq_true rfl) dL_law_251 ⟨show cells + 0 ≤ 600000 by omega, show slots + 0 ≤ 7302250 by omega⟩ (fun r1 cs1 H locs hw hPC hDC hS hPM hAp => ?_)
  obtain ⟨e1, R1⟩ := hw
  refine lv_aload_n hx hb dL_law_254 rfl (lv_at hl 1 rfl) ?_
  refine la_arg (k := 1) hx hb hX hbl hbA hS (by omega) hL (lv_at hl 3 rfl) (lv_at hl 0 rfl) (by decide) dL_law_255 dL_law_256 dL_law_257 dL_law_258 dL_law_259 ?_
  refine la_arg (k := 2) hx hb hX hbl hbA hS (by omega) hL (lv_at hl 3 rfl) (lv_at hl 0 rfl) (by decide) dL_law_260 dL_law_261 dL_law_262 dL_law_263 dL_law_264 ?_
  refine lm_Vi (b := g 31) (As := [.int (xs (i + 1)), .int (xs (i + 2))]) (rest := [.int r1]) (Y := wC h cy cs1) ⟨hx, hb, hml, hown, hts⟩ (cM_house l D g gy _ _ _ _ hwr) (cwV 2 hts gL_law_X12_house rfl rfl rfl (by decide +kernel) ⟨Nat.le_of_ble_eq_true rfl, Nat.le_of_ble_eq_true rfl⟩) (va_recv hKM hPM (ci := 11) (q0 := 0) rfl rfl) hKM hPM hDM hS hA hPC hAp.sym rfl hl.1 rfl (Nat.le_of_ble_eq_true rfl) dL_law_265 ⟨show cells + 0 ≤ 600000 by omega, show slots + 0 ≤ 7302250 by omega⟩ (fun r2 ms2 H locs hw hPM hDM hS hPC hAp => ?_)
  obtain ⟨e2, e3⟩ := hw
  refine lv_icmp_eq (tgt := 1616) hx hb dL_law_268 (by decide) (fun _ => ?_) (fun hne => absurd (e1.trans e2.symm) hne)
  refine W.widen (k := cells + 4) (n := slots + 406) (by omega) (by omega) ?_
  exact kk cs1 ms2 H locs ⟨hPC, hDC, hPM, hDM, hAp.sym, hS, by rw [e3]; exact R1⟩
end LCASE
