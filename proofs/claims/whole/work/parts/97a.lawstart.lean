/-! what holds at the law's entry: the classes, the links, the constant String -/
theorem vK_start {s : State} (h : ∀ (c : Nat) (q : vw_C), vwCl[c]? = some q → ∃ (cC : ClassId) (iS : Nat → Nat), u_Kn s q.1 q.2.1 q.2.2 cC iS) : ∃ D : va_G, va_K D vwCl [] s := by
  obtain ⟨c0, i0, -⟩ := h 0 _ rfl
  have h1 : ∀ c : Nat, ∃ z : ClassId × (Nat → Nat), ∀ q : vw_C, vwCl[c]? = some q → u_Kn s q.1 q.2.1 q.2.2 z.1 z.2 := by
    intro c
    cases e : vwCl[c]? with
    | none => exact ⟨(c0, i0), fun q hq => by cases hq⟩
    | some q =>
      obtain ⟨cC, iS, hk⟩ := h c q e
      exact ⟨(cC, iS), fun q' hq => by cases hq; exact hk⟩
  obtain ⟨z, hz⟩ := Classical.axiomOfChoice h1
  exact ⟨(fun c => (z c).1, fun c => (z c).2), fun c q hq => hz c q hq, fun k q hk => by cases (show (none : Option (ClassId × FieldType)) = some q from hk)⟩
set_option maxRecDepth 20000 in
theorem vK_all {s : State} {args : Array Value} (hts : ∀ w ∈ lw_tbl, w.before args s = true) : ∃ D : va_G, va_K D vwCl [] s := by
  refine vK_start (fun c q hq => ?_)
  match c, hq with
  | 0, hq =>
    cases (show some (RX0, TX0, 16) = some q from hq)
    exact u_known (C := RX0) (T := TX0) (N := 16) hts inL_wsX00 (hts (.instantiable RX0 16) (List.mem_of_getElem? (i := 146) rfl))
  | 1, hq =>
    cases (show some (RX1, TX1, 6) = some q from hq)
    exact u_known (C := RX1) (T := TX1) (N := 6) hts inL_wsX10 (hts (.instantiable RX1 6) (List.mem_of_getElem? (i := 385) rfl))
  | 2, hq =>
    cases (show some (RX2, TX2, 3) = some q from hq)
    exact u_known (C := RX2) (T := TX2) (N := 3) hts inL_wsX20 (hts (.instantiable RX2 3) (List.mem_of_getElem? (i := 327) rfl))
  | 3, hq =>
    cases (show some (RX3, TX3, 4) = some q from hq)
    exact u_known (C := RX3) (T := TX3) (N := 4) hts inL_wsX30 (hts (.instantiable RX3 4) (List.mem_of_getElem? (i := 308) rfl))
  | 4, hq =>
    cases (show some (RX4, TX4, 4) = some q from hq)
    exact u_known (C := RX4) (T := TX4) (N := 4) hts inL_wsX40 (hts (.instantiable RX4 4) (List.mem_of_getElem? (i := 411) rfl))
  | 5, hq =>
    cases (show some (RX5, TX5, 2) = some q from hq)
    exact u_known (C := RX5) (T := TX5) (N := 2) hts inL_wsX50 (hts (.instantiable RX5 2) (List.mem_of_getElem? (i := 369) rfl))
  | 6, hq =>
    cases (show some (RX6, TX6, 16) = some q from hq)
    exact u_known (C := RX6) (T := TX6) (N := 16) hts inL_wsX60 (hts (.instantiable RX6 16) (List.mem_of_getElem? (i := 250) rfl))
  | 7, hq =>
    cases (show some (RX7, TX7, 6) = some q from hq)
    exact u_known (C := RX7) (T := TX7) (N := 6) hts inL_wsX70 (hts (.instantiable RX7 6) (List.mem_of_getElem? (i := 343) rfl))
  | 8, hq =>
    cases (show some (RX8, TX8, 3) = some q from hq)
    exact u_known (C := RX8) (T := TX8) (N := 3) hts inL_wsX80 (hts (.instantiable RX8 3) (List.mem_of_getElem? (i := 152) rfl))
  | 9, hq =>
    cases (show some (RX9, TX9, 4) = some q from hq)
    exact u_known (C := RX9) (T := TX9) (N := 4) hts inL_wsX90 (hts (.instantiable RX9 4) (List.mem_of_getElem? (i := 678) rfl))
  | 10, hq =>
    cases (show some (RX11, TX11, 9) = some q from hq)
    exact u_known (C := RX11) (T := TX11) (N := 9) hts inL_wsX110 (hts (.instantiable RX11 9) (List.mem_of_getElem? (i := 138) rfl))
  | 11, hq =>
    cases (show some (RX12, TX12, 31) = some q from hq)
    exact u_known (C := RX12) (T := TX12) (N := 31) hts inL_wsX120 (hts (.instantiable RX12 31) (List.mem_of_getElem? (i := 1292) rfl))
  | c + 12, hq => cases (show (none : Option vw_C) = some q from hq)
set_option maxRecDepth 20000 in
theorem nx_start {s : State} {args : Array Value} (hts : ∀ w ∈ lw_tbl, w.before args s = true) : nxE s :=
  ⟨va_Nw.of rfl (hts (.methodLinkNest "ClownsMourn$City" 17 ⟨"ClownsMourn$Steps", "<init>", "()V"⟩ "ClownsMourn") (List.mem_of_getElem? (i := 153) rfl)), va_Nw.of rfl (hts (.methodLinkNest "ClownsMourn$City" 68 ⟨"ClownsMourn", "put", "([III)V"⟩ "ClownsMourn") (List.mem_of_getElem? (i := 171) rfl)), va_Nw.of rfl (hts (.methodLinkNest "ClownsMourn" 21 ⟨"ClownsMourn$Reader", "<init>", "()V"⟩ "ClownsMourn") (List.mem_of_getElem? (i := 251) rfl)), va_Nw.of rfl (hts (.methodLinkNest "ClownsMourn" 46 ⟨"ClownsMourn$Search", "<init>", "()V"⟩ "ClownsMourn") (List.mem_of_getElem? (i := 344) rfl)), va_Nw.of rfl (hts (.methodLinkNest "ClownsMourn$MoodWalk" 3 ⟨"ClownsMourn$Walk", "<init>", "()V"⟩ "ClownsMourn") (List.mem_of_getElem? (i := 373) rfl)), va_Nw.of rfl (hts (.methodLinkNest "ClownsMourn$ComfortWalk" 1 ⟨"ClownsMourn$Walk", "<init>", "()V"⟩ "ClownsMourn") (List.mem_of_getElem? (i := 389) rfl)), va_Nw.of rfl (hts (.methodLinkNest "ClownsMourn$City" 86 ⟨"ClownsMourn", "at", "([II)I"⟩ "ClownsMourn") (List.mem_of_getElem? (i := 470) rfl)), va_Nw.of rfl (hts (.methodLinkNest "ClownsMourn$Reader" 34 ⟨"ClownsMourn", "put", "([III)V"⟩ "ClownsMourn") (List.mem_of_getElem? (i := 508) rfl)), va_Nw.of rfl (hts (.methodLinkNest "ClownsMourn$Reader" 100 ⟨"ClownsMourn", "at", "([II)I"⟩ "ClownsMourn") (List.mem_of_getElem? (i := 526) rfl)), va_Nw.of rfl (hts (.methodLinkNest "ClownsMourn$Reader" 123 ⟨"ClownsMourn", "within", "(III)Z"⟩ "ClownsMourn") (List.mem_of_getElem? (i := 673) rfl)), va_Nw.of rfl (hts (.methodLinkNest "ClownsMourn$Reader" 71 ⟨"ClownsMourn", "held", "(III)I"⟩ "ClownsMourn") (List.mem_of_getElem? (i := 674) rfl)), va_Nw.of rfl (hts (.methodLinkNest "ClownsMourn$Steps" 32 ⟨"ClownsMourn", "copyPart", "([II[III)V"⟩ "ClownsMourn") (List.mem_of_getElem? (i := 755) rfl)), va_Nw.of rfl (hts (.methodLinkNest "ClownsMourn$Guild" 39 ⟨"ClownsMourn", "isFall", "(I)Z"⟩ "ClownsMourn") (List.mem_of_getElem? (i := 772) rfl)), va_Nw.of rfl (hts (.methodLinkNest "ClownsMourn$Text" 25 ⟨"ClownsMourn", "at", "([II)I"⟩ "ClownsMourn") (List.mem_of_getElem? (i := 799) rfl)), va_Nw.of rfl (hts (.methodLinkNest "ClownsMourn$Laws" 44 ⟨"ClownsMourn", "at", "([II)I"⟩ "ClownsMourn") (List.mem_of_getElem? (i := 804) rfl)), va_Nw.of rfl (hts (.methodLinkNest "ClownsMourn$Laws" 79 ⟨"ClownsMourn", "put", "([III)V"⟩ "ClownsMourn") (List.mem_of_getElem? (i := 814) rfl)), va_Nw.of rfl (hts (.methodLinkNest "ClownsMourn$Laws" 66 ⟨"ClownsMourn", "held", "(III)I"⟩ "ClownsMourn") (List.mem_of_getElem? (i := 837) rfl)), va_Nw.of rfl (hts (.methodLinkNest "ClownsMourn$City" 117 ⟨"ClownsMourn", "copyPart", "([II[III)V"⟩ "ClownsMourn") (List.mem_of_getElem? (i := 875) rfl)), va_Nw.of rfl (hts (.methodLinkNest "ClownsMourn$Steps" 36 ⟨"ClownsMourn", "at", "([II)I"⟩ "ClownsMourn") (List.mem_of_getElem? (i := 972) rfl)), va_Nw.of rfl (hts (.methodLinkNest "ClownsMourn$Guild" 123 ⟨"ClownsMourn", "copyWhole", "([I[I)V"⟩ "ClownsMourn") (List.mem_of_getElem? (i := 1020) rfl)), va_Nw.of rfl (hts (.methodLinkNest "ClownsMourn$Search" 70 ⟨"ClownsMourn", "at", "([II)I"⟩ "ClownsMourn") (List.mem_of_getElem? (i := 1102) rfl)), va_Nw.of rfl (hts (.methodLinkNest "ClownsMourn$Search" 74 ⟨"ClownsMourn", "put", "([III)V"⟩ "ClownsMourn") (List.mem_of_getElem? (i := 1103) rfl)), va_Nw.of rfl (hts (.methodLinkNest "ClownsMourn$Search" 61 ⟨"ClownsMourn", "held", "(III)I"⟩ "ClownsMourn") (List.mem_of_getElem? (i := 1104) rfl)), va_Nw.of rfl (hts (.methodLinkNest "ClownsMourn$Match" 45 ⟨"ClownsMourn", "copyWhole", "([I[I)V"⟩ "ClownsMourn") (List.mem_of_getElem? (i := 1155) rfl)), va_Nw.of rfl (hts (.methodLinkNest "ClownsMourn$Match" 49 ⟨"ClownsMourn", "put", "([III)V"⟩ "ClownsMourn") (List.mem_of_getElem? (i := 1156) rfl)), va_Nw.of rfl (hts (.methodLinkNest "ClownsMourn$Match" 56 ⟨"ClownsMourn", "at", "([II)I"⟩ "ClownsMourn") (List.mem_of_getElem? (i := 1157) rfl)), va_Nw.of rfl (hts (.methodLinkNest "ClownsMourn$City" 78 ⟨"ClownsMourn", "copyWhole", "([I[I)V"⟩ "ClownsMourn") (List.mem_of_getElem? (i := 1277) rfl)), va_Nw.of rfl (hts (.methodLinkNest "ClownsMourn$Steps" 22 ⟨"ClownsMourn", "copyWhole", "([I[I)V"⟩ "ClownsMourn") (List.mem_of_getElem? (i := 1282) rfl)), va_Nw.of rfl (hts (.fieldLinkNest "ClownsMourn$Laws" 99 "ClownsMourn$Text" "code" "[I" "ClownsMourn") (List.mem_of_getElem? (i := 703) rfl)), va_Nw.of rfl (hts (.declares ⟨"ClownsMourn$Walk", "arrived", "(I)Z"⟩) (List.mem_of_getElem? (i := 1055) rfl)), va_Nw.of rfl (hts (.declares ⟨"ClownsMourn$Walk", "changes", "()Z"⟩) (List.mem_of_getElem? (i := 1065) rfl)), va_Nw.of rfl (hts (.declares ⟨"ClownsMourn$Walk", "moved", "(III)I"⟩) (List.mem_of_getElem? (i := 1076) rfl)), va_Nw.of rfl (hts (.castable "[I" "java/lang/Cloneable") (List.mem_of_getElem? (i := 687) rfl))⟩
def wzE (j : Nat) : Cond := Cond.eq (.elem (.field (.string "ClownsMourn$Reader" 177) "java/lang/String" "value" "[B") (.int (Int32.ofNat j))) (.int (wzBytes.getD j 0))
theorem wz_mem {F : List Cond} (h : (F.drop 13).take 150 = (List.range 150).map wzE) {j : Nat} (hj : j < 150) : wzE j ∈ F :=
  List.mem_of_mem_drop (List.mem_of_mem_take (i := 150) (h ▸ List.mem_map.mpr ⟨j, List.mem_range.mpr hj, rfl⟩))
set_option maxRecDepth 20000 in
theorem wz_in : ((flatC (Jvm.Cond.and given_1 narrow_1)).drop 13).take 150 = (List.range 150).map wzE := rfl
set_option maxRecDepth 20000 in
theorem str_start {s : State} {args : Array Value} {A : Nat → Prop} (hts : ∀ w ∈ lw_tbl, w.before args s = true) (hgv : (Jvm.Cond.and given_1 narrow_1).before args s = true) (hA : ∀ a : Nat, a < s.heap.size → ¬ A a) : strE A s := by
  have hs := flat_of_before _ hgv
  obtain ⟨adK, adV, hS, hev⟩ := vk_Sof (args := args) (s := s) (N := 1) (tm := fun _ => .string "ClownsMourn$Reader" 177) (len := [150]) (byt := [wzBytes]) (A := A)
    (fun i hi => by obtain rfl : i = 0 := by omega
                    decide)
    (fun i hi => hs _ (List.mem_of_getElem? (i := 9) rfl))
    (fun i hi => hs _ (List.mem_of_getElem? (i := 10) rfl))
    (fun i hi => hs _ (List.mem_of_getElem? (i := 11) rfl))
    (fun i hi => by obtain rfl : i = 0 := by omega
                    exact hs _ (List.mem_of_getElem? (i := 12) rfl))
    (fun i hi j hj => by obtain rfl : i = 0 := by omega
                         exact hs _ (wz_mem wz_in hj))
    (fun i j hi hj hij => absurd hij (by omega)) hA
  obtain ⟨h1, h2, h3, h4⟩ := hS.1 0 (by decide)
  exact ⟨adK 0, adV 0, vk_R.of (hts (.stringRef "ClownsMourn$Reader" 177 wzWords) (List.mem_of_getElem? (i := 537) rfl)) (hev 0 (by decide)), h1, h2, h3, h4, va_Zof (hts (.laysStatic "java/lang/String" "COMPACT_STRINGS" "Z") (List.mem_of_getElem? (i := 547) rfl)) (hts (.initialized "java/lang/String") (List.mem_of_getElem? (i := 129) rfl)) (va_eqi (hs _ (List.mem_of_getElem? (i := 4) rfl))) hA, va_Zqof (hts (.laysStatic "jdk/internal/util/Preconditions" "SIOOBE_FORMATTER" "Ljava/util/function/BiFunction;") (List.mem_of_getElem? (i := 563) rfl)) (hts (.initialized "jdk/internal/util/Preconditions") (List.mem_of_getElem? (i := 131) rfl)) (hs _ (List.mem_of_getElem? (i := 5) rfl)) hA⟩
set_option maxRecDepth 20000 in
theorem ci_start {s : State} {args : Array Value} {A : Nat → Prop} (hts : ∀ w ∈ lw_tbl, w.before args s = true) (hgv : (Jvm.Cond.and given_1 narrow_1).before args s = true) (hA : ∀ a : Nat, a < s.heap.size → ¬ A a) : ciE A s := ⟨⟨nx_start hts, str_start hts hgv hA⟩, va_AO.of (hts (.arrayOver (.object "ClownsMourn$Text")) (List.mem_of_getElem? (i := 170) rfl))⟩
