/-! cases of the law -/
section LCASE
variable {p : Program} {l : Launch} {e : Env} {s : State} {m : MethodId} {below : List Frame} {meth : Method} {c : Code} {H : Heap} {locs : List Loc} {cells slots : Nat} {Q : State → Prop} {D : va_G} {h g : Nat → Nat} {cy gy : Nat → ClassId} {cs : CS} {ms : MS} {ls : Array Slot} {A : Nat → Prop} {b L i : Nat} {xs : Nat → Int32}
theorem lcase_24 (F : LF p m c s b L xs D cy gy A) (I : LI s A D h cy g gy cs ms H locs) (hl : lv_has ls 4 (LL b h g i)) (hi : i + 6 ≤ L) (hr : cells + 4 ≤ 600000 ∧ slots + 406 ≤ 7302250) (kk : ∀ (cs1 : CS) (ms1 : MS) (H1 : Heap) (locs1 : List Loc), LI s A D h cy g gy cs1 ms1 H1 locs1 → W p l e room_1 s m #[Value.ref b] below meth c H1 locs1 (cells + 4) (slots + 406) Q (F0 m 1616 ls [])) : W p l e room_1 s m #[Value.ref b] below meth c H locs cells slots Q (F0 m 952 ls []) := by
  obtain ⟨hx, hb, hml, hown, hts, hX, hbl, hbA, hA, hKC, hKM, hs, hL⟩ := F
  obtain ⟨hPC, hDC, hPM, hDM, hAp, hS, R⟩ := I
  obtain ⟨hr1, hr2⟩ := hr
  obtain ⟨r, ms1, hwr, hwc⟩ := s2_order R (xs (i + 1)) (xs (i + 2))
  refine lv_aload_n hx hb dL_law_952 rfl (lv_at hl 2 rfl) ?_
  refine la_arg (k := 1) hx hb hX hbl hbA hS (by omega) hL (lv_at hl 3 rfl) (lv_at hl 0 rfl) (by decide) dL_law_953 dL_law_954 dL_law_955 dL_law_956 dL_law_957 ?_
  refine la_arg (k := 2) hx hb hX hbl hbA hS (by omega) hL (lv_at hl 3 rfl) (lv_at hl 0 rfl) (by decide) dL_law_958 dL_law_959 dL_law_960 dL_law_961 dL_law_962 ?_
  refine lc_Vi (b := h 0) (As := [.int (xs (i + 1)), .int (xs (i + 2))]) (rest := []) (mc := 0) (ms := 0) (Y := wM g gy ms) clE_stable hs ⟨hx, hb, hml, hown, hts⟩ (cC_X11_order l D h cy _ _ _ _ hwc) (cwV 2 hts gL_law_X11_order rfl rfl rfl (by decide +kernel) ⟨Nat.le_of_ble_eq_true rfl, Nat.le_of_ble_eq_true rfl⟩) (va_recv hKC hPC (ci := 10) (q0 := 0) rfl rfl) hKC hPC hDC hS hA hPM hAp rfl hl.1 rfl (Nat.le_of_ble_eq_true rfl) dL_law_963 ⟨show cells + 0 ≤ 600000 by omega, show slots + 0 ≤ 7302250 by omega⟩ (fun r1 cs1 H locs hw hPC hDC hS hPM hAp => ?_)
  obtain ⟨e1, R1⟩ := hw
  refine lv_aload_n hx hb dL_law_966 rfl (lv_at hl 1 rfl) ?_
  refine la_arg (k := 1) hx hb hX hbl hbA hS (by omega) hL (lv_at hl 3 rfl) (lv_at hl 0 rfl) (by decide) dL_law_967 dL_law_968 dL_law_969 dL_law_970 dL_law_971 ?_
  refine la_arg (k := 2) hx hb hX hbl hbA hS (by omega) hL (lv_at hl 3 rfl) (lv_at hl 0 rfl) (by decide) dL_law_972 dL_law_973 dL_law_974 dL_law_975 dL_law_976 ?_
  refine lm_Vi (b := g 31) (As := [.int (xs (i + 1)), .int (xs (i + 2))]) (rest := [.int r1]) (Y := wC h cy cs1) ⟨hx, hb, hml, hown, hts⟩ (cM_order l D g gy _ _ _ _ hwr) (cwV 2 hts gL_law_X12_order rfl rfl rfl (by decide +kernel) ⟨Nat.le_of_ble_eq_true rfl, Nat.le_of_ble_eq_true rfl⟩) (va_recv hKM hPM (ci := 11) (q0 := 0) rfl rfl) hKM hPM hDM hS hA hPC hAp.sym rfl hl.1 rfl (Nat.le_of_ble_eq_true rfl) dL_law_977 ⟨show cells + 0 ≤ 600000 by omega, show slots + 0 ≤ 7302250 by omega⟩ (fun r2 ms2 H locs hw hPM hDM hS hPC hAp => ?_)
  obtain ⟨e2, e3⟩ := hw
  refine lv_icmp_eq (tgt := 1616) hx hb dL_law_980 (by decide) (fun _ => ?_) (fun hne => absurd (e1.trans e2.symm) hne)
  refine W.widen (k := cells + 4) (n := slots + 406) (by omega) (by omega) ?_
  exact kk cs1 ms2 H locs ⟨hPC, hDC, hPM, hDM, hAp.sym, hS, by rw [e3]; exact R1⟩
theorem lcase_25 (F : LF p m c s b L xs D cy gy A) (I : LI s A D h cy g gy cs ms H locs) (hl : lv_has ls 4 (LL b h g i)) (hi : i + 6 ≤ L) (hr : cells + 4 ≤ 600000 ∧ slots + 406 ≤ 7302250) (kk : ∀ (cs1 : CS) (ms1 : MS) (H1 : Heap) (locs1 : List Loc), LI s A D h cy g gy cs1 ms1 H1 locs1 → W p l e room_1 s m #[Value.ref b] below meth c H1 locs1 (cells + 4) (slots + 406) Q (F0 m 1616 ls [])) : W p l e room_1 s m #[Value.ref b] below meth c H locs cells slots Q (F0 m 985 ls []) := by
  obtain ⟨hx, hb, hml, hown, hts, hX, hbl, hbA, hA, hKC, hKM, hs, hL⟩ := F
  obtain ⟨hPC, hDC, hPM, hDM, hAp, hS, R⟩ := I
  obtain ⟨hr1, hr2⟩ := hr
  obtain ⟨r, ms1, hwr, hwc⟩ := s2_all R (xs (i + 1))
  refine lv_aload_n hx hb dL_law_985 rfl (lv_at hl 2 rfl) ?_
  refine la_arg (k := 1) hx hb hX hbl hbA hS (by omega) hL (lv_at hl 3 rfl) (lv_at hl 0 rfl) (by decide) dL_law_986 dL_law_987 dL_law_988 dL_law_989 dL_law_990 ?_
  refine lc_Vi (b := h 0) (As := [.int (xs (i + 1))]) (rest := []) (mc := 0) (ms := 0) (Y := wM g gy ms) clE_stable hs ⟨hx, hb, hml, hown, hts⟩ (cC_X11_all l D h cy _ _ _ hwc) (cwV 1 hts gL_law_X11_all rfl rfl rfl (by decide +kernel) ⟨Nat.le_of_ble_eq_true rfl, Nat.le_of_ble_eq_true rfl⟩) (va_recv hKC hPC (ci := 10) (q0 := 0) rfl rfl) hKC hPC hDC hS hA hPM hAp rfl hl.1 rfl (Nat.le_of_ble_eq_true rfl) dL_law_991 ⟨show cells + 0 ≤ 600000 by omega, show slots + 0 ≤ 7302250 by omega⟩ (fun r1 cs1 H locs hw hPC hDC hS hPM hAp => ?_)
  obtain ⟨e1, R1⟩ := hw
  refine lv_aload_n hx hb dL_law_994 rfl (lv_at hl 1 rfl) ?_
  refine la_arg (k := 1) hx hb hX hbl hbA hS (by omega) hL (lv_at hl 3 rfl) (lv_at hl 0 rfl) (by decide) dL_law_995 dL_law_996 dL_law_997 dL_law_998 dL_law_999 ?_
  refine lm_Vi (b := g 31) (As := [.int (xs (i + 1))]) (rest := [.int r1]) (Y := wC h cy cs1) ⟨hx, hb, hml, hown, hts⟩ (cM_all l D g gy _ _ _ hwr) (cwV 1 hts gL_law_X12_all rfl rfl rfl (by decide +kernel) ⟨Nat.le_of_ble_eq_true rfl, Nat.le_of_ble_eq_true rfl⟩) (va_recv hKM hPM (ci := 11) (q0 := 0) rfl rfl) hKM hPM hDM hS hA hPC hAp.sym rfl hl.1 rfl (Nat.le_of_ble_eq_true rfl) dL_law_1000 ⟨show cells + 0 ≤ 600000 by omega, show slots + 0 ≤ 7302250 by omega⟩ (fun r2 ms2 H locs hw hPM hDM hS hPC hAp => ?_)
  obtain ⟨e2, e3⟩ := hw
  refine lv_icmp_eq (tgt := 1616) hx hb dL_law_1003 (by decide) (fun _ => ?_) (fun hne => absurd (e1.trans e2.symm) hne)
  refine W.widen (k := cells + 4) (n := slots + 406) (by omega) (by omega) ?_
  exact kk cs1 ms2 H locs ⟨hPC, hDC, hPM, hDM, hAp.sym, hS, by rw [e3]; exact R1⟩
theorem lcase_26 (F : LF p m c s b L xs D cy gy A) (I : LI s A D h cy g gy cs ms H locs) (hl : lv_has ls 4 (LL b h g i)) (hi : i + 6 ≤ L) (hr : cells + 4 ≤ 600000 ∧ slots + 406 ≤ 7302250) (kk : ∀ (cs1 : CS) (ms1 : MS) (H1 : Heap) (locs1 : List Loc), LI s A D h cy g gy cs1 ms1 H1 locs1 → W p l e room_1 s m #[Value.ref b] below meth c H1 locs1 (cells + 4) (slots + 406) Q (F0 m 1616 ls [])) : W p l e room_1 s m #[Value.ref b] below meth c H locs cells slots Q (F0 m 1008 ls []) := by
  obtain ⟨hx, hb, hml, hown, hts, hX, hbl, hbA, hA, hKC, hKM, hs, hL⟩ := F
  obtain ⟨hPC, hDC, hPM, hDM, hAp, hS, R⟩ := I
  obtain ⟨hr1, hr2⟩ := hr
  obtain ⟨r, ms1, hwr, hwc⟩ := s2_comfort R (xs (i + 1)) (xs (i + 2)) (xs (i + 3))
  refine lv_aload_n hx hb dL_law_1008 rfl (lv_at hl 2 rfl) ?_
  refine la_arg (k := 1) hx hb hX hbl hbA hS (by omega) hL (lv_at hl 3 rfl) (lv_at hl 0 rfl) (by decide) dL_law_1009 dL_law_1010 dL_law_1011 dL_law_1012 dL_law_1013 ?_
  refine la_arg (k := 2) hx hb hX hbl hbA hS (by omega) hL (lv_at hl 3 rfl) (lv_at hl 0 rfl) (by decide) dL_law_1014 dL_law_1015 dL_law_1016 dL_law_1017 dL_law_1018 ?_
  refine la_arg (k := 3) hx hb hX hbl hbA hS (by omega) hL (lv_at hl 3 rfl) (lv_at hl 0 rfl) (by decide) dL_law_1019 dL_law_1020 dL_law_1021 dL_law_1022 dL_law_1023 ?_
  refine lc_Vi (b := h 0) (As := [.int (xs (i + 1)), .int (xs (i + 2)), .int (xs (i + 3))]) (rest := []) (mc := 0) (ms := 0) (Y := wM g gy ms) clE_stable hs ⟨hx, hb, hml, hown, hts⟩ (cC_X11_comfort l D h cy _ _ _ _ _ hwc) (cwV 3 hts gL_law_X11_comfort rfl rfl rfl (by decide +kernel) ⟨Nat.le_of_ble_eq_true rfl, Nat.le_of_ble_eq_true rfl⟩) (va_recv hKC hPC (ci := 10) (q0 := 0) rfl rfl) hKC hPC hDC hS hA hPM hAp rfl hl.1 rfl (Nat.le_of_ble_eq_true rfl) dL_law_1024 ⟨show cells + 0 ≤ 600000 by omega, show slots + 0 ≤ 7302250 by omega⟩ (fun r1 cs1 H locs hw hPC hDC hS hPM hAp => ?_)
  obtain ⟨e1, R1⟩ := hw
  refine lv_aload_n hx hb dL_law_1027 rfl (lv_at hl 1 rfl) ?_
  refine la_arg (k := 1) hx hb hX hbl hbA hS (by omega) hL (lv_at hl 3 rfl) (lv_at hl 0 rfl) (by decide) dL_law_1028 dL_law_1029 dL_law_1030 dL_law_1031 dL_law_1032 ?_
  refine la_arg (k := 2) hx hb hX hbl hbA hS (by omega) hL (lv_at hl 3 rfl) (lv_at hl 0 rfl) (by decide) dL_law_1033 dL_law_1034 dL_law_1035 dL_law_1036 dL_law_1037 ?_
  refine la_arg (k := 3) hx hb hX hbl hbA hS (by omega) hL (lv_at hl 3 rfl) (lv_at hl 0 rfl) (by decide) dL_law_1038 dL_law_1039 dL_law_1040 dL_law_1041 dL_law_1042 ?_
  refine lm_Vi (b := g 31) (As := [.int (xs (i + 1)), .int (xs (i + 2)), .int (xs (i + 3))]) (rest := [.int r1]) (Y := wC h cy cs1) ⟨hx, hb, hml, hown, hts⟩ (cM_comfort l D g gy _ _ _ _ _ hwr) (cwV 3 hts gL_law_X12_comfort rfl rfl rfl (by decide +kernel) ⟨Nat.le_of_ble_eq_true rfl, Nat.le_of_ble_eq_true rfl⟩) (va_recv hKM hPM (ci := 11) (q0 := 0) rfl rfl) hKM hPM hDM hS hA hPC hAp.sym rfl hl.1 rfl (Nat.le_of_ble_eq_true rfl) dL_law_1043 ⟨show cells + 0 ≤ 600000 by omega, show slots + 0 ≤ 7302250 by omega⟩ (fun r2 ms2 H locs hw hPM hDM hS hPC hAp => ?_)
  obtain ⟨e2, e3⟩ := hw
  refine lv_icmp_eq (tgt := 1616) hx hb dL_law_1046 (by decide) (fun _ => ?_) (fun hne => absurd (e1.trans e2.symm) hne)
  refine W.widen (k := cells + 4) (n := slots + 406) (by omega) (by omega) ?_
  exact kk cs1 ms2 H locs ⟨hPC, hDC, hPM, hDM, hAp.sym, hS, by rw [e3]; exact R1⟩
theorem lcase_27 (F : LF p m c s b L xs D cy gy A) (I : LI s A D h cy g gy cs ms H locs) (hl : lv_has ls 4 (LL b h g i)) (hi : i + 6 ≤ L) (hr : cells + 4 ≤ 600000 ∧ slots + 406 ≤ 7302250) (kk : ∀ (cs1 : CS) (ms1 : MS) (H1 : Heap) (locs1 : List Loc), LI s A D h cy g gy cs1 ms1 H1 locs1 → W p l e room_1 s m #[Value.ref b] below meth c H1 locs1 (cells + 4) (slots + 406) Q (F0 m 1616 ls [])) : W p l e room_1 s m #[Value.ref b] below meth c H locs cells slots Q (F0 m 1051 ls []) := by
  obtain ⟨hx, hb, hml, hown, hts, hX, hbl, hbA, hA, hKC, hKM, hs, hL⟩ := F
  obtain ⟨hPC, hDC, hPM, hDM, hAp, hS, R⟩ := I
  obtain ⟨hr1, hr2⟩ := hr
  obtain ⟨r, ms1, hwr, hwc⟩ := s2_ring R (xs (i + 1))
  refine lv_aload_n hx hb dL_law_1051 rfl (lv_at hl 2 rfl) ?_
  refine la_arg (k := 1) hx hb hX hbl hbA hS (by omega) hL (lv_at hl 3 rfl) (lv_at hl 0 rfl) (by decide) dL_law_1052 dL_law_1053 dL_law_1054 dL_law_1055 dL_law_1056 ?_
  refine lc_Vi (b := h 0) (As := [.int (xs (i + 1))]) (rest := []) (mc := 0) (ms := 0) (Y := wM g gy ms) clE_stable hs ⟨hx, hb, hml, hown, hts⟩ (cC_X11_ring l D h cy _ _ _ hwc) (cwV 1 hts gL_law_X11_ring rfl rfl rfl (by decide +kernel) ⟨Nat.le_of_ble_eq_true rfl, Nat.le_of_ble_eq_true rfl⟩) (va_recv hKC hPC (ci := 10) (q0 := 0) rfl rfl) hKC hPC hDC hS hA hPM hAp rfl hl.1 rfl (Nat.le_of_ble_eq_true rfl) dL_law_1057 ⟨show cells + 0 ≤ 600000 by omega, show slots + 0 ≤ 7302250 by omega⟩ (fun r1 cs1 H locs hw hPC hDC hS hPM hAp => ?_)
  obtain ⟨e1, R1⟩ := hw
  refine lv_aload_n hx hb dL_law_1060 rfl (lv_at hl 1 rfl) ?_
  refine la_arg (k := 1) hx hb hX hbl hbA hS (by omega) hL (lv_at hl 3 rfl) (lv_at hl 0 rfl) (by decide) dL_law_1061 dL_law_1062 dL_law_1063 dL_law_1064 dL_law_1065 ?_
  refine lm_Vi (b := g 31) (As := [.int (xs (i + 1))]) (rest := [.int r1]) (Y := wC h cy cs1) ⟨hx, hb, hml, hown, hts⟩ (cM_ring l D g gy _ _ _ hwr) (cwV 1 hts gL_law_X12_ring rfl rfl rfl (by decide +kernel) ⟨Nat.le_of_ble_eq_true rfl, Nat.le_of_ble_eq_true rfl⟩) (va_recv hKM hPM (ci := 11) (q0 := 0) rfl rfl) hKM hPM hDM hS hA hPC hAp.sym rfl hl.1 rfl (Nat.le_of_ble_eq_true rfl) dL_law_1066 ⟨show cells + 0 ≤ 600000 by omega, show slots + 0 ≤ 7302250 by omega⟩ (fun r2 ms2 H locs hw hPM hDM hS hPC hAp => ?_)
  obtain ⟨e2, e3⟩ := hw
  refine lv_icmp_eq (tgt := 1616) hx hb dL_law_1069 (by decide) (fun _ => ?_) (fun hne => absurd (e1.trans e2.symm) hne)
  refine W.widen (k := cells + 4) (n := slots + 406) (by omega) (by omega) ?_
  exact kk cs1 ms2 H locs ⟨hPC, hDC, hPM, hDM, hAp.sym, hS, by rw [e3]; exact R1⟩
theorem lcase_28 (F : LF p m c s b L xs D cy gy A) (I : LI s A D h cy g gy cs ms H locs) (hl : lv_has ls 4 (LL b h g i)) (hi : i + 6 ≤ L) (hr : cells + 4 ≤ 600000 ∧ slots + 406 ≤ 7302250) (kk : ∀ (cs1 : CS) (ms1 : MS) (H1 : Heap) (locs1 : List Loc), LI s A D h cy g gy cs1 ms1 H1 locs1 → W p l e room_1 s m #[Value.ref b] below meth c H1 locs1 (cells + 4) (slots + 406) Q (F0 m 1616 ls [])) : W p l e room_1 s m #[Value.ref b] below meth c H locs cells slots Q (F0 m 1074 ls []) := by
  obtain ⟨hx, hb, hml, hown, hts, hX, hbl, hbA, hA, hKC, hKM, hs, hL⟩ := F
  obtain ⟨hPC, hDC, hPM, hDM, hAp, hS, R⟩ := I
  obtain ⟨hr1, hr2⟩ := hr
  obtain ⟨r, ms1, hwr, hwc⟩ := s2_cost R (xs (i + 1)) (xs (i + 2)) (xs (i + 3))
  refine lv_aload_n hx hb dL_law_1074 rfl (lv_at hl 2 rfl) ?_
  refine la_arg (k := 1) hx hb hX hbl hbA hS (by omega) hL (lv_at hl 3 rfl) (lv_at hl 0 rfl) (by decide) dL_law_1075 dL_law_1076 dL_law_1077 dL_law_1078 dL_law_1079 ?_
  refine la_arg (k := 2) hx hb hX hbl hbA hS (by omega) hL (lv_at hl 3 rfl) (lv_at hl 0 rfl) (by decide) dL_law_1080 dL_law_1081 dL_law_1082 dL_law_1083 dL_law_1084 ?_
  refine la_arg (k := 3) hx hb hX hbl hbA hS (by omega) hL (lv_at hl 3 rfl) (lv_at hl 0 rfl) (by decide) dL_law_1085 dL_law_1086 dL_law_1087 dL_law_1088 dL_law_1089 ?_
  refine lc_Vi (b := h 0) (As := [.int (xs (i + 1)), .int (xs (i + 2)), .int (xs (i + 3))]) (rest := []) (mc := 0) (ms := 0) (Y := wM g gy ms) clE_stable hs ⟨hx, hb, hml, hown, hts⟩ (cC_X11_cost l D h cy _ _ _ _ _ hwc) (cwV 3 hts gL_law_X11_cost rfl rfl rfl (by decide +kernel) ⟨Nat.le_of_ble_eq_true rfl, Nat.le_of_ble_eq_true rfl⟩) (va_recv hKC hPC (ci := 10) (q0 := 0) rfl rfl) hKC hPC hDC hS hA hPM hAp rfl hl.1 rfl (Nat.le_of_ble_eq_true rfl) dL_law_1090 ⟨show cells + 0 ≤ 600000 by omega, show slots + 0 ≤ 7302250 by omega⟩ (fun r1 cs1 H locs hw hPC hDC hS hPM hAp => ?_)
  obtain ⟨e1, R1⟩ := hw
  refine lv_aload_n hx hb dL_law_1093 rfl (lv_at hl 1 rfl) ?_
  refine la_arg (k := 1) hx hb hX hbl hbA hS (by omega) hL (lv_at hl 3 rfl) (lv_at hl 0 rfl) (by decide) dL_law_1094 dL_law_1095 dL_law_1096 dL_law_1097 dL_law_1098 ?_
  refine la_arg (k := 2) hx hb hX hbl hbA hS (by omega) hL (lv_at hl 3 rfl) (lv_at hl 0 rfl) (by decide) dL_law_1099 dL_law_1100 dL_law_1101 dL_law_1102 dL_law_1103 ?_
  refine la_arg (k := 3) hx hb hX hbl hbA hS (by omega) hL (lv_at hl 3 rfl) (lv_at hl 0 rfl) (by decide) dL_law_1104 dL_law_1105 dL_law_1106 dL_law_1107 dL_law_1108 ?_
  refine lm_Vi (b := g 31) (As := [.int (xs (i + 1)), .int (xs (i + 2)), .int (xs (i + 3))]) (rest := [.int r1]) (Y := wC h cy cs1) ⟨hx, hb, hml, hown, hts⟩ (cM_cost l D g gy _ _ _ _ _ hwr) (cwV 3 hts gL_law_X12_cost rfl rfl rfl (by decide +kernel) ⟨Nat.le_of_ble_eq_true rfl, Nat.le_of_ble_eq_true rfl⟩) (va_recv hKM hPM (ci := 11) (q0 := 0) rfl rfl) hKM hPM hDM hS hA hPC hAp.sym rfl hl.1 rfl (Nat.le_of_ble_eq_true rfl) dL_law_1109 ⟨show cells + 0 ≤ 600000 by omega, show slots + 0 ≤ 7302250 by omega⟩ (fun r2 ms2 H locs hw hPM hDM hS hPC hAp => ?_)
  obtain ⟨e2, e3⟩ := hw
  refine lv_icmp_eq (tgt := 1616) hx hb dL_law_1112 (by decide) (fun _ => ?_) (fun hne => absurd (e1.trans e2.symm) hne)
  refine W.widen (k := cells + 4) (n := slots + 406) (by omega) (by omega) ?_
  exact kk cs1 ms2 H locs ⟨hPC, hDC, hPM, hDM, hAp.sym, hS, by rw [e3]; exact R1⟩
theorem lcase_29 (F : LF p m c s b L xs D cy gy A) (I : LI s A D h cy g gy cs ms H locs) (hl : lv_has ls 4 (LL b h g i)) (hi : i + 6 ≤ L) (hr : cells + 4 ≤ 600000 ∧ slots + 406 ≤ 7302250) (kk : ∀ (cs1 : CS) (ms1 : MS) (H1 : Heap) (locs1 : List Loc), LI s A D h cy g gy cs1 ms1 H1 locs1 → W p l e room_1 s m #[Value.ref b] below meth c H1 locs1 (cells + 4) (slots + 406) Q (F0 m 1616 ls [])) : W p l e room_1 s m #[Value.ref b] below meth c H locs cells slots Q (F0 m 1117 ls []) := by
  obtain ⟨hx, hb, hml, hown, hts, hX, hbl, hbA, hA, hKC, hKM, hs, hL⟩ := F
  obtain ⟨hPC, hDC, hPM, hDM, hAp, hS, R⟩ := I
  obtain ⟨hr1, hr2⟩ := hr
  obtain ⟨r, ms1, hwr, hwc⟩ := s2_matched R (xs (i + 1))
  refine lv_aload_n hx hb dL_law_1117 rfl (lv_at hl 2 rfl) ?_
  refine la_arg (k := 1) hx hb hX hbl hbA hS (by omega) hL (lv_at hl 3 rfl) (lv_at hl 0 rfl) (by decide) dL_law_1118 dL_law_1119 dL_law_1120 dL_law_1121 dL_law_1122 ?_
  refine lc_Vi (b := h 0) (As := [.int (xs (i + 1))]) (rest := []) (mc := 0) (ms := 0) (Y := wM g gy ms) clE_stable hs ⟨hx, hb, hml, hown, hts⟩ (cC_X11_matched l D h cy _ _ _ hwc) (cwV 1 hts gL_law_X11_matched rfl rfl rfl (by decide +kernel) ⟨Nat.le_of_ble_eq_true rfl, Nat.le_of_ble_eq_true rfl⟩) (va_recv hKC hPC (ci := 10) (q0 := 0) rfl rfl) hKC hPC hDC hS hA hPM hAp rfl hl.1 rfl (Nat.le_of_ble_eq_true rfl) dL_law_1123 ⟨show cells + 0 ≤ 600000 by omega, show slots + 0 ≤ 7302250 by omega⟩ (fun r1 cs1 H locs hw hPC hDC hS hPM hAp => ?_)
  obtain ⟨e1, R1⟩ := hw
  refine lv_aload_n hx hb dL_law_1126 rfl (lv_at hl 1 rfl) ?_
  refine la_arg (k := 1) hx hb hX hbl hbA hS (by omega) hL (lv_at hl 3 rfl) (lv_at hl 0 rfl) (by decide) dL_law_1127 dL_law_1128 dL_law_1129 dL_law_1130 dL_law_1131 ?_
  refine lm_Vi (b := g 31) (As := [.int (xs (i + 1))]) (rest := [.int r1]) (Y := wC h cy cs1) ⟨hx, hb, hml, hown, hts⟩ (cM_matched l D g gy _ _ _ hwr) (cwV 1 hts gL_law_X12_matched rfl rfl rfl (by decide +kernel) ⟨Nat.le_of_ble_eq_true rfl, Nat.le_of_ble_eq_true rfl⟩) (va_recv hKM hPM (ci := 11) (q0 := 0) rfl rfl) hKM hPM hDM hS hA hPC hAp.sym rfl hl.1 rfl (Nat.le_of_ble_eq_true rfl) dL_law_1132 ⟨show cells + 0 ≤ 600000 by omega, show slots + 0 ≤ 7302250 by omega⟩ (fun r2 ms2 H locs hw hPM hDM hS hPC hAp => ?_)
  obtain ⟨e2, e3⟩ := hw
  refine lv_icmp_eq (tgt := 1616) hx hb dL_law_1135 (by decide) (fun _ => ?_) (fun hne => absurd (e1.trans e2.symm) hne)
  refine W.widen (k := cells + 4) (n := slots + 406) (by omega) (by omega) ?_
  exact kk cs1 ms2 H locs ⟨hPC, hDC, hPM, hDM, hAp.sym, hS, by rw [e3]; exact R1⟩
theorem lcase_30 (F : LF p m c s b L xs D cy gy A) (I : LI s A D h cy g gy cs ms H locs) (hl : lv_has ls 4 (LL b h g i)) (hi : i + 6 ≤ L) (hr : cells + 4 ≤ 600000 ∧ slots + 406 ≤ 7302250) (kk : ∀ (cs1 : CS) (ms1 : MS) (H1 : Heap) (locs1 : List Loc), LI s A D h cy g gy cs1 ms1 H1 locs1 → W p l e room_1 s m #[Value.ref b] below meth c H1 locs1 (cells + 4) (slots + 406) Q (F0 m 1616 ls [])) : W p l e room_1 s m #[Value.ref b] below meth c H locs cells slots Q (F0 m 1140 ls []) := by
  obtain ⟨hx, hb, hml, hown, hts, hX, hbl, hbA, hA, hKC, hKM, hs, hL⟩ := F
  obtain ⟨hPC, hDC, hPM, hDM, hAp, hS, R⟩ := I
  obtain ⟨hr1, hr2⟩ := hr
  obtain ⟨r, ms1, hwr, hwc⟩ := s2_bore R (xs (i + 1)) (if xs (i + 2) = 0 then 0 else 1)
  refine lv_aload_n hx hb dL_law_1140 rfl (lv_at hl 2 rfl) ?_
  refine la_arg (k := 1) hx hb hX hbl hbA hS (by omega) hL (lv_at hl 3 rfl) (lv_at hl 0 rfl) (by decide) dL_law_1141 dL_law_1142 dL_law_1143 dL_law_1144 dL_law_1145 ?_
  refine la_arg (k := 2) hx hb hX hbl hbA hS (by omega) hL (lv_at hl 3 rfl) (lv_at hl 0 rfl) (by decide) dL_law_1146 dL_law_1147 dL_law_1148 dL_law_1149 dL_law_1150 ?_
  refine la_bool (t0 := 1158) (t1 := 1159) hx hb dL_law_1151 (by decide) dL_law_1154 dL_law_1155 (by decide) dL_law_1158 rfl ?_
  refine lc_Vi (b := h 0) (As := [.int (xs (i + 1)), .int (if xs (i + 2) = 0 then 0 else 1)]) (rest := []) (mc := 0) (ms := 0) (Y := wM g gy ms) clE_stable hs ⟨hx, hb, hml, hown, hts⟩ (cC_X11_bore l D h cy _ _ _ _ hwc) (cwV 2 hts gL_law_X11_bore rfl rfl rfl (by decide +kernel) ⟨Nat.le_of_ble_eq_true rfl, Nat.le_of_ble_eq_true rfl⟩) (va_recv hKC hPC (ci := 10) (q0 := 0) rfl rfl) hKC hPC hDC hS hA hPM hAp rfl hl.1 rfl (Nat.le_of_ble_eq_true rfl) dL_law_1159 ⟨show cells + 0 ≤ 600000 by omega, show slots + 0 ≤ 7302250 by omega⟩ (fun r1 cs1 H locs hw hPC hDC hS hPM hAp => ?_)
  obtain ⟨e1, R1⟩ := hw
  refine lv_aload_n hx hb dL_law_1162 rfl (lv_at hl 1 rfl) ?_
  refine la_arg (k := 1) hx hb hX hbl hbA hS (by omega) hL (lv_at hl 3 rfl) (lv_at hl 0 rfl) (by decide) dL_law_1163 dL_law_1164 dL_law_1165 dL_law_1166 dL_law_1167 ?_
  refine la_arg (k := 2) hx hb hX hbl hbA hS (by omega) hL (lv_at hl 3 rfl) (lv_at hl 0 rfl) (by decide) dL_law_1168 dL_law_1169 dL_law_1170 dL_law_1171 dL_law_1172 ?_
  refine la_bool (t0 := 1180) (t1 := 1181) hx hb dL_law_1173 (by decide) dL_law_1176 dL_law_1177 (by decide) dL_law_1180 rfl ?_
  refine lm_Vi (b := g 31) (As := [.int (xs (i + 1)), .int (if xs (i + 2) = 0 then 0 else 1)]) (rest := [.int r1]) (Y := wC h cy cs1) ⟨hx, hb, hml, hown, hts⟩ (cM_bore l D g gy _ _ _ _ hwr) (cwV 2 hts gL_law_X12_bore rfl rfl rfl (by decide +kernel) ⟨Nat.le_of_ble_eq_true rfl, Nat.le_of_ble_eq_true rfl⟩) (va_recv hKM hPM (ci := 11) (q0 := 0) rfl rfl) hKM hPM hDM hS hA hPC hAp.sym rfl hl.1 rfl (Nat.le_of_ble_eq_true rfl) dL_law_1181 ⟨show cells + 0 ≤ 600000 by omega, show slots + 0 ≤ 7302250 by omega⟩ (fun r2 ms2 H locs hw hPM hDM hS hPC hAp => ?_)
  obtain ⟨e2, e3⟩ := hw
  refine lv_icmp_eq (tgt := 1616) hx hb dL_law_1184 (by decide) (fun _ => ?_) (fun hne => absurd (e1.trans e2.symm) hne)
  refine W.widen (k := cells + 4) (n := slots + 406) (by omega) (by omega) ?_
  exact kk cs1 ms2 H locs ⟨hPC, hDC, hPM, hDM, hAp.sym, hS, by rw [e3]; exact R1⟩
theorem lcase_31 (F : LF p m c s b L xs D cy gy A) (I : LI s A D h cy g gy cs ms H locs) (hl : lv_has ls 4 (LL b h g i)) (hi : i + 6 ≤ L) (hr : cells + 4 ≤ 600000 ∧ slots + 406 ≤ 7302250) (kk : ∀ (cs1 : CS) (ms1 : MS) (H1 : Heap) (locs1 : List Loc), LI s A D h cy g gy cs1 ms1 H1 locs1 → W p l e room_1 s m #[Value.ref b] below meth c H1 locs1 (cells + 4) (slots + 406) Q (F0 m 1616 ls [])) : W p l e room_1 s m #[Value.ref b] below meth c H locs cells slots Q (F0 m 1189 ls []) := by
  obtain ⟨hx, hb, hml, hown, hts, hX, hbl, hbA, hA, hKC, hKM, hs, hL⟩ := F
  obtain ⟨hPC, hDC, hPM, hDM, hAp, hS, R⟩ := I
  obtain ⟨hr1, hr2⟩ := hr
  obtain ⟨r, ms1, hwr, hwc⟩ := s2_bears R (xs (i + 1))
  refine lv_aload_n hx hb dL_law_1189 rfl (lv_at hl 2 rfl) ?_
  refine la_arg (k := 1) hx hb hX hbl hbA hS (by omega) hL (lv_at hl 3 rfl) (lv_at hl 0 rfl) (by decide) dL_law_1190 dL_law_1191 dL_law_1192 dL_law_1193 dL_law_1194 ?_
  refine lc_Vi (b := h 0) (As := [.int (xs (i + 1))]) (rest := []) (mc := 0) (ms := 0) (Y := wM g gy ms) clE_stable hs ⟨hx, hb, hml, hown, hts⟩ (cC_X11_bears l D h cy _ _ _ hwc) (cwV 1 hts gL_law_X11_bears rfl rfl rfl (by decide +kernel) ⟨Nat.le_of_ble_eq_true rfl, Nat.le_of_ble_eq_true rfl⟩) (va_recv hKC hPC (ci := 10) (q0 := 0) rfl rfl) hKC hPC hDC hS hA hPM hAp rfl hl.1 rfl (Nat.le_of_ble_eq_true rfl) dL_law_1195 ⟨show cells + 0 ≤ 600000 by omega, show slots + 0 ≤ 7302250 by omega⟩ (fun r1 cs1 H locs hw hPC hDC hS hPM hAp => ?_)
  obtain ⟨e1, R1⟩ := hw
  refine lv_aload_n hx hb dL_law_1198 rfl (lv_at hl 1 rfl) ?_
  refine la_arg (k := 1) hx hb hX hbl hbA hS (by omega) hL (lv_at hl 3 rfl) (lv_at hl 0 rfl) (by decide) dL_law_1199 dL_law_1200 dL_law_1201 dL_law_1202 dL_law_1203 ?_
  refine lm_Vi (b := g 31) (As := [.int (xs (i + 1))]) (rest := [.int r1]) (Y := wC h cy cs1) ⟨hx, hb, hml, hown, hts⟩ (cM_bears l D g gy _ _ _ hwr) (cwV 1 hts gL_law_X12_bears rfl rfl rfl (by decide +kernel) ⟨Nat.le_of_ble_eq_true rfl, Nat.le_of_ble_eq_true rfl⟩) (va_recv hKM hPM (ci := 11) (q0 := 0) rfl rfl) hKM hPM hDM hS hA hPC hAp.sym rfl hl.1 rfl (Nat.le_of_ble_eq_true rfl) dL_law_1204 ⟨show cells + 0 ≤ 600000 by omega, show slots + 0 ≤ 7302250 by omega⟩ (fun r2 ms2 H locs hw hPM hDM hS hPC hAp => ?_)
  obtain ⟨e2, e3⟩ := hw
  refine lv_icmp_eq (tgt := 1616) hx hb dL_law_1207 (by decide) (fun _ => ?_) (fun hne => absurd (e1.trans e2.symm) hne)
  refine W.widen (k := cells + 4) (n := slots + 406) (by omega) (by omega) ?_
  exact kk cs1 ms2 H locs ⟨hPC, hDC, hPM, hDM, hAp.sym, hS, by rw [e3]; exact R1⟩
theorem lcase_32 (F : LF p m c s b L xs D cy gy A) (I : LI s A D h cy g gy cs ms H locs) (hl : lv_has ls 4 (LL b h g i)) (hi : i + 6 ≤ L) (hr : cells + 4 ≤ 600000 ∧ slots + 406 ≤ 7302250) (kk : ∀ (cs1 : CS) (ms1 : MS) (H1 : Heap) (locs1 : List Loc), LI s A D h cy g gy cs1 ms1 H1 locs1 → W p l e room_1 s m #[Value.ref b] below meth c H1 locs1 (cells + 4) (slots + 406) Q (F0 m 1616 ls [])) : W p l e room_1 s m #[Value.ref b] below meth c H locs cells slots Q (F0 m 1212 ls []) := by
  obtain ⟨hx, hb, hml, hown, hts, hX, hbl, hbA, hA, hKC, hKM, hs, hL⟩ := F
  obtain ⟨hPC, hDC, hPM, hDM, hAp, hS, R⟩ := I
  obtain ⟨hr1, hr2⟩ := hr
  obtain ⟨r, ms1, hwr, hwc⟩ := s2_next R (xs (i + 1))
  refine lv_aload_n hx hb dL_law_1212 rfl (lv_at hl 2 rfl) ?_
  refine la_arg (k := 1) hx hb hX hbl hbA hS (by omega) hL (lv_at hl 3 rfl) (lv_at hl 0 rfl) (by decide) dL_law_1213 dL_law_1214 dL_law_1215 dL_law_1216 dL_law_1217 ?_
  refine lc_Vi (b := h 0) (As := [.int (xs (i + 1))]) (rest := []) (mc := 0) (ms := 0) (Y := wM g gy ms) clE_stable hs ⟨hx, hb, hml, hown, hts⟩ (cC_X11_next l D h cy _ _ _ hwc) (cwV 1 hts gL_law_X11_next rfl rfl rfl (by decide +kernel) ⟨Nat.le_of_ble_eq_true rfl, Nat.le_of_ble_eq_true rfl⟩) (va_recv hKC hPC (ci := 10) (q0 := 0) rfl rfl) hKC hPC hDC hS hA hPM hAp rfl hl.1 rfl (Nat.le_of_ble_eq_true rfl) dL_law_1218 ⟨show cells + 0 ≤ 600000 by omega, show slots + 0 ≤ 7302250 by omega⟩ (fun r1 cs1 H locs hw hPC hDC hS hPM hAp => ?_)
  obtain ⟨e1, R1⟩ := hw
  refine lv_aload_n hx hb dL_law_1221 rfl (lv_at hl 1 rfl) ?_
  refine la_arg (k := 1) hx hb hX hbl hbA hS (by omega) hL (lv_at hl 3 rfl) (lv_at hl 0 rfl) (by decide) dL_law_1222 dL_law_1223 dL_law_1224 dL_law_1225 dL_law_1226 ?_
  refine lm_Vi (b := g 31) (As := [.int (xs (i + 1))]) (rest := [.int r1]) (Y := wC h cy cs1) ⟨hx, hb, hml, hown, hts⟩ (cM_next l D g gy _ _ _ hwr) (cwV 1 hts gL_law_X12_next rfl rfl rfl (by decide +kernel) ⟨Nat.le_of_ble_eq_true rfl, Nat.le_of_ble_eq_true rfl⟩) (va_recv hKM hPM (ci := 11) (q0 := 0) rfl rfl) hKM hPM hDM hS hA hPC hAp.sym rfl hl.1 rfl (Nat.le_of_ble_eq_true rfl) dL_law_1227 ⟨show cells + 0 ≤ 600000 by omega, show slots + 0 ≤ 7302250 by omega⟩ (fun r2 ms2 H locs hw hPM hDM hS hPC hAp => ?_)
  obtain ⟨e2, e3⟩ := hw
  refine lv_icmp_eq (tgt := 1616) hx hb dL_law_1230 (by decide) (fun _ => ?_) (fun hne => absurd (e1.trans e2.symm) hne)
  refine W.widen (k := cells + 4) (n := slots + 406) (by omega) (by omega) ?_
  exact kk cs1 ms2 H locs ⟨hPC, hDC, hPM, hDM, hAp.sym, hS, by rw [e3]; exact R1⟩
theorem lcase_33 (F : LF p m c s b L xs D cy gy A) (I : LI s A D h cy g gy cs ms H locs) (hl : lv_has ls 4 (LL b h g i)) (hi : i + 6 ≤ L) (hr : cells + 4 ≤ 600000 ∧ slots + 406 ≤ 7302250) (kk : ∀ (cs1 : CS) (ms1 : MS) (H1 : Heap) (locs1 : List Loc), LI s A D h cy g gy cs1 ms1 H1 locs1 → W p l e room_1 s m #[Value.ref b] below meth c H1 locs1 (cells + 4) (slots + 406) Q (F0 m 1616 ls [])) : W p l e room_1 s m #[Value.ref b] below meth c H locs cells slots Q (F0 m 1235 ls []) := by
  obtain ⟨hx, hb, hml, hown, hts, hX, hbl, hbA, hA, hKC, hKM, hs, hL⟩ := F
  obtain ⟨hPC, hDC, hPM, hDM, hAp, hS, R⟩ := I
  obtain ⟨hr1, hr2⟩ := hr
  obtain ⟨r, ms1, hwr, hwc⟩ := s2_worth R (xs (i + 1)) (xs (i + 2))
  refine lv_aload_n hx hb dL_law_1235 rfl (lv_at hl 2 rfl) ?_
  refine la_arg (k := 1) hx hb hX hbl hbA hS (by omega) hL (lv_at hl 3 rfl) (lv_at hl 0 rfl) (by decide) dL_law_1236 dL_law_1237 dL_law_1238 dL_law_1239 dL_law_1240 ?_
  refine la_arg (k := 2) hx hb hX hbl hbA hS (by omega) hL (lv_at hl 3 rfl) (lv_at hl 0 rfl) (by decide) dL_law_1241 dL_law_1242 dL_law_1243 dL_law_1244 dL_law_1245 ?_
  refine lc_Vi (b := h 0) (As := [.int (xs (i + 1)), .int (xs (i + 2))]) (rest := []) (mc := 0) (ms := 0) (Y := wM g gy ms) clE_stable hs ⟨hx, hb, hml, hown, hts⟩ (cC_X11_worth l D h cy _ _ _ _ hwc) (cwV 2 hts gL_law_X11_worth rfl rfl rfl (by decide +kernel) ⟨Nat.le_of_ble_eq_true rfl, Nat.le_of_ble_eq_true rfl⟩) (va_recv hKC hPC (ci := 10) (q0 := 0) rfl rfl) hKC hPC hDC hS hA hPM hAp rfl hl.1 rfl (Nat.le_of_ble_eq_true rfl) dL_law_1246 ⟨show cells + 0 ≤ 600000 by omega, show slots + 0 ≤ 7302250 by omega⟩ (fun r1 cs1 H locs hw hPC hDC hS hPM hAp => ?_)
  obtain ⟨e1, R1⟩ := hw
  refine lv_aload_n hx hb dL_law_1249 rfl (lv_at hl 1 rfl) ?_
  refine la_arg (k := 1) hx hb hX hbl hbA hS (by omega) hL (lv_at hl 3 rfl) (lv_at hl 0 rfl) (by decide) dL_law_1250 dL_law_1251 dL_law_1252 dL_law_1253 dL_law_1254 ?_
  refine la_arg (k := 2) hx hb hX hbl hbA hS (by omega) hL (lv_at hl 3 rfl) (lv_at hl 0 rfl) (by decide) dL_law_1255 dL_law_1256 dL_law_1257 dL_law_1258 dL_law_1259 ?_
  refine lm_Vi (b := g 31) (As := [.int (xs (i + 1)), .int (xs (i + 2))]) (rest := [.int r1]) (Y := wC h cy cs1) ⟨hx, hb, hml, hown, hts⟩ (cM_worth l D g gy _ _ _ _ hwr) (cwV 2 hts gL_law_X12_worth rfl rfl rfl (by decide +kernel) ⟨Nat.le_of_ble_eq_true rfl, Nat.le_of_ble_eq_true rfl⟩) (va_recv hKM hPM (ci := 11) (q0 := 0) rfl rfl) hKM hPM hDM hS hA hPC hAp.sym rfl hl.1 rfl (Nat.le_of_ble_eq_true rfl) dL_law_1260 ⟨show cells + 0 ≤ 600000 by omega, show slots + 0 ≤ 7302250 by omega⟩ (fun r2 ms2 H locs hw hPM hDM hS hPC hAp => ?_)
  obtain ⟨e2, e3⟩ := hw
  refine lv_icmp_eq (tgt := 1616) hx hb dL_law_1263 (by decide) (fun _ => ?_) (fun hne => absurd (e1.trans e2.symm) hne)
  refine W.widen (k := cells + 4) (n := slots + 406) (by omega) (by omega) ?_
  exact kk cs1 ms2 H locs ⟨hPC, hDC, hPM, hDM, hAp.sym, hS, by rw [e3]; exact R1⟩
theorem lcase_34 (F : LF p m c s b L xs D cy gy A) (I : LI s A D h cy g gy cs ms H locs) (hl : lv_has ls 4 (LL b h g i)) (hi : i + 6 ≤ L) (hr : cells + 4 ≤ 600000 ∧ slots + 406 ≤ 7302250) (kk : ∀ (cs1 : CS) (ms1 : MS) (H1 : Heap) (locs1 : List Loc), LI s A D h cy g gy cs1 ms1 H1 locs1 → W p l e room_1 s m #[Value.ref b] below meth c H1 locs1 (cells + 4) (slots + 406) Q (F0 m 1616 ls [])) : W p l e room_1 s m #[Value.ref b] below meth c H locs cells slots Q (F0 m 1268 ls []) := by
  obtain ⟨hx, hb, hml, hown, hts, hX, hbl, hbA, hA, hKC, hKM, hs, hL⟩ := F
  obtain ⟨hPC, hDC, hPM, hDM, hAp, hS, R⟩ := I
  obtain ⟨hr1, hr2⟩ := hr
  obtain ⟨r, ms1, hwr, hwc⟩ := s2_share R (xs (i + 1)) (xs (i + 2)) (if xs (i + 3) = 0 then 0 else 1)
  refine lv_aload_n hx hb dL_law_1268 rfl (lv_at hl 2 rfl) ?_
  refine la_arg (k := 1) hx hb hX hbl hbA hS (by omega) hL (lv_at hl 3 rfl) (lv_at hl 0 rfl) (by decide) dL_law_1269 dL_law_1270 dL_law_1271 dL_law_1272 dL_law_1273 ?_
  refine la_arg (k := 2) hx hb hX hbl hbA hS (by omega) hL (lv_at hl 3 rfl) (lv_at hl 0 rfl) (by decide) dL_law_1274 dL_law_1275 dL_law_1276 dL_law_1277 dL_law_1278 ?_
  refine la_arg (k := 3) hx hb hX hbl hbA hS (by omega) hL (lv_at hl 3 rfl) (lv_at hl 0 rfl) (by decide) dL_law_1279 dL_law_1280 dL_law_1281 dL_law_1282 dL_law_1283 ?_
  refine la_bool (t0 := 1291) (t1 := 1292) hx hb dL_law_1284 (by decide) dL_law_1287 dL_law_1288 (by decide) dL_law_1291 rfl ?_
  refine lc_Vi (b := h 0) (As := [.int (xs (i + 1)), .int (xs (i + 2)), .int (if xs (i + 3) = 0 then 0 else 1)]) (rest := []) (mc := 0) (ms := 0) (Y := wM g gy ms) clE_stable hs ⟨hx, hb, hml, hown, hts⟩ (cC_X11_share l D h cy _ _ _ _ _ hwc) (cwV 3 hts gL_law_X11_share rfl rfl rfl (by decide +kernel) ⟨Nat.le_of_ble_eq_true rfl, Nat.le_of_ble_eq_true rfl⟩) (va_recv hKC hPC (ci := 10) (q0 := 0) rfl rfl) hKC hPC hDC hS hA hPM hAp rfl hl.1 rfl (Nat.le_of_ble_eq_true rfl) dL_law_1292 ⟨show cells + 0 ≤ 600000 by omega, show slots + 0 ≤ 7302250 by omega⟩ (fun r1 cs1 H locs hw hPC hDC hS hPM hAp => ?_)
  obtain ⟨e1, R1⟩ := hw
  refine lv_aload_n hx hb dL_law_1295 rfl (lv_at hl 1 rfl) ?_
  refine la_arg (k := 1) hx hb hX hbl hbA hS (by omega) hL (lv_at hl 3 rfl) (lv_at hl 0 rfl) (by decide) dL_law_1296 dL_law_1297 dL_law_1298 dL_law_1299 dL_law_1300 ?_
  refine la_arg (k := 2) hx hb hX hbl hbA hS (by omega) hL (lv_at hl 3 rfl) (lv_at hl 0 rfl) (by decide) dL_law_1301 dL_law_1302 dL_law_1303 dL_law_1304 dL_law_1305 ?_
  refine la_arg (k := 3) hx hb hX hbl hbA hS (by omega) hL (lv_at hl 3 rfl) (lv_at hl 0 rfl) (by decide) dL_law_1306 dL_law_1307 dL_law_1308 dL_law_1309 dL_law_1310 ?_
  refine la_bool (t0 := 1318) (t1 := 1319) hx hb dL_law_1311 (by decide) dL_law_1314 dL_law_1315 (by decide) dL_law_1318 rfl ?_
  refine lm_Vi (b := g 31) (As := [.int (xs (i + 1)), .int (xs (i + 2)), .int (if xs (i + 3) = 0 then 0 else 1)]) (rest := [.int r1]) (Y := wC h cy cs1) ⟨hx, hb, hml, hown, hts⟩ (cM_share l D g gy _ _ _ _ _ hwr) (cwV 3 hts gL_law_X12_share rfl rfl rfl (by decide +kernel) ⟨Nat.le_of_ble_eq_true rfl, Nat.le_of_ble_eq_true rfl⟩) (va_recv hKM hPM (ci := 11) (q0 := 0) rfl rfl) hKM hPM hDM hS hA hPC hAp.sym rfl hl.1 rfl (Nat.le_of_ble_eq_true rfl) dL_law_1319 ⟨show cells + 0 ≤ 600000 by omega, show slots + 0 ≤ 7302250 by omega⟩ (fun r2 ms2 H locs hw hPM hDM hS hPC hAp => ?_)
  obtain ⟨e2, e3⟩ := hw
  refine lv_icmp_eq (tgt := 1616) hx hb dL_law_1322 (by decide) (fun _ => ?_) (fun hne => absurd (e1.trans e2.symm) hne)
  refine W.widen (k := cells + 4) (n := slots + 406) (by omega) (by omega) ?_
  exact kk cs1 ms2 H locs ⟨hPC, hDC, hPM, hDM, hAp.sym, hS, by rw [e3]; exact R1⟩
theorem lcase_35 (F : LF p m c s b L xs D cy gy A) (I : LI s A D h cy g gy cs ms H locs) (hl : lv_has ls 4 (LL b h g i)) (hi : i + 6 ≤ L) (hr : cells + 4 ≤ 600000 ∧ slots + 406 ≤ 7302250) (kk : ∀ (cs1 : CS) (ms1 : MS) (H1 : Heap) (locs1 : List Loc), LI s A D h cy g gy cs1 ms1 H1 locs1 → W p l e room_1 s m #[Value.ref b] below meth c H1 locs1 (cells + 4) (slots + 406) Q (F0 m 1616 ls [])) : W p l e room_1 s m #[Value.ref b] below meth c H locs cells slots Q (F0 m 1327 ls []) := by
  obtain ⟨hx, hb, hml, hown, hts, hX, hbl, hbA, hA, hKC, hKM, hs, hL⟩ := F
  obtain ⟨hPC, hDC, hPM, hDM, hAp, hS, R⟩ := I
  obtain ⟨hr1, hr2⟩ := hr
  obtain ⟨r, ms1, hwr, hwc⟩ := s2_stays R (xs (i + 1)) (xs (i + 2)) (xs (i + 3)) (xs (i + 4))
  refine lv_aload_n hx hb dL_law_1327 rfl (lv_at hl 2 rfl) ?_
  refine la_arg (k := 1) hx hb hX hbl hbA hS (by omega) hL (lv_at hl 3 rfl) (lv_at hl 0 rfl) (by decide) dL_law_1328 dL_law_1329 dL_law_1330 dL_law_1331 dL_law_1332 ?_
  refine la_arg (k := 2) hx hb hX hbl hbA hS (by omega) hL (lv_at hl 3 rfl) (lv_at hl 0 rfl) (by decide) dL_law_1333 dL_law_1334 dL_law_1335 dL_law_1336 dL_law_1337 ?_
  refine la_arg (k := 3) hx hb hX hbl hbA hS (by omega) hL (lv_at hl 3 rfl) (lv_at hl 0 rfl) (by decide) dL_law_1338 dL_law_1339 dL_law_1340 dL_law_1341 dL_law_1342 ?_
  refine la_arg (k := 4) hx hb hX hbl hbA hS (by omega) hL (lv_at hl 3 rfl) (lv_at hl 0 rfl) (by decide) dL_law_1343 dL_law_1344 dL_law_1345 dL_law_1346 dL_law_1347 ?_
  refine lc_Vi (b := h 0) (As := [.int (xs (i + 1)), .int (xs (i + 2)), .int (xs (i + 3)), .int (xs (i + 4))]) (rest := []) (mc := 0) (ms := 0) (Y := wM g gy ms) clE_stable hs ⟨hx, hb, hml, hown, hts⟩ (cC_X11_stays l D h cy _ _ _ _ _ _ hwc) (cwV 4 hts gL_law_X11_stays rfl rfl rfl (by decide +kernel) ⟨Nat.le_of_ble_eq_true rfl, Nat.le_of_ble_eq_true rfl⟩) (va_recv hKC hPC (ci := 10) (q0 := 0) rfl rfl) hKC hPC hDC hS hA hPM hAp rfl hl.1 rfl (Nat.le_of_ble_eq_true rfl) dL_law_1348 ⟨show cells + 0 ≤ 600000 by omega, show slots + 0 ≤ 7302250 by omega⟩ (fun r1 cs1 H locs hw hPC hDC hS hPM hAp => ?_)
  obtain ⟨e1, R1⟩ := hw
  refine lv_aload_n hx hb dL_law_1351 rfl (lv_at hl 1 rfl) ?_
  refine la_arg (k := 1) hx hb hX hbl hbA hS (by omega) hL (lv_at hl 3 rfl) (lv_at hl 0 rfl) (by decide) dL_law_1352 dL_law_1353 dL_law_1354 dL_law_1355 dL_law_1356 ?_
  refine la_arg (k := 2) hx hb hX hbl hbA hS (by omega) hL (lv_at hl 3 rfl) (lv_at hl 0 rfl) (by decide) dL_law_1357 dL_law_1358 dL_law_1359 dL_law_1360 dL_law_1361 ?_
  refine la_arg (k := 3) hx hb hX hbl hbA hS (by omega) hL (lv_at hl 3 rfl) (lv_at hl 0 rfl) (by decide) dL_law_1362 dL_law_1363 dL_law_1364 dL_law_1365 dL_law_1366 ?_
  refine la_arg (k := 4) hx hb hX hbl hbA hS (by omega) hL (lv_at hl 3 rfl) (lv_at hl 0 rfl) (by decide) dL_law_1367 dL_law_1368 dL_law_1369 dL_law_1370 dL_law_1371 ?_
  refine lm_Vi (b := g 31) (As := [.int (xs (i + 1)), .int (xs (i + 2)), .int (xs (i + 3)), .int (xs (i + 4))]) (rest := [.int r1]) (Y := wC h cy cs1) ⟨hx, hb, hml, hown, hts⟩ (cM_stays l D g gy _ _ _ _ _ _ hwr) (cwV 4 hts gL_law_X12_stays rfl rfl rfl (by decide +kernel) ⟨Nat.le_of_ble_eq_true rfl, Nat.le_of_ble_eq_true rfl⟩) (va_recv hKM hPM (ci := 11) (q0 := 0) rfl rfl) hKM hPM hDM hS hA hPC hAp.sym rfl hl.1 rfl (Nat.le_of_ble_eq_true rfl) dL_law_1372 ⟨show cells + 0 ≤ 600000 by omega, show slots + 0 ≤ 7302250 by omega⟩ (fun r2 ms2 H locs hw hPM hDM hS hPC hAp => ?_)
  obtain ⟨e2, e3⟩ := hw
  refine lv_icmp_eq (tgt := 1616) hx hb dL_law_1375 (by decide) (fun _ => ?_) (fun hne => absurd (e1.trans e2.symm) hne)
  refine W.widen (k := cells + 4) (n := slots + 406) (by omega) (by omega) ?_
  exact kk cs1 ms2 H locs ⟨hPC, hDC, hPM, hDM, hAp.sym, hS, by rw [e3]; exact R1⟩
theorem lcase_36 (F : LF p m c s b L xs D cy gy A) (I : LI s A D h cy g gy cs ms H locs) (hl : lv_has ls 4 (LL b h g i)) (hi : i + 6 ≤ L) (hr : cells + 4 ≤ 600000 ∧ slots + 406 ≤ 7302250) (kk : ∀ (cs1 : CS) (ms1 : MS) (H1 : Heap) (locs1 : List Loc), LI s A D h cy g gy cs1 ms1 H1 locs1 → W p l e room_1 s m #[Value.ref b] below meth c H1 locs1 (cells + 4) (slots + 406) Q (F0 m 1616 ls [])) : W p l e room_1 s m #[Value.ref b] below meth c H locs cells slots Q (F0 m 1380 ls []) := by
  obtain ⟨hx, hb, hml, hown, hts, hX, hbl, hbA, hA, hKC, hKM, hs, hL⟩ := F
  obtain ⟨hPC, hDC, hPM, hDM, hAp, hS, R⟩ := I
  obtain ⟨hr1, hr2⟩ := hr
  obtain ⟨r, ms1, hwr, hwc⟩ := s2_behind R (xs (i + 1)) (xs (i + 2))
  refine lv_aload_n hx hb dL_law_1380 rfl (lv_at hl 2 rfl) ?_
  refine la_arg (k := 1) hx hb hX hbl hbA hS (by omega) hL (lv_at hl 3 rfl) (lv_at hl 0 rfl) (by decide) dL_law_1381 dL_law_1382 dL_law_1383 dL_law_1384 dL_law_1385 ?_
  refine la_arg (k := 2) hx hb hX hbl hbA hS (by omega) hL (lv_at hl 3 rfl) (lv_at hl 0 rfl) (by decide) dL_law_1386 dL_law_1387 dL_law_1388 dL_law_1389 dL_law_1390 ?_
  refine lc_Vi (b := h 0) (As := [.int (xs (i + 1)), .int (xs (i + 2))]) (rest := []) (mc := 0) (ms := 0) (Y := wM g gy ms) clE_stable hs ⟨hx, hb, hml, hown, hts⟩ (cC_X11_behind l D h cy _ _ _ _ hwc) (cwV 2 hts gL_law_X11_behind rfl rfl rfl (by decide +kernel) ⟨Nat.le_of_ble_eq_true rfl, Nat.le_of_ble_eq_true rfl⟩) (va_recv hKC hPC (ci := 10) (q0 := 0) rfl rfl) hKC hPC hDC hS hA hPM hAp rfl hl.1 rfl (Nat.le_of_ble_eq_true rfl) dL_law_1391 ⟨show cells + 0 ≤ 600000 by omega, show slots + 0 ≤ 7302250 by omega⟩ (fun r1 cs1 H locs hw hPC hDC hS hPM hAp => ?_)
  obtain ⟨e1, R1⟩ := hw
  refine lv_aload_n hx hb dL_law_1394 rfl (lv_at hl 1 rfl) ?_
  refine la_arg (k := 1) hx hb hX hbl hbA hS (by omega) hL (lv_at hl 3 rfl) (lv_at hl 0 rfl) (by decide) dL_law_1395 dL_law_1396 dL_law_1397 dL_law_1398 dL_law_1399 ?_
  refine la_arg (k := 2) hx hb hX hbl hbA hS (by omega) hL (lv_at hl 3 rfl) (lv_at hl 0 rfl) (by decide) dL_law_1400 dL_law_1401 dL_law_1402 dL_law_1403 dL_law_1404 ?_
  refine lm_Vi (b := g 31) (As := [.int (xs (i + 1)), .int (xs (i + 2))]) (rest := [.int r1]) (Y := wC h cy cs1) ⟨hx, hb, hml, hown, hts⟩ (cM_behind l D g gy _ _ _ _ hwr) (cwV 2 hts gL_law_X12_behind rfl rfl rfl (by decide +kernel) ⟨Nat.le_of_ble_eq_true rfl, Nat.le_of_ble_eq_true rfl⟩) (va_recv hKM hPM (ci := 11) (q0 := 0) rfl rfl) hKM hPM hDM hS hA hPC hAp.sym rfl hl.1 rfl (Nat.le_of_ble_eq_true rfl) dL_law_1405 ⟨show cells + 0 ≤ 600000 by omega, show slots + 0 ≤ 7302250 by omega⟩ (fun r2 ms2 H locs hw hPM hDM hS hPC hAp => ?_)
  obtain ⟨e2, e3⟩ := hw
  refine lv_icmp_eq (tgt := 1616) hx hb dL_law_1408 (by decide) (fun _ => ?_) (fun hne => absurd (e1.trans e2.symm) hne)
  refine W.widen (k := cells + 4) (n := slots + 406) (by omega) (by omega) ?_
  exact kk cs1 ms2 H locs ⟨hPC, hDC, hPM, hDM, hAp.sym, hS, by rw [e3]; exact R1⟩
theorem lcase_37 (F : LF p m c s b L xs D cy gy A) (I : LI s A D h cy g gy cs ms H locs) (hl : lv_has ls 4 (LL b h g i)) (hi : i + 6 ≤ L) (hr : cells + 4 ≤ 600000 ∧ slots + 406 ≤ 7302250) (kk : ∀ (cs1 : CS) (ms1 : MS) (H1 : Heap) (locs1 : List Loc), LI s A D h cy g gy cs1 ms1 H1 locs1 → W p l e room_1 s m #[Value.ref b] below meth c H1 locs1 (cells + 4) (slots + 406) Q (F0 m 1616 ls [])) : W p l e room_1 s m #[Value.ref b] below meth c H locs cells slots Q (F0 m 1413 ls []) := by
  obtain ⟨hx, hb, hml, hown, hts, hX, hbl, hbA, hA, hKC, hKM, hs, hL⟩ := F
  obtain ⟨hPC, hDC, hPM, hDM, hAp, hS, R⟩ := I
  obtain ⟨hr1, hr2⟩ := hr
  obtain ⟨r, ms1, hwr, hwc⟩ := s2_lessons R (xs (i + 1))
  refine lv_aload_n hx hb dL_law_1413 rfl (lv_at hl 2 rfl) ?_
  refine la_arg (k := 1) hx hb hX hbl hbA hS (by omega) hL (lv_at hl 3 rfl) (lv_at hl 0 rfl) (by decide) dL_law_1414 dL_law_1415 dL_law_1416 dL_law_1417 dL_law_1418 ?_
  refine lc_Vi (b := h 0) (As := [.int (xs (i + 1))]) (rest := []) (mc := 0) (ms := 0) (Y := wM g gy ms) clE_stable hs ⟨hx, hb, hml, hown, hts⟩ (cC_X11_lessons l D h cy _ _ _ hwc) (cwV 1 hts gL_law_X11_lessons rfl rfl rfl (by decide +kernel) ⟨Nat.le_of_ble_eq_true rfl, Nat.le_of_ble_eq_true rfl⟩) (va_recv hKC hPC (ci := 10) (q0 := 0) rfl rfl) hKC hPC hDC hS hA hPM hAp rfl hl.1 rfl (Nat.le_of_ble_eq_true rfl) dL_law_1419 ⟨show cells + 0 ≤ 600000 by omega, show slots + 0 ≤ 7302250 by omega⟩ (fun r1 cs1 H locs hw hPC hDC hS hPM hAp => ?_)
  obtain ⟨e1, R1⟩ := hw
  refine lv_aload_n hx hb dL_law_1422 rfl (lv_at hl 1 rfl) ?_
  refine la_arg (k := 1) hx hb hX hbl hbA hS (by omega) hL (lv_at hl 3 rfl) (lv_at hl 0 rfl) (by decide) dL_law_1423 dL_law_1424 dL_law_1425 dL_law_1426 dL_law_1427 ?_
  refine lm_Vi (b := g 31) (As := [.int (xs (i + 1))]) (rest := [.int r1]) (Y := wC h cy cs1) ⟨hx, hb, hml, hown, hts⟩ (cM_lessons l D g gy _ _ _ hwr) (cwV 1 hts gL_law_X12_lessons rfl rfl rfl (by decide +kernel) ⟨Nat.le_of_ble_eq_true rfl, Nat.le_of_ble_eq_true rfl⟩) (va_recv hKM hPM (ci := 11) (q0 := 0) rfl rfl) hKM hPM hDM hS hA hPC hAp.sym rfl hl.1 rfl (Nat.le_of_ble_eq_true rfl) dL_law_1428 ⟨show cells + 0 ≤ 600000 by omega, show slots + 0 ≤ 7302250 by omega⟩ (fun r2 ms2 H locs hw hPM hDM hS hPC hAp => ?_)
  obtain ⟨e2, e3⟩ := hw
  refine lv_icmp_eq (tgt := 1616) hx hb dL_law_1431 (by decide) (fun _ => ?_) (fun hne => absurd (e1.trans e2.symm) hne)
  refine W.widen (k := cells + 4) (n := slots + 406) (by omega) (by omega) ?_
  exact kk cs1 ms2 H locs ⟨hPC, hDC, hPM, hDM, hAp.sym, hS, by rw [e3]; exact R1⟩
theorem lcase_38 (F : LF p m c s b L xs D cy gy A) (I : LI s A D h cy g gy cs ms H locs) (hl : lv_has ls 4 (LL b h g i)) (hi : i + 6 ≤ L) (hr : cells + 4 ≤ 600000 ∧ slots + 406 ≤ 7302250) (kk : ∀ (cs1 : CS) (ms1 : MS) (H1 : Heap) (locs1 : List Loc), LI s A D h cy g gy cs1 ms1 H1 locs1 → W p l e room_1 s m #[Value.ref b] below meth c H1 locs1 (cells + 4) (slots + 406) Q (F0 m 1616 ls [])) : W p l e room_1 s m #[Value.ref b] below meth c H locs cells slots Q (F0 m 1436 ls []) := by
  obtain ⟨hx, hb, hml, hown, hts, hX, hbl, hbA, hA, hKC, hKM, hs, hL⟩ := F
  obtain ⟨hPC, hDC, hPM, hDM, hAp, hS, R⟩ := I
  obtain ⟨hr1, hr2⟩ := hr
  obtain ⟨r, ms1, hwr, hwc⟩ := s2_grown R (xs (i + 1)) (xs (i + 2))
  refine lv_aload_n hx hb dL_law_1436 rfl (lv_at hl 2 rfl) ?_
  refine la_arg (k := 1) hx hb hX hbl hbA hS (by omega) hL (lv_at hl 3 rfl) (lv_at hl 0 rfl) (by decide) dL_law_1437 dL_law_1438 dL_law_1439 dL_law_1440 dL_law_1441 ?_
  refine la_arg (k := 2) hx hb hX hbl hbA hS (by omega) hL (lv_at hl 3 rfl) (lv_at hl 0 rfl) (by decide) dL_law_1442 dL_law_1443 dL_law_1444 dL_law_1445 dL_law_1446 ?_
  refine lc_Vi (b := h 0) (As := [.int (xs (i + 1)), .int (xs (i + 2))]) (rest := []) (mc := 0) (ms := 0) (Y := wM g gy ms) clE_stable hs ⟨hx, hb, hml, hown, hts⟩ (cC_X11_grown l D h cy _ _ _ _ hwc) (cwV 2 hts gL_law_X11_grown rfl rfl rfl (by decide +kernel) ⟨Nat.le_of_ble_eq_true rfl, Nat.le_of_ble_eq_true rfl⟩) (va_recv hKC hPC (ci := 10) (q0 := 0) rfl rfl) hKC hPC hDC hS hA hPM hAp rfl hl.1 rfl (Nat.le_of_ble_eq_true rfl) dL_law_1447 ⟨show cells + 0 ≤ 600000 by omega, show slots + 0 ≤ 7302250 by omega⟩ (fun r1 cs1 H locs hw hPC hDC hS hPM hAp => ?_)
  obtain ⟨e1, R1⟩ := hw
  refine lv_aload_n hx hb dL_law_1450 rfl (lv_at hl 1 rfl) ?_
  refine la_arg (k := 1) hx hb hX hbl hbA hS (by omega) hL (lv_at hl 3 rfl) (lv_at hl 0 rfl) (by decide) dL_law_1451 dL_law_1452 dL_law_1453 dL_law_1454 dL_law_1455 ?_
  refine la_arg (k := 2) hx hb hX hbl hbA hS (by omega) hL (lv_at hl 3 rfl) (lv_at hl 0 rfl) (by decide) dL_law_1456 dL_law_1457 dL_law_1458 dL_law_1459 dL_law_1460 ?_
  refine lm_Vi (b := g 31) (As := [.int (xs (i + 1)), .int (xs (i + 2))]) (rest := [.int r1]) (Y := wC h cy cs1) ⟨hx, hb, hml, hown, hts⟩ (cM_grown l D g gy _ _ _ _ hwr) (cwV 2 hts gL_law_X12_grown rfl rfl rfl (by decide +kernel) ⟨Nat.le_of_ble_eq_true rfl, Nat.le_of_ble_eq_true rfl⟩) (va_recv hKM hPM (ci := 11) (q0 := 0) rfl rfl) hKM hPM hDM hS hA hPC hAp.sym rfl hl.1 rfl (Nat.le_of_ble_eq_true rfl) dL_law_1461 ⟨show cells + 0 ≤ 600000 by omega, show slots + 0 ≤ 7302250 by omega⟩ (fun r2 ms2 H locs hw hPM hDM hS hPC hAp => ?_)
  obtain ⟨e2, e3⟩ := hw
  refine lv_icmp_eq (tgt := 1616) hx hb dL_law_1464 (by decide) (fun _ => ?_) (fun hne => absurd (e1.trans e2.symm) hne)
  refine W.widen (k := cells + 4) (n := slots + 406) (by omega) (by omega) ?_
  exact kk cs1 ms2 H locs ⟨hPC, hDC, hPM, hDM, hAp.sym, hS, by rw [e3]; exact R1⟩
theorem lcase_39 (F : LF p m c s b L xs D cy gy A) (I : LI s A D h cy g gy cs ms H locs) (hl : lv_has ls 4 (LL b h g i)) (hi : i + 6 ≤ L) (hr : cells + 4 ≤ 600000 ∧ slots + 406 ≤ 7302250) (kk : ∀ (cs1 : CS) (ms1 : MS) (H1 : Heap) (locs1 : List Loc), LI s A D h cy g gy cs1 ms1 H1 locs1 → W p l e room_1 s m #[Value.ref b] below meth c H1 locs1 (cells + 4) (slots + 406) Q (F0 m 1616 ls [])) : W p l e room_1 s m #[Value.ref b] below meth c H locs cells slots Q (F0 m 1469 ls []) := by
  obtain ⟨hx, hb, hml, hown, hts, hX, hbl, hbA, hA, hKC, hKM, hs, hL⟩ := F
  obtain ⟨hPC, hDC, hPM, hDM, hAp, hS, R⟩ := I
  obtain ⟨hr1, hr2⟩ := hr
  obtain ⟨r, ms1, hwr, hwc⟩ := s2_whose R
  refine lv_aload_n hx hb dL_law_1469 rfl (lv_at hl 2 rfl) ?_
  refine lc_Vi (b := h 0) (As := []) (rest := []) (mc := 0) (ms := 0) (Y := wM g gy ms) clE_stable hs ⟨hx, hb, hml, hown, hts⟩ (cC_X11_whose l D h cy _ _ hwc) (cwV 0 hts gL_law_X11_whose rfl rfl rfl (by decide +kernel) ⟨Nat.le_of_ble_eq_true rfl, Nat.le_of_ble_eq_true rfl⟩) (va_recv hKC hPC (ci := 10) (q0 := 0) rfl rfl) hKC hPC hDC hS hA hPM hAp rfl hl.1 rfl (Nat.le_of_ble_eq_true rfl) dL_law_1470 ⟨show cells + 0 ≤ 600000 by omega, show slots + 0 ≤ 7302250 by omega⟩ (fun r1 cs1 H locs hw hPC hDC hS hPM hAp => ?_)
  obtain ⟨e1, R1⟩ := hw
  refine lv_aload_n hx hb dL_law_1473 rfl (lv_at hl 1 rfl) ?_
  refine lm_Vi (b := g 31) (As := []) (rest := [.int r1]) (Y := wC h cy cs1) ⟨hx, hb, hml, hown, hts⟩ (cM_whose l D g gy _ _ hwr) (cwV 0 hts gL_law_X12_whose rfl rfl rfl (by decide +kernel) ⟨Nat.le_of_ble_eq_true rfl, Nat.le_of_ble_eq_true rfl⟩) (va_recv hKM hPM (ci := 11) (q0 := 0) rfl rfl) hKM hPM hDM hS hA hPC hAp.sym rfl hl.1 rfl (Nat.le_of_ble_eq_true rfl) dL_law_1474 ⟨show cells + 0 ≤ 600000 by omega, show slots + 0 ≤ 7302250 by omega⟩ (fun r2 ms2 H locs hw hPM hDM hS hPC hAp => ?_)
  obtain ⟨e2, e3⟩ := hw
  refine lv_icmp_eq (tgt := 1616) hx hb dL_law_1477 (by decide) (fun _ => ?_) (fun hne => absurd (e1.trans e2.symm) hne)
  refine W.widen (k := cells + 4) (n := slots + 406) (by omega) (by omega) ?_
  exact kk cs1 ms2 H locs ⟨hPC, hDC, hPM, hDM, hAp.sym, hS, by rw [e3]; exact R1⟩
theorem lcase_40 (F : LF p m c s b L xs D cy gy A) (I : LI s A D h cy g gy cs ms H locs) (hl : lv_has ls 4 (LL b h g i)) (hi : i + 6 ≤ L) (hr : cells + 4 ≤ 600000 ∧ slots + 406 ≤ 7302250) (kk : ∀ (cs1 : CS) (ms1 : MS) (H1 : Heap) (locs1 : List Loc), LI s A D h cy g gy cs1 ms1 H1 locs1 → W p l e room_1 s m #[Value.ref b] below meth c H1 locs1 (cells + 4) (slots + 406) Q (F0 m 1616 ls [])) : W p l e room_1 s m #[Value.ref b] below meth c H locs cells slots Q (F0 m 1482 ls []) := by
  obtain ⟨hx, hb, hml, hown, hts, hX, hbl, hbA, hA, hKC, hKM, hs, hL⟩ := F
  obtain ⟨hPC, hDC, hPM, hDM, hAp, hS, R⟩ := I
  obtain ⟨hr1, hr2⟩ := hr
  obtain ⟨r, ms1, hwr, hwc⟩ := s2_clocks R (xs (i + 1))
  refine lv_aload_n hx hb dL_law_1482 rfl (lv_at hl 2 rfl) ?_
  refine la_arg (k := 1) hx hb hX hbl hbA hS (by omega) hL (lv_at hl 3 rfl) (lv_at hl 0 rfl) (by decide) dL_law_1483 dL_law_1484 dL_law_1485 dL_law_1486 dL_law_1487 ?_
  refine lc_Vi (b := h 0) (As := [.int (xs (i + 1))]) (rest := []) (mc := 0) (ms := 0) (Y := wM g gy ms) clE_stable hs ⟨hx, hb, hml, hown, hts⟩ (cC_X11_clocks l D h cy _ _ _ hwc) (cwV 1 hts gL_law_X11_clocks rfl rfl rfl (by decide +kernel) ⟨Nat.le_of_ble_eq_true rfl, Nat.le_of_ble_eq_true rfl⟩) (va_recv hKC hPC (ci := 10) (q0 := 0) rfl rfl) hKC hPC hDC hS hA hPM hAp rfl hl.1 rfl (Nat.le_of_ble_eq_true rfl) dL_law_1488 ⟨show cells + 0 ≤ 600000 by omega, show slots + 0 ≤ 7302250 by omega⟩ (fun r1 cs1 H locs hw hPC hDC hS hPM hAp => ?_)
  obtain ⟨e1, R1⟩ := hw
  refine lv_aload_n hx hb dL_law_1491 rfl (lv_at hl 1 rfl) ?_
  refine la_arg (k := 1) hx hb hX hbl hbA hS (by omega) hL (lv_at hl 3 rfl) (lv_at hl 0 rfl) (by decide) dL_law_1492 dL_law_1493 dL_law_1494 dL_law_1495 dL_law_1496 ?_
  refine lm_Vi (b := g 31) (As := [.int (xs (i + 1))]) (rest := [.int r1]) (Y := wC h cy cs1) ⟨hx, hb, hml, hown, hts⟩ (cM_clocks l D g gy _ _ _ hwr) (cwV 1 hts gL_law_X12_clocks rfl rfl rfl (by decide +kernel) ⟨Nat.le_of_ble_eq_true rfl, Nat.le_of_ble_eq_true rfl⟩) (va_recv hKM hPM (ci := 11) (q0 := 0) rfl rfl) hKM hPM hDM hS hA hPC hAp.sym rfl hl.1 rfl (Nat.le_of_ble_eq_true rfl) dL_law_1497 ⟨show cells + 0 ≤ 600000 by omega, show slots + 0 ≤ 7302250 by omega⟩ (fun r2 ms2 H locs hw hPM hDM hS hPC hAp => ?_)
  obtain ⟨e2, e3⟩ := hw
  refine lv_icmp_eq (tgt := 1616) hx hb dL_law_1500 (by decide) (fun _ => ?_) (fun hne => absurd (e1.trans e2.symm) hne)
  refine W.widen (k := cells + 4) (n := slots + 406) (by omega) (by omega) ?_
  exact kk cs1 ms2 H locs ⟨hPC, hDC, hPM, hDM, hAp.sym, hS, by rw [e3]; exact R1⟩
theorem lcase_41 (F : LF p m c s b L xs D cy gy A) (I : LI s A D h cy g gy cs ms H locs) (hl : lv_has ls 4 (LL b h g i)) (hi : i + 6 ≤ L) (hr : cells + 4 ≤ 600000 ∧ slots + 406 ≤ 7302250) (kk : ∀ (cs1 : CS) (ms1 : MS) (H1 : Heap) (locs1 : List Loc), LI s A D h cy g gy cs1 ms1 H1 locs1 → W p l e room_1 s m #[Value.ref b] below meth c H1 locs1 (cells + 4) (slots + 406) Q (F0 m 1616 ls [])) : W p l e room_1 s m #[Value.ref b] below meth c H locs cells slots Q (F0 m 1505 ls []) := by
  obtain ⟨hx, hb, hml, hown, hts, hX, hbl, hbA, hA, hKC, hKM, hs, hL⟩ := F
  obtain ⟨hPC, hDC, hPM, hDM, hAp, hS, R⟩ := I
  obtain ⟨hr1, hr2⟩ := hr
  obtain ⟨r, ms1, hwr, hwc⟩ := s2_saddest R
  refine lv_aload_n hx hb dL_law_1505 rfl (lv_at hl 2 rfl) ?_
  refine lc_Vi (b := h 0) (As := []) (rest := []) (mc := 0) (ms := 0) (Y := wM g gy ms) clE_stable hs ⟨hx, hb, hml, hown, hts⟩ (cC_X11_saddest l D h cy _ _ hwc) (cwV 0 hts gL_law_X11_saddest rfl rfl rfl (by decide +kernel) ⟨Nat.le_of_ble_eq_true rfl, Nat.le_of_ble_eq_true rfl⟩) (va_recv hKC hPC (ci := 10) (q0 := 0) rfl rfl) hKC hPC hDC hS hA hPM hAp rfl hl.1 rfl (Nat.le_of_ble_eq_true rfl) dL_law_1506 ⟨show cells + 0 ≤ 600000 by omega, show slots + 0 ≤ 7302250 by omega⟩ (fun r1 cs1 H locs hw hPC hDC hS hPM hAp => ?_)
  obtain ⟨e1, R1⟩ := hw
  refine lv_aload_n hx hb dL_law_1509 rfl (lv_at hl 1 rfl) ?_
  refine lm_Vi (b := g 31) (As := []) (rest := [.int r1]) (Y := wC h cy cs1) ⟨hx, hb, hml, hown, hts⟩ (cM_saddest l D g gy _ _ hwr) (cwV 0 hts gL_law_X12_saddest rfl rfl rfl (by decide +kernel) ⟨Nat.le_of_ble_eq_true rfl, Nat.le_of_ble_eq_true rfl⟩) (va_recv hKM hPM (ci := 11) (q0 := 0) rfl rfl) hKM hPM hDM hS hA hPC hAp.sym rfl hl.1 rfl (Nat.le_of_ble_eq_true rfl) dL_law_1510 ⟨show cells + 0 ≤ 600000 by omega, show slots + 0 ≤ 7302250 by omega⟩ (fun r2 ms2 H locs hw hPM hDM hS hPC hAp => ?_)
  obtain ⟨e2, e3⟩ := hw
  refine lv_icmp_eq (tgt := 1616) hx hb dL_law_1513 (by decide) (fun _ => ?_) (fun hne => absurd (e1.trans e2.symm) hne)
  refine W.widen (k := cells + 4) (n := slots + 406) (by omega) (by omega) ?_
  exact kk cs1 ms2 H locs ⟨hPC, hDC, hPM, hDM, hAp.sym, hS, by rw [e3]; exact R1⟩
theorem lcase_42 (F : LF p m c s b L xs D cy gy A) (I : LI s A D h cy g gy cs ms H locs) (hl : lv_has ls 4 (LL b h g i)) (hi : i + 6 ≤ L) (hr : cells + 4 ≤ 600000 ∧ slots + 406 ≤ 7302250) (kk : ∀ (cs1 : CS) (ms1 : MS) (H1 : Heap) (locs1 : List Loc), LI s A D h cy g gy cs1 ms1 H1 locs1 → W p l e room_1 s m #[Value.ref b] below meth c H1 locs1 (cells + 4) (slots + 406) Q (F0 m 1616 ls [])) : W p l e room_1 s m #[Value.ref b] below meth c H locs cells slots Q (F0 m 1518 ls []) := by
  obtain ⟨hx, hb, hml, hown, hts, hX, hbl, hbA, hA, hKC, hKM, hs, hL⟩ := F
  obtain ⟨hPC, hDC, hPM, hDM, hAp, hS, R⟩ := I
  obtain ⟨hr1, hr2⟩ := hr
  obtain ⟨r, ms1, hwr, hwc⟩ := s2_tiredest R
  refine lv_aload_n hx hb dL_law_1518 rfl (lv_at hl 2 rfl) ?_
  refine lc_Vi (b := h 0) (As := []) (rest := []) (mc := 0) (ms := 0) (Y := wM g gy ms) clE_stable hs ⟨hx, hb, hml, hown, hts⟩ (cC_X11_tiredest l D h cy _ _ hwc) (cwV 0 hts gL_law_X11_tiredest rfl rfl rfl (by decide +kernel) ⟨Nat.le_of_ble_eq_true rfl, Nat.le_of_ble_eq_true rfl⟩) (va_recv hKC hPC (ci := 10) (q0 := 0) rfl rfl) hKC hPC hDC hS hA hPM hAp rfl hl.1 rfl (Nat.le_of_ble_eq_true rfl) dL_law_1519 ⟨show cells + 0 ≤ 600000 by omega, show slots + 0 ≤ 7302250 by omega⟩ (fun r1 cs1 H locs hw hPC hDC hS hPM hAp => ?_)
  obtain ⟨e1, R1⟩ := hw
  refine lv_aload_n hx hb dL_law_1522 rfl (lv_at hl 1 rfl) ?_
  refine lm_Vi (b := g 31) (As := []) (rest := [.int r1]) (Y := wC h cy cs1) ⟨hx, hb, hml, hown, hts⟩ (cM_tiredest l D g gy _ _ hwr) (cwV 0 hts gL_law_X12_tiredest rfl rfl rfl (by decide +kernel) ⟨Nat.le_of_ble_eq_true rfl, Nat.le_of_ble_eq_true rfl⟩) (va_recv hKM hPM (ci := 11) (q0 := 0) rfl rfl) hKM hPM hDM hS hA hPC hAp.sym rfl hl.1 rfl (Nat.le_of_ble_eq_true rfl) dL_law_1523 ⟨show cells + 0 ≤ 600000 by omega, show slots + 0 ≤ 7302250 by omega⟩ (fun r2 ms2 H locs hw hPM hDM hS hPC hAp => ?_)
  obtain ⟨e2, e3⟩ := hw
  refine lv_icmp_eq (tgt := 1616) hx hb dL_law_1526 (by decide) (fun _ => ?_) (fun hne => absurd (e1.trans e2.symm) hne)
  refine W.widen (k := cells + 4) (n := slots + 406) (by omega) (by omega) ?_
  exact kk cs1 ms2 H locs ⟨hPC, hDC, hPM, hDM, hAp.sym, hS, by rw [e3]; exact R1⟩
theorem lcase_43 (F : LF p m c s b L xs D cy gy A) (I : LI s A D h cy g gy cs ms H locs) (hl : lv_has ls 4 (LL b h g i)) (hi : i + 6 ≤ L) (hr : cells + 4 ≤ 600000 ∧ slots + 406 ≤ 7302250) (kk : ∀ (cs1 : CS) (ms1 : MS) (H1 : Heap) (locs1 : List Loc), LI s A D h cy g gy cs1 ms1 H1 locs1 → W p l e room_1 s m #[Value.ref b] below meth c H1 locs1 (cells + 4) (slots + 406) Q (F0 m 1616 ls [])) : W p l e room_1 s m #[Value.ref b] below meth c H locs cells slots Q (F0 m 1531 ls []) := by
  obtain ⟨hx, hb, hml, hown, hts, hX, hbl, hbA, hA, hKC, hKM, hs, hL⟩ := F
  obtain ⟨hPC, hDC, hPM, hDM, hAp, hS, R⟩ := I
  obtain ⟨hr1, hr2⟩ := hr
  obtain ⟨r, ms1, hwr, hwc⟩ := s2_sitting R
  refine lv_aload_n hx hb dL_law_1531 rfl (lv_at hl 2 rfl) ?_
  refine lc_Vi (b := h 0) (As := []) (rest := []) (mc := 0) (ms := 0) (Y := wM g gy ms) clE_stable hs ⟨hx, hb, hml, hown, hts⟩ (cC_X11_sitting l D h cy _ _ hwc) (cwV 0 hts gL_law_X11_sitting rfl rfl rfl (by decide +kernel) ⟨Nat.le_of_ble_eq_true rfl, Nat.le_of_ble_eq_true rfl⟩) (va_recv hKC hPC (ci := 10) (q0 := 0) rfl rfl) hKC hPC hDC hS hA hPM hAp rfl hl.1 rfl (Nat.le_of_ble_eq_true rfl) dL_law_1532 ⟨show cells + 0 ≤ 600000 by omega, show slots + 0 ≤ 7302250 by omega⟩ (fun r1 cs1 H locs hw hPC hDC hS hPM hAp => ?_)
  obtain ⟨e1, R1⟩ := hw
  refine lv_aload_n hx hb dL_law_1535 rfl (lv_at hl 1 rfl) ?_
  refine lm_Vi (b := g 31) (As := []) (rest := [.int r1]) (Y := wC h cy cs1) ⟨hx, hb, hml, hown, hts⟩ (cM_sitting l D g gy _ _ hwr) (cwV 0 hts gL_law_X12_sitting rfl rfl rfl (by decide +kernel) ⟨Nat.le_of_ble_eq_true rfl, Nat.le_of_ble_eq_true rfl⟩) (va_recv hKM hPM (ci := 11) (q0 := 0) rfl rfl) hKM hPM hDM hS hA hPC hAp.sym rfl hl.1 rfl (Nat.le_of_ble_eq_true rfl) dL_law_1536 ⟨show cells + 0 ≤ 600000 by omega, show slots + 0 ≤ 7302250 by omega⟩ (fun r2 ms2 H locs hw hPM hDM hS hPC hAp => ?_)
  obtain ⟨e2, e3⟩ := hw
  refine lv_icmp_eq (tgt := 1616) hx hb dL_law_1539 (by decide) (fun _ => ?_) (fun hne => absurd (e1.trans e2.symm) hne)
  refine W.widen (k := cells + 4) (n := slots + 406) (by omega) (by omega) ?_
  exact kk cs1 ms2 H locs ⟨hPC, hDC, hPM, hDM, hAp.sym, hS, by rw [e3]; exact R1⟩
theorem lcase_44 (F : LF p m c s b L xs D cy gy A) (I : LI s A D h cy g gy cs ms H locs) (hl : lv_has ls 4 (LL b h g i)) (hi : i + 6 ≤ L) (hr : cells + 4 ≤ 600000 ∧ slots + 406 ≤ 7302250) (kk : ∀ (cs1 : CS) (ms1 : MS) (H1 : Heap) (locs1 : List Loc), LI s A D h cy g gy cs1 ms1 H1 locs1 → W p l e room_1 s m #[Value.ref b] below meth c H1 locs1 (cells + 4) (slots + 406) Q (F0 m 1616 ls [])) : W p l e room_1 s m #[Value.ref b] below meth c H locs cells slots Q (F0 m 1544 ls []) := by
  obtain ⟨hx, hb, hml, hown, hts, hX, hbl, hbA, hA, hKC, hKM, hs, hL⟩ := F
  obtain ⟨hPC, hDC, hPM, hDM, hAp, hS, R⟩ := I
  obtain ⟨hr1, hr2⟩ := hr
  obtain ⟨r, ms1, hwr, hwc⟩ := s2_ledger R (xs (i + 1))
  refine lv_aload_n hx hb dL_law_1544 rfl (lv_at hl 2 rfl) ?_
  refine la_arg (k := 1) hx hb hX hbl hbA hS (by omega) hL (lv_at hl 3 rfl) (lv_at hl 0 rfl) (by decide) dL_law_1545 dL_law_1546 dL_law_1547 dL_law_1548 dL_law_1549 ?_
  refine lc_Vi (b := h 0) (As := [.int (xs (i + 1))]) (rest := []) (mc := 0) (ms := 0) (Y := wM g gy ms) clE_stable hs ⟨hx, hb, hml, hown, hts⟩ (cC_X11_ledger l D h cy _ _ _ hwc) (cwV 1 hts gL_law_X11_ledger rfl rfl rfl (by decide +kernel) ⟨Nat.le_of_ble_eq_true rfl, Nat.le_of_ble_eq_true rfl⟩) (va_recv hKC hPC (ci := 10) (q0 := 0) rfl rfl) hKC hPC hDC hS hA hPM hAp rfl hl.1 rfl (Nat.le_of_ble_eq_true rfl) dL_law_1550 ⟨show cells + 0 ≤ 600000 by omega, show slots + 0 ≤ 7302250 by omega⟩ (fun r1 cs1 H locs hw hPC hDC hS hPM hAp => ?_)
  obtain ⟨e1, R1⟩ := hw
  refine lv_aload_n hx hb dL_law_1553 rfl (lv_at hl 1 rfl) ?_
  refine la_arg (k := 1) hx hb hX hbl hbA hS (by omega) hL (lv_at hl 3 rfl) (lv_at hl 0 rfl) (by decide) dL_law_1554 dL_law_1555 dL_law_1556 dL_law_1557 dL_law_1558 ?_
  refine lm_Vi (b := g 31) (As := [.int (xs (i + 1))]) (rest := [.int r1]) (Y := wC h cy cs1) ⟨hx, hb, hml, hown, hts⟩ (cM_ledger l D g gy _ _ _ hwr) (cwV 1 hts gL_law_X12_ledger rfl rfl rfl (by decide +kernel) ⟨Nat.le_of_ble_eq_true rfl, Nat.le_of_ble_eq_true rfl⟩) (va_recv hKM hPM (ci := 11) (q0 := 0) rfl rfl) hKM hPM hDM hS hA hPC hAp.sym rfl hl.1 rfl (Nat.le_of_ble_eq_true rfl) dL_law_1559 ⟨show cells + 0 ≤ 600000 by omega, show slots + 0 ≤ 7302250 by omega⟩ (fun r2 ms2 H locs hw hPM hDM hS hPC hAp => ?_)
  obtain ⟨e2, e3⟩ := hw
  refine lv_icmp_eq (tgt := 1616) hx hb dL_law_1562 (by decide) (fun _ => ?_) (fun hne => absurd (e1.trans e2.symm) hne)
  refine W.widen (k := cells + 4) (n := slots + 406) (by omega) (by omega) ?_
  exact kk cs1 ms2 H locs ⟨hPC, hDC, hPM, hDM, hAp.sym, hS, by rw [e3]; exact R1⟩
theorem lcase_45 (F : LF p m c s b L xs D cy gy A) (I : LI s A D h cy g gy cs ms H locs) (hl : lv_has ls 4 (LL b h g i)) (hi : i + 6 ≤ L) (hr : cells + 4 ≤ 600000 ∧ slots + 406 ≤ 7302250) (kk : ∀ (cs1 : CS) (ms1 : MS) (H1 : Heap) (locs1 : List Loc), LI s A D h cy g gy cs1 ms1 H1 locs1 → W p l e room_1 s m #[Value.ref b] below meth c H1 locs1 (cells + 4) (slots + 406) Q (F0 m 1616 ls [])) : W p l e room_1 s m #[Value.ref b] below meth c H locs cells slots Q (F0 m 1567 ls []) := by
  obtain ⟨hx, hb, hml, hown, hts, hX, hbl, hbA, hA, hKC, hKM, hs, hL⟩ := F
  obtain ⟨hPC, hDC, hPM, hDM, hAp, hS, R⟩ := I
  obtain ⟨hr1, hr2⟩ := hr
  obtain ⟨r, ms1, hwr, hwc⟩ := s2_image R
  refine lv_aload_n hx hb dL_law_1567 rfl (lv_at hl 2 rfl) ?_
  refine lc_Vi (b := h 0) (As := []) (rest := []) (mc := 0) (ms := 0) (Y := wM g gy ms) clE_stable hs ⟨hx, hb, hml, hown, hts⟩ (cC_X11_image l D h cy _ _ hwc) (cwV 0 hts gL_law_X11_image rfl rfl rfl (by decide +kernel) ⟨Nat.le_of_ble_eq_true rfl, Nat.le_of_ble_eq_true rfl⟩) (va_recv hKC hPC (ci := 10) (q0 := 0) rfl rfl) hKC hPC hDC hS hA hPM hAp rfl hl.1 rfl (Nat.le_of_ble_eq_true rfl) dL_law_1568 ⟨show cells + 0 ≤ 600000 by omega, show slots + 0 ≤ 7302250 by omega⟩ (fun r1 cs1 H locs hw hPC hDC hS hPM hAp => ?_)
  obtain ⟨e1, R1⟩ := hw
  refine lv_aload_n hx hb dL_law_1571 rfl (lv_at hl 1 rfl) ?_
  refine lm_Vi (b := g 31) (As := []) (rest := [.int r1]) (Y := wC h cy cs1) ⟨hx, hb, hml, hown, hts⟩ (cM_image l D g gy _ _ hwr) (cwV 0 hts gL_law_X12_image rfl rfl rfl (by decide +kernel) ⟨Nat.le_of_ble_eq_true rfl, Nat.le_of_ble_eq_true rfl⟩) (va_recv hKM hPM (ci := 11) (q0 := 0) rfl rfl) hKM hPM hDM hS hA hPC hAp.sym rfl hl.1 rfl (Nat.le_of_ble_eq_true rfl) dL_law_1572 ⟨show cells + 0 ≤ 600000 by omega, show slots + 0 ≤ 7302250 by omega⟩ (fun r2 ms2 H locs hw hPM hDM hS hPC hAp => ?_)
  obtain ⟨e2, e3⟩ := hw
  refine lv_icmp_eq (tgt := 1616) hx hb dL_law_1575 (by decide) (fun _ => ?_) (fun hne => absurd (e1.trans e2.symm) hne)
  refine W.widen (k := cells + 4) (n := slots + 406) (by omega) (by omega) ?_
  exact kk cs1 ms2 H locs ⟨hPC, hDC, hPM, hDM, hAp.sym, hS, by rw [e3]; exact R1⟩
theorem lcase_46 (F : LF p m c s b L xs D cy gy A) (I : LI s A D h cy g gy cs ms H locs) (hl : lv_has ls 4 (LL b h g i)) (hi : i + 6 ≤ L) (hr : cells + 4 ≤ 600000 ∧ slots + 406 ≤ 7302250) (kk : ∀ (cs1 : CS) (ms1 : MS) (H1 : Heap) (locs1 : List Loc), LI s A D h cy g gy cs1 ms1 H1 locs1 → W p l e room_1 s m #[Value.ref b] below meth c H1 locs1 (cells + 4) (slots + 406) Q (F0 m 1616 ls [])) : W p l e room_1 s m #[Value.ref b] below meth c H locs cells slots Q (F0 m 1580 ls []) := by
  obtain ⟨hx, hb, hml, hown, hts, hX, hbl, hbA, hA, hKC, hKM, hs, hL⟩ := F
  obtain ⟨hPC, hDC, hPM, hDM, hAp, hS, R⟩ := I
  obtain ⟨hr1, hr2⟩ := hr
  obtain ⟨r, ms1, hwr, hwc⟩ := s2_back R
  refine lv_aload_n hx hb dL_law_1580 rfl (lv_at hl 2 rfl) ?_
  refine lc_Vi (b := h 0) (As := []) (rest := []) (mc := 0) (ms := 0) (Y := wM g gy ms) clE_stable hs ⟨hx, hb, hml, hown, hts⟩ (cC_X11_back l D h cy _ _ hwc) (cwV 0 hts gL_law_X11_back rfl rfl rfl (by decide +kernel) ⟨Nat.le_of_ble_eq_true rfl, Nat.le_of_ble_eq_true rfl⟩) (va_recv hKC hPC (ci := 10) (q0 := 0) rfl rfl) hKC hPC hDC hS hA hPM hAp rfl hl.1 rfl (Nat.le_of_ble_eq_true rfl) dL_law_1581 ⟨show cells + 0 ≤ 600000 by omega, show slots + 0 ≤ 7302250 by omega⟩ (fun r1 cs1 H locs hw hPC hDC hS hPM hAp => ?_)
  obtain ⟨e1, R1⟩ := hw
  refine lv_aload_n hx hb dL_law_1584 rfl (lv_at hl 1 rfl) ?_
  refine lm_Vi (b := g 31) (As := []) (rest := [.int r1]) (Y := wC h cy cs1) ⟨hx, hb, hml, hown, hts⟩ (cM_back l D g gy _ _ hwr) (cwV 0 hts gL_law_X12_back rfl rfl rfl (by decide +kernel) ⟨Nat.le_of_ble_eq_true rfl, Nat.le_of_ble_eq_true rfl⟩) (va_recv hKM hPM (ci := 11) (q0 := 0) rfl rfl) hKM hPM hDM hS hA hPC hAp.sym rfl hl.1 rfl (Nat.le_of_ble_eq_true rfl) dL_law_1585 ⟨show cells + 0 ≤ 600000 by omega, show slots + 0 ≤ 7302250 by omega⟩ (fun r2 ms2 H locs hw hPM hDM hS hPC hAp => ?_)
  obtain ⟨e2, e3⟩ := hw
  refine lv_icmp_eq (tgt := 1616) hx hb dL_law_1588 (by decide) (fun _ => ?_) (fun hne => absurd (e1.trans e2.symm) hne)
  refine W.widen (k := cells + 4) (n := slots + 406) (by omega) (by omega) ?_
  exact kk cs1 ms2 H locs ⟨hPC, hDC, hPM, hDM, hAp.sym, hS, by rw [e3]; exact R1⟩
theorem lcase_47 (F : LF p m c s b L xs D cy gy A) (I : LI s A D h cy g gy cs ms H locs) (hl : lv_has ls 4 (LL b h g i)) (hi : i + 6 ≤ L) (hr : cells + 4 ≤ 600000 ∧ slots + 406 ≤ 7302250) (kk : ∀ (cs1 : CS) (ms1 : MS) (H1 : Heap) (locs1 : List Loc), LI s A D h cy g gy cs1 ms1 H1 locs1 → W p l e room_1 s m #[Value.ref b] below meth c H1 locs1 (cells + 4) (slots + 406) Q (F0 m 1616 ls [])) : W p l e room_1 s m #[Value.ref b] below meth c H locs cells slots Q (F0 m 1593 ls []) := by
  obtain ⟨hx, hb, hml, hown, hts, hX, hbl, hbA, hA, hKC, hKM, hs, hL⟩ := F
  obtain ⟨hPC, hDC, hPM, hDM, hAp, hS, R⟩ := I
  obtain ⟨hr1, hr2⟩ := hr
  obtain ⟨r, ms1, hwr, hwc⟩ := s2_about R (xs (i + 1))
  refine lv_aload_n hx hb dL_law_1593 rfl (lv_at hl 2 rfl) ?_
  refine la_arg (k := 1) hx hb hX hbl hbA hS (by omega) hL (lv_at hl 3 rfl) (lv_at hl 0 rfl) (by decide) dL_law_1594 dL_law_1595 dL_law_1596 dL_law_1597 dL_law_1598 ?_
  refine lc_Vi (b := h 0) (As := [.int (xs (i + 1))]) (rest := []) (mc := 0) (ms := 0) (Y := wM g gy ms) clE_stable hs ⟨hx, hb, hml, hown, hts⟩ (cC_X11_about l D h cy _ _ _ hwc) (cwV 1 hts gL_law_X11_about rfl rfl rfl (by decide +kernel) ⟨Nat.le_of_ble_eq_true rfl, Nat.le_of_ble_eq_true rfl⟩) (va_recv hKC hPC (ci := 10) (q0 := 0) rfl rfl) hKC hPC hDC hS hA hPM hAp rfl hl.1 rfl (Nat.le_of_ble_eq_true rfl) dL_law_1599 ⟨show cells + 0 ≤ 600000 by omega, show slots + 0 ≤ 7302250 by omega⟩ (fun r1 cs1 H locs hw hPC hDC hS hPM hAp => ?_)
  obtain ⟨e1, R1⟩ := hw
  refine lv_aload_n hx hb dL_law_1602 rfl (lv_at hl 1 rfl) ?_
  refine la_arg (k := 1) hx hb hX hbl hbA hS (by omega) hL (lv_at hl 3 rfl) (lv_at hl 0 rfl) (by decide) dL_law_1603 dL_law_1604 dL_law_1605 dL_law_1606 dL_law_1607 ?_
  refine lm_Vi (b := g 31) (As := [.int (xs (i + 1))]) (rest := [.int r1]) (Y := wC h cy cs1) ⟨hx, hb, hml, hown, hts⟩ (cM_about l D g gy _ _ _ hwr) (cwV 1 hts gL_law_X12_about rfl rfl rfl (by decide +kernel) ⟨Nat.le_of_ble_eq_true rfl, Nat.le_of_ble_eq_true rfl⟩) (va_recv hKM hPM (ci := 11) (q0 := 0) rfl rfl) hKM hPM hDM hS hA hPC hAp.sym rfl hl.1 rfl (Nat.le_of_ble_eq_true rfl) dL_law_1608 ⟨show cells + 0 ≤ 600000 by omega, show slots + 0 ≤ 7302250 by omega⟩ (fun r2 ms2 H locs hw hPM hDM hS hPC hAp => ?_)
  obtain ⟨e2, e3⟩ := hw
  refine lv_icmp_eq (tgt := 1616) hx hb dL_law_1611 (by decide) (fun _ => ?_) (fun hne => absurd (e1.trans e2.symm) hne)
  refine W.widen (k := cells + 4) (n := slots + 406) (by omega) (by omega) ?_
  exact kk cs1 ms2 H locs ⟨hPC, hDC, hPM, hDM, hAp.sym, hS, by rw [e3]; exact R1⟩
end LCASE
