/-! the law's loop -/
theorem la_end {L i : Nat} (hL : L ≤ 3072) (hi : i ≤ 3078) : nI L - 6 < nI i ↔ L < i + 6 := by
  by_cases h6 : L < 6
  · have h0 : nI L - 6 < 0 := by
      rcases (show L = 0 ∨ L = 1 ∨ L = 2 ∨ L = 3 ∨ L = 4 ∨ L = 5 by omega) with rfl | rfl | rfl | rfl | rfl | rfl <;> decide +kernel
    exact ⟨fun _ => by omega, fun _ => Int32.lt_iff_toInt_lt.mpr (Int.lt_of_lt_of_le (Int32.lt_iff_toInt_lt.mp h0) (Int32.le_iff_toInt_le.mp (nI_pos' (n := i) (by omega))))⟩
  · have e : nI L - 6 = nI (L - 6) := by
      have h1 := nI_add (L - 6) 6
      rw [show L - 6 + 6 = L by omega] at h1
      rw [← h1]
      exact Int32.add_sub_cancel _ _
    rw [e, nI_ltI (by omega) (by omega)]
    omega
section LLOOP
variable {p : Program} {l : Launch} {e : Env} {s : State} {m : MethodId} {below : List Frame} {meth : Method} {c : Code} {H : Heap} {locs : List Loc} {cells slots : Nat} {Q : State → Prop} {D : va_G} {h g : Nat → Nat} {cy gy : Nat → ClassId} {cs : CS} {ms : MS} {ls : Array Slot} {A : Nat → Prop} {b L i : Nat} {xs : Nat → Int32}
theorem la_head (F : LF p m c s b L xs D cy gy A) (I : LI s A D h cy g gy cs ms H locs) (hl : lv_has ls 4 (LL b h g i)) (hi : i ≤ 3078) (kt : L < i + 6 → W p l e room_1 s m #[Value.ref b] below meth c H locs cells slots Q (F0 m 1622 ls [])) (kf : i + 6 ≤ L → W p l e room_1 s m #[Value.ref b] below meth c H locs cells slots Q (F0 m 27 ls [])) : W p l e room_1 s m #[Value.ref b] below meth c H locs cells slots Q (F0 m 18 ls []) := by
  obtain ⟨hx, hb, hml, hown, hts, hX, hbl, hbA, hA, hKC, hKM, hs, hL⟩ := F
  obtain ⟨hPC, hDC, hPM, hDM, hAp, hS, R⟩ := I
  refine lv_iload_n hx hb dL_law_18 rfl (lv_at hl 0 rfl) (lv_aload_n hx hb dL_law_19 rfl (lv_at hl 3 rfl) (va_slen hx hb hX hbl hbA hS dL_law_20 (lv_bipush (v := 6) hx hb dL_law_21 (by decide) (lv_isub hx hb dL_law_23 (lv_icmp_gt (tgt := 1622) hx hb dL_law_24 (by decide) (fun q => kt ((la_end hL hi).mp q)) (fun q => kf (Nat.le_of_not_lt fun h9 => q ((la_end hL hi).mpr h9))))))))
theorem la_pick (F : LF p m c s b L xs D cy gy A) (I : LI s A D h cy g gy cs ms H locs) (hl : lv_has ls 4 (LL b h g i)) (hi : i + 6 ≤ L) (hr : cells + 4 ≤ 600000 ∧ slots + 406 ≤ 7302250) (kk : ∀ (cs1 : CS) (ms1 : MS) (H1 : Heap) (locs1 : List Loc), LI s A D h cy g gy cs1 ms1 H1 locs1 → W p l e room_1 s m #[Value.ref b] below meth c H1 locs1 (cells + 4) (slots + 406) Q (F0 m 1616 ls [])) : W p l e room_1 s m #[Value.ref b] below meth c H locs cells slots Q (F0 m 27 ls []) := by
  have F0' := F
  have I0 := I
  obtain ⟨hx, hb, hml, hown, hts, hX, hbl, hbA, hA, hKC, hKM, hs, hL⟩ := F
  obtain ⟨hPC, hDC, hPM, hDM, hAp, hS, R⟩ := I
  refine lv_aload_n hx hb dL_law_27 rfl (lv_at hl 3 rfl) (lv_iload_n hx hb dL_law_28 rfl (lv_at hl 0 rfl) (va_sld hx hb hX hbl hbA hS (vp_in_nI (show i < L by omega) (by omega)) dL_law_29 ?_))
  refine lv_bipush (v := 63) hx hb dL_law_30 (by decide) (lv_iand hx hb dL_law_32 ?_)
  rw [nI_clamp (by omega), pk_and (xs i) (m := 63) 6 (by decide)]
  have hk : (xs i).toBitVec.toNat % 2 ^ 6 < 64 := Nat.mod_lt _ (by decide)
  generalize (xs i).toBitVec.toNat % 2 ^ 6 = k at hk ⊢
  by_cases h48 : k < 48
  · clear hk
    rcases Nat.lt_or_eq_of_le (Nat.le_of_lt_succ (n := 47) h48) with h48 | rfl
    rotate_left
    · exact lv_tableIn (off := 1560) (tgt := 1593) hx hb dL_law_33 (by decide) (by decide) (by decide +kernel) (by decide) (lcase_47 F0' I0 hl hi hr kk)
    rcases Nat.lt_or_eq_of_le (Nat.le_of_lt_succ (n := 46) h48) with h48 | rfl
    rotate_left
    · exact lv_tableIn (off := 1547) (tgt := 1580) hx hb dL_law_33 (by decide) (by decide) (by decide +kernel) (by decide) (lcase_46 F0' I0 hl hi hr kk)
    rcases Nat.lt_or_eq_of_le (Nat.le_of_lt_succ (n := 45) h48) with h48 | rfl
    rotate_left
    · exact lv_tableIn (off := 1534) (tgt := 1567) hx hb dL_law_33 (by decide) (by decide) (by decide +kernel) (by decide) (lcase_45 F0' I0 hl hi hr kk)
    rcases Nat.lt_or_eq_of_le (Nat.le_of_lt_succ (n := 44) h48) with h48 | rfl
    rotate_left
    · exact lv_tableIn (off := 1511) (tgt := 1544) hx hb dL_law_33 (by decide) (by decide) (by decide +kernel) (by decide) (lcase_44 F0' I0 hl hi hr kk)
    rcases Nat.lt_or_eq_of_le (Nat.le_of_lt_succ (n := 43) h48) with h48 | rfl
    rotate_left
    · exact lv_tableIn (off := 1498) (tgt := 1531) hx hb dL_law_33 (by decide) (by decide) (by decide +kernel) (by decide) (lcase_43 F0' I0 hl hi hr kk)
    rcases Nat.lt_or_eq_of_le (Nat.le_of_lt_succ (n := 42) h48) with h48 | rfl
    rotate_left
    · exact lv_tableIn (off := 1485) (tgt := 1518) hx hb dL_law_33 (by decide) (by decide) (by decide +kernel) (by decide) (lcase_42 F0' I0 hl hi hr kk)
    rcases Nat.lt_or_eq_of_le (Nat.le_of_lt_succ (n := 41) h48) with h48 | rfl
    rotate_left
    · exact lv_tableIn (off := 1472) (tgt := 1505) hx hb dL_law_33 (by decide) (by decide) (by decide +kernel) (by decide) (lcase_41 F0' I0 hl hi hr kk)
    rcases Nat.lt_or_eq_of_le (Nat.le_of_lt_succ (n := 40) h48) with h48 | rfl
    rotate_left
    · exact lv_tableIn (off := 1449) (tgt := 1482) hx hb dL_law_33 (by decide) (by decide) (by decide +kernel) (by decide) (lcase_40 F0' I0 hl hi hr kk)
    rcases Nat.lt_or_eq_of_le (Nat.le_of_lt_succ (n := 39) h48) with h48 | rfl
    rotate_left
    · exact lv_tableIn (off := 1436) (tgt := 1469) hx hb dL_law_33 (by decide) (by decide) (by decide +kernel) (by decide) (lcase_39 F0' I0 hl hi hr kk)
    rcases Nat.lt_or_eq_of_le (Nat.le_of_lt_succ (n := 38) h48) with h48 | rfl
    rotate_left
    · exact lv_tableIn (off := 1403) (tgt := 1436) hx hb dL_law_33 (by decide) (by decide) (by decide +kernel) (by decide) (lcase_38 F0' I0 hl hi hr kk)
    rcases Nat.lt_or_eq_of_le (Nat.le_of_lt_succ (n := 37) h48) with h48 | rfl
    rotate_left
    · exact lv_tableIn (off := 1380) (tgt := 1413) hx hb dL_law_33 (by decide) (by decide) (by decide +kernel) (by decide) (lcase_37 F0' I0 hl hi hr kk)
    rcases Nat.lt_or_eq_of_le (Nat.le_of_lt_succ (n := 36) h48) with h48 | rfl
    rotate_left
    · exact lv_tableIn (off := 1347) (tgt := 1380) hx hb dL_law_33 (by decide) (by decide) (by decide +kernel) (by decide) (lcase_36 F0' I0 hl hi hr kk)
    rcases Nat.lt_or_eq_of_le (Nat.le_of_lt_succ (n := 35) h48) with h48 | rfl
    rotate_left
    · exact lv_tableIn (off := 1294) (tgt := 1327) hx hb dL_law_33 (by decide) (by decide) (by decide +kernel) (by decide) (lcase_35 F0' I0 hl hi hr kk)
    rcases Nat.lt_or_eq_of_le (Nat.le_of_lt_succ (n := 34) h48) with h48 | rfl
    rotate_left
    · exact lv_tableIn (off := 1235) (tgt := 1268) hx hb dL_law_33 (by decide) (by decide) (by decide +kernel) (by decide) (lcase_34 F0' I0 hl hi hr kk)
    rcases Nat.lt_or_eq_of_le (Nat.le_of_lt_succ (n := 33) h48) with h48 | rfl
    rotate_left
    · exact lv_tableIn (off := 1202) (tgt := 1235) hx hb dL_law_33 (by decide) (by decide) (by decide +kernel) (by decide) (lcase_33 F0' I0 hl hi hr kk)
    rcases Nat.lt_or_eq_of_le (Nat.le_of_lt_succ (n := 32) h48) with h48 | rfl
    rotate_left
    · exact lv_tableIn (off := 1179) (tgt := 1212) hx hb dL_law_33 (by decide) (by decide) (by decide +kernel) (by decide) (lcase_32 F0' I0 hl hi hr kk)
    rcases Nat.lt_or_eq_of_le (Nat.le_of_lt_succ (n := 31) h48) with h48 | rfl
    rotate_left
    · exact lv_tableIn (off := 1156) (tgt := 1189) hx hb dL_law_33 (by decide) (by decide) (by decide +kernel) (by decide) (lcase_31 F0' I0 hl hi hr kk)
    rcases Nat.lt_or_eq_of_le (Nat.le_of_lt_succ (n := 30) h48) with h48 | rfl
    rotate_left
    · exact lv_tableIn (off := 1107) (tgt := 1140) hx hb dL_law_33 (by decide) (by decide) (by decide +kernel) (by decide) (lcase_30 F0' I0 hl hi hr kk)
    rcases Nat.lt_or_eq_of_le (Nat.le_of_lt_succ (n := 29) h48) with h48 | rfl
    rotate_left
    · exact lv_tableIn (off := 1084) (tgt := 1117) hx hb dL_law_33 (by decide) (by decide) (by decide +kernel) (by decide) (lcase_29 F0' I0 hl hi hr kk)
    rcases Nat.lt_or_eq_of_le (Nat.le_of_lt_succ (n := 28) h48) with h48 | rfl
    rotate_left
    · exact lv_tableIn (off := 1041) (tgt := 1074) hx hb dL_law_33 (by decide) (by decide) (by decide +kernel) (by decide) (lcase_28 F0' I0 hl hi hr kk)
    rcases Nat.lt_or_eq_of_le (Nat.le_of_lt_succ (n := 27) h48) with h48 | rfl
    rotate_left
    · exact lv_tableIn (off := 1018) (tgt := 1051) hx hb dL_law_33 (by decide) (by decide) (by decide +kernel) (by decide) (lcase_27 F0' I0 hl hi hr kk)
    rcases Nat.lt_or_eq_of_le (Nat.le_of_lt_succ (n := 26) h48) with h48 | rfl
    rotate_left
    · exact lv_tableIn (off := 975) (tgt := 1008) hx hb dL_law_33 (by decide) (by decide) (by decide +kernel) (by decide) (lcase_26 F0' I0 hl hi hr kk)
    rcases Nat.lt_or_eq_of_le (Nat.le_of_lt_succ (n := 25) h48) with h48 | rfl
    rotate_left
    · exact lv_tableIn (off := 952) (tgt := 985) hx hb dL_law_33 (by decide) (by decide) (by decide +kernel) (by decide) (lcase_25 F0' I0 hl hi hr kk)
    rcases Nat.lt_or_eq_of_le (Nat.le_of_lt_succ (n := 24) h48) with h48 | rfl
    rotate_left
    · exact lv_tableIn (off := 919) (tgt := 952) hx hb dL_law_33 (by decide) (by decide) (by decide +kernel) (by decide) (lcase_24 F0' I0 hl hi hr kk)
    rcases Nat.lt_or_eq_of_le (Nat.le_of_lt_succ (n := 23) h48) with h48 | rfl
    rotate_left
    · exact lv_tableIn (off := 886) (tgt := 919) hx hb dL_law_33 (by decide) (by decide) (by decide +kernel) (by decide) (lcase_23 F0' I0 hl hi hr kk)
    rcases Nat.lt_or_eq_of_le (Nat.le_of_lt_succ (n := 22) h48) with h48 | rfl
    rotate_left
    · exact lv_tableIn (off := 863) (tgt := 896) hx hb dL_law_33 (by decide) (by decide) (by decide +kernel) (by decide) (lcase_22 F0' I0 hl hi hr kk)
    rcases Nat.lt_or_eq_of_le (Nat.le_of_lt_succ (n := 21) h48) with h48 | rfl
    rotate_left
    · exact lv_tableIn (off := 830) (tgt := 863) hx hb dL_law_33 (by decide) (by decide) (by decide +kernel) (by decide) (lcase_21 F0' I0 hl hi hr kk)
    rcases Nat.lt_or_eq_of_le (Nat.le_of_lt_succ (n := 20) h48) with h48 | rfl
    rotate_left
    · exact lv_tableIn (off := 797) (tgt := 830) hx hb dL_law_33 (by decide) (by decide) (by decide +kernel) (by decide) (lcase_20 F0' I0 hl hi hr kk)
    rcases Nat.lt_or_eq_of_le (Nat.le_of_lt_succ (n := 19) h48) with h48 | rfl
    rotate_left
    · exact lv_tableIn (off := 774) (tgt := 807) hx hb dL_law_33 (by decide) (by decide) (by decide +kernel) (by decide) (lcase_19 F0' I0 hl hi hr kk)
    rcases Nat.lt_or_eq_of_le (Nat.le_of_lt_succ (n := 18) h48) with h48 | rfl
    rotate_left
    · exact lv_tableIn (off := 741) (tgt := 774) hx hb dL_law_33 (by decide) (by decide) (by decide +kernel) (by decide) (lcase_18 F0' I0 hl hi hr kk)
    rcases Nat.lt_or_eq_of_le (Nat.le_of_lt_succ (n := 17) h48) with h48 | rfl
    rotate_left
    · exact lv_tableIn (off := 708) (tgt := 741) hx hb dL_law_33 (by decide) (by decide) (by decide +kernel) (by decide) (lcase_17 F0' I0 hl hi hr kk)
    rcases Nat.lt_or_eq_of_le (Nat.le_of_lt_succ (n := 16) h48) with h48 | rfl
    rotate_left
    · exact lv_tableIn (off := 675) (tgt := 708) hx hb dL_law_33 (by decide) (by decide) (by decide +kernel) (by decide) (lcase_16 F0' I0 hl hi hr kk)
    rcases Nat.lt_or_eq_of_le (Nat.le_of_lt_succ (n := 15) h48) with h48 | rfl
    rotate_left
    · exact lv_tableIn (off := 642) (tgt := 675) hx hb dL_law_33 (by decide) (by decide) (by decide +kernel) (by decide) (lcase_15 F0' I0 hl hi hr kk)
    rcases Nat.lt_or_eq_of_le (Nat.le_of_lt_succ (n := 14) h48) with h48 | rfl
    rotate_left
    · exact lv_tableIn (off := 629) (tgt := 662) hx hb dL_law_33 (by decide) (by decide) (by decide +kernel) (by decide) (lcase_14 F0' I0 hl hi hr kk)
    rcases Nat.lt_or_eq_of_le (Nat.le_of_lt_succ (n := 13) h48) with h48 | rfl
    rotate_left
    · exact lv_tableIn (off := 596) (tgt := 629) hx hb dL_law_33 (by decide) (by decide) (by decide +kernel) (by decide) (lcase_13 F0' I0 hl hi hr kk)
    rcases Nat.lt_or_eq_of_le (Nat.le_of_lt_succ (n := 12) h48) with h48 | rfl
    rotate_left
    · exact lv_tableIn (off := 573) (tgt := 606) hx hb dL_law_33 (by decide) (by decide) (by decide +kernel) (by decide) (lcase_12 F0' I0 hl hi hr kk)
    rcases Nat.lt_or_eq_of_le (Nat.le_of_lt_succ (n := 11) h48) with h48 | rfl
    rotate_left
    · exact lv_tableIn (off := 550) (tgt := 583) hx hb dL_law_33 (by decide) (by decide) (by decide +kernel) (by decide) (lcase_11 F0' I0 hl hi hr kk)
    rcases Nat.lt_or_eq_of_le (Nat.le_of_lt_succ (n := 10) h48) with h48 | rfl
    rotate_left
    · exact lv_tableIn (off := 527) (tgt := 560) hx hb dL_law_33 (by decide) (by decide) (by decide +kernel) (by decide) (lcase_10 F0' I0 hl hi hr kk)
    rcases Nat.lt_or_eq_of_le (Nat.le_of_lt_succ (n := 9) h48) with h48 | rfl
    rotate_left
    · exact lv_tableIn (off := 494) (tgt := 527) hx hb dL_law_33 (by decide) (by decide) (by decide +kernel) (by decide) (lcase_9 F0' I0 hl hi hr kk)
    rcases Nat.lt_or_eq_of_le (Nat.le_of_lt_succ (n := 8) h48) with h48 | rfl
    rotate_left
    · exact lv_tableIn (off := 461) (tgt := 494) hx hb dL_law_33 (by decide) (by decide) (by decide +kernel) (by decide) (lcase_8 F0' I0 hl hi hr kk)
    rcases Nat.lt_or_eq_of_le (Nat.le_of_lt_succ (n := 7) h48) with h48 | rfl
    rotate_left
    · exact lv_tableIn (off := 438) (tgt := 471) hx hb dL_law_33 (by decide) (by decide) (by decide +kernel) (by decide) (lcase_7 F0' I0 hl hi hr kk)
    rcases Nat.lt_or_eq_of_le (Nat.le_of_lt_succ (n := 6) h48) with h48 | rfl
    rotate_left
    · exact lv_tableIn (off := 415) (tgt := 448) hx hb dL_law_33 (by decide) (by decide) (by decide +kernel) (by decide) (lcase_6 F0' I0 hl hi hr kk)
    rcases Nat.lt_or_eq_of_le (Nat.le_of_lt_succ (n := 5) h48) with h48 | rfl
    rotate_left
    · exact lv_tableIn (off := 402) (tgt := 435) hx hb dL_law_33 (by decide) (by decide) (by decide +kernel) (by decide) (lcase_5 F0' I0 hl hi hr kk)
    rcases Nat.lt_or_eq_of_le (Nat.le_of_lt_succ (n := 4) h48) with h48 | rfl
    rotate_left
    · exact lv_tableIn (off := 379) (tgt := 412) hx hb dL_law_33 (by decide) (by decide) (by decide +kernel) (by decide) (lcase_4 F0' I0 hl hi hr kk)
    rcases Nat.lt_or_eq_of_le (Nat.le_of_lt_succ (n := 3) h48) with h48 | rfl
    rotate_left
    · exact lv_tableIn (off := 316) (tgt := 349) hx hb dL_law_33 (by decide) (by decide) (by decide +kernel) (by decide) (lcase_3 F0' I0 hl hi hr kk)
    rcases Nat.lt_or_eq_of_le (Nat.le_of_lt_succ (n := 2) h48) with h48 | rfl
    rotate_left
    · exact lv_tableIn (off := 273) (tgt := 306) hx hb dL_law_33 (by decide) (by decide) (by decide +kernel) (by decide) (lcase_2 F0' I0 hl hi hr kk)
    rcases Nat.lt_or_eq_of_le (Nat.le_of_lt_succ (n := 1) h48) with h48 | rfl
    rotate_left
    · exact lv_tableIn (off := 240) (tgt := 273) hx hb dL_law_33 (by decide) (by decide) (by decide +kernel) (by decide) (lcase_1 F0' I0 hl hi hr kk)
    rcases Nat.lt_or_eq_of_le (Nat.le_of_lt_succ (n := 0) h48) with h48 | rfl
    rotate_left
    · exact lv_tableIn (off := 207) (tgt := 240) hx hb dL_law_33 (by decide) (by decide) (by decide +kernel) (by decide) (lcase_0 F0' I0 hl hi hr kk)
    exact absurd h48 (Nat.not_lt_zero _)
  · refine lv_tableOut (tgt := 1616) hx hb dL_law_33 (Or.inr ?_) (by decide) (W.widen (k := cells + 4) (n := slots + 406) (by omega) (by omega) (kk cs ms H locs I0))
    rw [nI_toInt (by omega)]
    omega
theorem la_end1 (F : LF p m c s b L xs D cy gy A) (hS : ∀ q ∈ locs, s.heap.size ≤ q.base) (hret : meth.sig.returnType = ret) (hlk : meth.locks = false) (hr : cells ≤ 600000 ∧ slots ≤ 7302250) : W p l e room_1 s m #[Value.ref b] below meth c H locs cells slots (lw_Z below #[Value.ref b] s) (F0 m 1622 ls []) := by
  obtain ⟨hx, hb, hml, hown, hts, hX, hbl, hbA, hA, hKC, hKM, hs, hL⟩ := F
  refine va_forget hS (W.widen (k := 600000) (n := 7302250) hr.1 hr.2 (lv_iconst (v := 1) hx hb dL_law_1622 (by decide) ?_))
  exact lw_ret hx hb hret hlk dL_law_1623
set_option maxRecDepth 20000 in
theorem la_loop (F : LF p m c s b L xs D cy gy (fun q => s.heap.size ≤ q)) (hret : meth.sig.returnType = ret) (hlk : meth.locks = false) : ∀ (n i : Nat) (cs : CS) (ms : MS) (H : Heap) (locs : List Loc) (ls : Array Slot) (cells slots : Nat), LI s (fun q => s.heap.size ≤ q) D h cy g gy cs ms H locs → lv_has ls 4 (LL b h g i) → L < i + 6 * n + 6 → i ≤ L → cells + 4 * n ≤ 600000 → slots + 406 * n ≤ 7302250 → W p l e room_1 s m #[Value.ref b] below meth c H locs cells slots (lw_Z below #[Value.ref b] s) (F0 m 18 ls []) := by
  intro n
  induction n with
  | zero =>
    intro i cs ms H locs ls cells slots I hl hn hi hc hs
    have hL : L ≤ 3072 := F.2.2.2.2.2.2.2.2.2.2.2.2
    refine la_head F I hl (by omega) (fun _ => la_end1 F I.2.2.2.2.2.1.2.2 hret hlk ⟨by omega, by omega⟩) (fun q => absurd q (by omega))
  | succ n ih =>
    intro i cs ms H locs ls cells slots I hl hn hi hc hs
    have hL : L ≤ 3072 := F.2.2.2.2.2.2.2.2.2.2.2.2
    refine la_head F I hl (by omega) (fun _ => la_end1 F I.2.2.2.2.2.1.2.2 hret hlk ⟨by omega, by omega⟩) (fun q => ?_)
    refine la_pick F I hl q ⟨by omega, by omega⟩ (fun cs1 ms1 H1 locs1 I1 => ?_)
    have hx := F.1
    have hb := F.2.1
    refine lv_iinc (k := 0) (v := nI (i + 6)) (lv' := LL b h g (i + 6)) hx hb dL_law_1616 hl rfl (nI_add i 6) (by decide) rfl (fun ls hl => ?_)
    refine lv_goto (tgt := 18) hx hb dL_law_1619 (by decide) ?_
    exact ih (i + 6) cs1 ms1 H1 locs1 ls (cells + 4) (slots + 406) I1 hl (by omega) (by omega) (by omega) (by omega)
end LLOOP
