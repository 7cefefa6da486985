def wC_X6_takeWord_59 (post : CS → Prop) : Nat → Int32 → Int32 → Int32 → Int32 → CS → Prop
  | 0, _, _, _, _, _ => False
  | n + 1, x1, x2, x3, x4, S => ((150 ≤ x4 → post S) ∧ (¬ (150 ≤ x4) → (((cx_r_token S) = 30 → (vp_in x4 150 ∧ (((wzCh x4) = 32 → ((x3 = 0 → wC_X6_takeWord_59 post n (x1 + 1) (cx_r_start S) 1 (x4 + 1) S) ∧ (¬ (x3 = 0) → ((x2 = (cx_r_place S) → (∀ S_7 : CS, S_7 = (cx_set_r_token S x1) → wC_X6_takeWord_59 post n x1 x2 x3 (x4 + 1) S_7)) ∧ (¬ (x2 = (cx_r_place S)) → wC_X6_takeWord_59 post n (x1 + 1) (cx_r_start S) 1 (x4 + 1) S))))) ∧ (¬ ((wzCh x4) = 32) → ((x3 = 0 → wC_X6_takeWord_59 post n x1 (x2 + 1) 0 (x4 + 1) S) ∧ (¬ (x3 = 0) → (((cx_r_place S) ≤ x2 → wC_X6_takeWord_59 post n x1 (x2 + 1) 0 (x4 + 1) S) ∧ (¬ ((cx_r_place S) ≤ x2) → (((k_at 300 (cx_r_tape S) x2) = (wzCh x4) → wC_X6_takeWord_59 post n x1 (x2 + 1) 1 (x4 + 1) S) ∧ (¬ ((k_at 300 (cx_r_tape S) x2) = (wzCh x4)) → wC_X6_takeWord_59 post n x1 (x2 + 1) 0 (x4 + 1) S)))))))))) ∧ (¬ ((cx_r_token S) = 30) → post S))))
def wC_X6_takeWord_41 (post : CS → Prop) (S : CS) : Prop := (∀ S_1 : CS, S_1 = (cx_set_r_token S 30) → ∃ k_ : Nat, wC_X6_takeWord_59 post k_ 0 (cx_r_start S_1) 1 0 S_1)
def wC_X6_takeWord_0 (post : CS → Prop) : Nat → CS → Prop
  | 0, _ => False
  | n + 1, S => (((cx_r_length S) ≤ (cx_r_place S) → wC_X6_takeWord_41 post S) ∧ (¬ ((cx_r_length S) ≤ (cx_r_place S)) → wC_X6_isLetter (k_at 300 (cx_r_tape S) (cx_r_place S)) S (fun r_2 S_3 => ((r_2 = 0 → wC_X6_takeWord_41 post S_3) ∧ (¬ (r_2 = 0) → (∀ S_5 : CS, S_5 = (cx_set_r_place S_3 ((cx_r_place S_3) + 1)) → wC_X6_takeWord_0 post n S_5))))))
def wC_X6_takeWord (S : CS) (post : CS → Prop) : Prop := ∃ k_ : Nat, wC_X6_takeWord_0 post k_ S
set_option maxHeartbeats 4000000 in
set_option maxRecDepth 100000 in
theorem cC_X6_takeWord (l : Launch) (D : va_G) (h : Nat → Nat) (cy : Nat → ClassId) (S : CS) (post : CS → Prop) (hw : wC_X6_takeWord S post) : e_Mv clE l yX6_takeWord wsX6_takeWord { frames := 4, cells := 0, slots := 0, locals := 85 } D (tyC cy) (wC h cy) [.ref (h 5)] S post := by
  intro sz
  refine Met.ofW (cc := cX6_takeWord) (maxL := 6) (ret := none) (by decide) rfl ?_
  intro p e s m args below meth c s₁ B hml hv
  obtain ⟨rfl, hsz, hP, hK, hD0, hs⟩ := hv
  have hx := B.exec
  have hb := B.bytes
  have hr := B.returns
  have hts := atoms_spec (ws := wsX6_takeWord) B.pre
  have hown : s.vm.findClass RX6 = some m.cls := findClass_of_methodNamed B.named
  have hlocks := B.notSynchronized
  subst hsz
  have hD := hD0.self (sz := s.heap.size)
  generalize hAe : va_A (wC h cy S) s.heap.size = A at hD hs ⊢
  have hA : ∀ q : Nat, s.heap.size ≤ q → A q := fun q h => by rw [← hAe]; exact Or.inr h
  have hS : va_S A s.heap s.heap [] := va_S.rf
  obtain ⟨zq, zv, hz⟩ := hs.2
  have hin6 : ∀ w ∈ wsX60, w ∈ wsX6_takeWord := fun _ h => List.mem_cons_of_mem _ (List.mem_append_right _ h)
  have w21 := hts (.fieldLink RX6 21 "ClownsMourn$Reader" "tape" "[I") (List.mem_of_getElem? (i := 3) rfl)
  have w38 := hts (.fieldLink RX6 38 "ClownsMourn$Reader" "place" "I") (List.mem_of_getElem? (i := 1) rfl)
  have w62 := hts (.fieldLink RX6 62 "ClownsMourn$Reader" "token" "I") (List.mem_of_getElem? (i := 4) rfl)
  have w68 := hts (.fieldLink RX6 68 "ClownsMourn$Reader" "start" "I") (List.mem_of_getElem? (i := 5) rfl)
  have w9 := hts (.fieldLink RX6 9 "ClownsMourn$Reader" "length" "I") (List.mem_of_getElem? (i := 2) rfl)
  have wiX11 := hts (.initialized RX11) (List.mem_of_getElem? (i := 7) rfl)
  have wstat := hts (.static yX11_at) (List.mem_of_getElem? (i := 6) rfl)
  have hl := lv_entry ([.ref (h 5)]) (n := 6) (Nat.le_of_ble_eq_true rfl)
  rw [lg_entry_eq]
  generalize (lg_sl ([.ref (h 5)]) ++ List.replicate (6 - (lg_sl ([.ref (h 5)])).length) Slot.unset).toArray = ls at hl ⊢
  have hl : lv_has ls 6 [(0, .ref (h 5))] := hl
  unfold wC_X6_takeWord at hw
  clear hD0
  have L_59 : ∀ (n59 : Nat) (x1 : Int32) (x2 : Int32) (x3 : Int32) (x4 : Int32) (S : CS) (H : Heap) (locs : List Loc) (ls : Array Slot), wC_X6_takeWord_59 post n59 x1 x2 x3 x4 S → va_P D vwCl (wC h cy S) H → va_D A (wC h cy S) → va_S A s.heap H locs → lv_has ls 6 [(0, .ref (h 5)), (1, .int x1), (2, .int x2), (3, .int x3), (4, .int x4)] → W p l e (headSpec wsX6_takeWord { frames := 4, cells := 0, slots := 0, locals := 85 }).room s m (([.ref (h 5)] : List Value).toArray) below meth c H locs 0 0 (MQ below (va_Qv post (k_Post D (tyC cy) (wC h cy) A) A) (([.ref (h 5)] : List Value).toArray) s 0 0 A) (F0 m 59 ls []) := by
    intro n59
    induction n59 with
    | zero => intro x1 x2 x3 x4 S H locs ls hw; exact False.elim hw
    | succ n59 ih_59 =>
      intro x1 x2 x3 x4 S H locs ls hw hP hD hS hl
      unfold wC_X6_takeWord_59 at hw
      refine lv_iload hx hb dX6_takeWord_59 (lv_at hl 4 rfl) ?_
      refine va_ldcS (q := zq) hx hb hown hz.1 dX6_takeWord_61 ?_
      refine e_callVi (As := []) (rest := [.int x4]) (strQ_stable zq zv) hz ⟨hx, hb, hml, hown, hts⟩ (cS_length l D zq zv (tyC cy) (wC h cy) S (fun r S0 => r = 150 ∧ S = S0) ⟨rfl, rfl⟩) (cwV 0 hts gX6_takeWord_J0_length_8abf5 rfl rfl rfl (by decide +kernel) ⟨Nat.le_of_ble_eq_true rfl, Nat.le_of_ble_eq_true rfl⟩) (str_recv hz hS) hK hP hD hS hA rfl hl.1 rfl (Nat.le_of_ble_eq_true rfl) dX6_takeWord_63 ⟨Nat.zero_le _, Nat.zero_le _⟩ (fun r_ S_ H locs hq hP hD hS => ?_)
      obtain ⟨rfl, rfl⟩ := hq
      obtain ⟨hc_1t, hc_1f⟩ := hw
      refine lv_icmp_ge (tgt := 167) hx hb dX6_takeWord_66 (by decide) (fun c_1 => ?_) (fun c_1 => ?_)
      · have hw := hc_1t c_1
        clear hc_1t hc_1f
        exact W.vret hx hb hr (fun t ht hW => ⟨⟨S, rfl, hw, by rw [ht]; exact hP, va_K.moved hW.alike hK, hD⟩, hS.F ht⟩) hS.2.2 dX6_takeWord_167
      · have hw := hc_1f c_1
        clear hc_1t hc_1f
        refine lv_aload_n hx hb dX6_takeWord_69 rfl (lv_at hl 0 rfl) ?_
        refine va_get (D := D) (ci := 6) (v := .int (cx_r_token S)) (C := RX6) (T := TX6) (N := 16) hx hb hts hin6 hown hK hP 5 rfl rfl 11 (by decide) w62 (fun _ h9 => h9) rfl dX6_takeWord_70 ?_
        refine lv_bipush (v := 30) hx hb dX6_takeWord_73 (by decide) ?_
        obtain ⟨hc_2t, hc_2f⟩ := hw
        refine lv_icmp_ne (tgt := 167) hx hb dX6_takeWord_75 (by decide) (fun c_2 => ?_) (fun c_2 => ?_)
        · have hw := hc_2f c_2
          clear hc_2t hc_2f
          exact W.vret hx hb hr (fun t ht hW => ⟨⟨S, rfl, hw, by rw [ht]; exact hP, va_K.moved hW.alike hK, hD⟩, hS.F ht⟩) hS.2.2 dX6_takeWord_167
        · have hw := hc_2t c_2
          clear hc_2t hc_2f
          refine va_ldcS (q := zq) hx hb hown hz.1 dX6_takeWord_78 ?_
          refine lv_iload hx hb dX6_takeWord_80 (lv_at hl 4 rfl) ?_
          obtain ⟨hi_3, hw⟩ := hw
          refine e_callVi (As := [.int x4]) (rest := []) (strQ_stable zq zv) hz ⟨hx, hb, hml, hown, hts⟩ (cS_charAt l D zq zv (tyC cy) (wC h cy) S _ hi_3 (fun r S0 => r = wzCh x4 ∧ S = S0) ⟨rfl, rfl⟩) (cwV 1 hts gX6_takeWord_J0_charAt_5068e rfl rfl rfl (by decide +kernel) ⟨Nat.le_of_ble_eq_true rfl, Nat.le_of_ble_eq_true rfl⟩) (str_recv hz hS) hK hP hD hS hA rfl hl.1 rfl (Nat.le_of_ble_eq_true rfl) dX6_takeWord_82 ⟨Nat.zero_le _, Nat.zero_le _⟩ (fun r_ S_ H locs hq hP hD hS => ?_)
          obtain ⟨rfl, rfl⟩ := hq
          refine lv_istore (lv' := [(5, .int (wzCh x4)), (0, .ref (h 5)), (1, .int x1), (2, .int x2), (3, .int x3), (4, .int x4)]) hx hb dX6_takeWord_85 hl (by decide) rfl (fun ls hl => ?_)
          refine lv_iload hx hb dX6_takeWord_87 (lv_at hl 0 rfl) ?_
          refine lv_bipush (v := 32) hx hb dX6_takeWord_89 (by decide) ?_
          obtain ⟨hc_4t, hc_4f⟩ := hw
          refine lv_icmp_eq (tgt := 131) hx hb dX6_takeWord_91 (by decide) (fun c_4 => ?_) (fun c_4 => ?_)
          · have hw := hc_4t c_4
            clear hc_4t hc_4f
            refine lv_iload_n hx hb dX6_takeWord_131 rfl (lv_at hl 4 rfl) ?_
            obtain ⟨hc_5t, hc_5f⟩ := hw
            refine lv_if_eq (tgt := 151) hx hb dX6_takeWord_132 (by decide) (fun c_5 => ?_) (fun c_5 => ?_)
            · have hw := hc_5t c_5
              clear hc_5t hc_5f
              refine lv_iinc (v := x1 + 1) (lv' := [(1, .int (x1 + 1)), (5, .int (wzCh x4)), (0, .ref (h 5)), (2, .int x2), (3, .int x3), (4, .int x4)]) hx hb dX6_takeWord_151 hl (k := 2) rfl (k_inc (by decide)) (by decide) rfl (fun ls hl => ?_)
              refine lv_aload_n hx hb dX6_takeWord_154 rfl (lv_at hl 2 rfl) ?_
              refine va_get (D := D) (ci := 6) (v := .int (cx_r_start S)) (C := RX6) (T := TX6) (N := 16) hx hb hts hin6 hown hK hP 5 rfl rfl 10 (by decide) w68 (fun _ h9 => h9) rfl dX6_takeWord_155 ?_
              refine lv_istore_n (lv' := [(2, .int (cx_r_start S)), (1, .int (x1 + 1)), (5, .int (wzCh x4)), (0, .ref (h 5)), (3, .int x3), (4, .int x4)]) hx hb dX6_takeWord_158 rfl hl (by decide) rfl (fun ls hl => ?_)
              refine lv_iconst (v := 1) hx hb dX6_takeWord_159 (by decide) ?_
              refine lv_istore_n (lv' := [(3, .int 1), (2, .int (cx_r_start S)), (1, .int (x1 + 1)), (5, .int (wzCh x4)), (0, .ref (h 5)), (4, .int x4)]) hx hb dX6_takeWord_160 rfl hl (by decide) rfl (fun ls hl => ?_)
              refine lv_iinc (v := x4 + 1) (lv' := [(4, .int (x4 + 1)), (3, .int 1), (2, .int (cx_r_start S)), (1, .int (x1 + 1)), (5, .int (wzCh x4)), (0, .ref (h 5))]) hx hb dX6_takeWord_161 hl (k := 5) rfl (k_inc (by decide)) (by decide) rfl (fun ls hl => ?_)
              refine lv_goto (tgt := 59) hx hb dX6_takeWord_164 (by decide) ?_
              exact ih_59 (x1 + 1) (cx_r_start S) 1 (x4 + 1) S _ _ _ hw hP hD hS (lv_sub hl [5, 3, 2, 1, 0] rfl)
            · have hw := hc_5f c_5
              clear hc_5t hc_5f
              refine lv_iload_n hx hb dX6_takeWord_135 rfl (lv_at hl 3 rfl) ?_
              refine lv_aload_n hx hb dX6_takeWord_136 rfl (lv_at hl 1 rfl) ?_
              refine va_get (D := D) (ci := 6) (v := .int (cx_r_place S)) (C := RX6) (T := TX6) (N := 16) hx hb hts hin6 hown hK hP 5 rfl rfl 9 (by decide) w38 (fun _ h9 => h9) rfl dX6_takeWord_137 ?_
              obtain ⟨hc_6t, hc_6f⟩ := hw
              refine lv_icmp_ne (tgt := 151) hx hb dX6_takeWord_140 (by decide) (fun c_6 => ?_) (fun c_6 => ?_)
              · have hw := hc_6f c_6
                clear hc_6t hc_6f
                refine lv_iinc (v := x1 + 1) (lv' := [(1, .int (x1 + 1)), (5, .int (wzCh x4)), (0, .ref (h 5)), (2, .int x2), (3, .int x3), (4, .int x4)]) hx hb dX6_takeWord_151 hl (k := 2) rfl (k_inc (by decide)) (by decide) rfl (fun ls hl => ?_)
                refine lv_aload_n hx hb dX6_takeWord_154 rfl (lv_at hl 2 rfl) ?_
                refine va_get (D := D) (ci := 6) (v := .int (cx_r_start S)) (C := RX6) (T := TX6) (N := 16) hx hb hts hin6 hown hK hP 5 rfl rfl 10 (by decide) w68 (fun _ h9 => h9) rfl dX6_takeWord_155 ?_
                refine lv_istore_n (lv' := [(2, .int (cx_r_start S)), (1, .int (x1 + 1)), (5, .int (wzCh x4)), (0, .ref (h 5)), (3, .int x3), (4, .int x4)]) hx hb dX6_takeWord_158 rfl hl (by decide) rfl (fun ls hl => ?_)
                refine lv_iconst (v := 1) hx hb dX6_takeWord_159 (by decide) ?_
                refine lv_istore_n (lv' := [(3, .int 1), (2, .int (cx_r_start S)), (1, .int (x1 + 1)), (5, .int (wzCh x4)), (0, .ref (h 5)), (4, .int x4)]) hx hb dX6_takeWord_160 rfl hl (by decide) rfl (fun ls hl => ?_)
                refine lv_iinc (v := x4 + 1) (lv' := [(4, .int (x4 + 1)), (3, .int 1), (2, .int (cx_r_start S)), (1, .int (x1 + 1)), (5, .int (wzCh x4)), (0, .ref (h 5))]) hx hb dX6_takeWord_161 hl (k := 5) rfl (k_inc (by decide)) (by decide) rfl (fun ls hl => ?_)
                refine lv_goto (tgt := 59) hx hb dX6_takeWord_164 (by decide) ?_
                exact ih_59 (x1 + 1) (cx_r_start S) 1 (x4 + 1) S _ _ _ hw hP hD hS (lv_sub hl [5, 3, 2, 1, 0] rfl)
              · have hw := hc_6t c_6
                clear hc_6t hc_6f
                refine lv_aload_n hx hb dX6_takeWord_143 rfl (lv_at hl 1 rfl) ?_
                refine lv_iload_n hx hb dX6_takeWord_144 rfl (lv_at hl 2 rfl) ?_
                refine va_put (D := D) (ci := 6) (v := .int x1) (ty := .int) (C := RX6) (T := TX6) (N := 16) hx hb hts hin6 tyX6 tyX6_ok nmX6 hown hK hP hD hS 5 rfl rfl 11 (by decide) w62 (fun _ h9 => h9) rfl (tyX6_ok 11 (by decide)) rfl rfl (Nat.le_of_ble_eq_true rfl) dX6_takeWord_145 (fun H locs hP hD hS => ?_)
                obtain ⟨S_7, eS_7⟩ : ∃ z : CS, z = (cx_set_r_token S x1) := ⟨_, rfl⟩
                replace hw := hw S_7 eS_7
                have hP : va_P D vwCl (wC h cy S_7) H := by rw [eS_7, ← wCp_r_token]; exact hP
                have hD : va_D A (wC h cy S_7) := by rw [eS_7, ← wCp_r_token]; exact hD
                refine lv_goto (tgt := 161) hx hb dX6_takeWord_148 (by decide) ?_
                refine lv_iinc (v := x4 + 1) (lv' := [(4, .int (x4 + 1)), (5, .int (wzCh x4)), (0, .ref (h 5)), (1, .int x1), (2, .int x2), (3, .int x3)]) hx hb dX6_takeWord_161 hl (k := 5) rfl (k_inc (by decide)) (by decide) rfl (fun ls hl => ?_)
                refine lv_goto (tgt := 59) hx hb dX6_takeWord_164 (by decide) ?_
                exact ih_59 x1 x2 x3 (x4 + 1) S_7 _ _ _ hw hP hD hS (lv_sub hl [2, 3, 4, 5, 0] rfl)
          · have hw := hc_4f c_4
            clear hc_4t hc_4f
            refine lv_iload_n hx hb dX6_takeWord_94 rfl (lv_at hl 4 rfl) ?_
            obtain ⟨hc_8t, hc_8f⟩ := hw
            refine lv_if_eq (tgt := 123) hx hb dX6_takeWord_95 (by decide) (fun c_8 => ?_) (fun c_8 => ?_)
            · have hw := hc_8t c_8
              clear hc_8t hc_8f
              refine lv_iconst (v := 0) hx hb dX6_takeWord_123 (by decide) ?_
              refine lv_istore_n (lv' := [(3, .int 0), (5, .int (wzCh x4)), (0, .ref (h 5)), (1, .int x1), (2, .int x2), (4, .int x4)]) hx hb dX6_takeWord_124 rfl hl (by decide) rfl (fun ls hl => ?_)
              refine lv_iinc (v := x2 + 1) (lv' := [(2, .int (x2 + 1)), (3, .int 0), (5, .int (wzCh x4)), (0, .ref (h 5)), (1, .int x1), (4, .int x4)]) hx hb dX6_takeWord_125 hl (k := 4) rfl (k_inc (by decide)) (by decide) rfl (fun ls hl => ?_)
              refine lv_goto (tgt := 161) hx hb dX6_takeWord_128 (by decide) ?_
              refine lv_iinc (v := x4 + 1) (lv' := [(4, .int (x4 + 1)), (2, .int (x2 + 1)), (3, .int 0), (5, .int (wzCh x4)), (0, .ref (h 5)), (1, .int x1)]) hx hb dX6_takeWord_161 hl (k := 5) rfl (k_inc (by decide)) (by decide) rfl (fun ls hl => ?_)
              refine lv_goto (tgt := 59) hx hb dX6_takeWord_164 (by decide) ?_
              exact ih_59 x1 (x2 + 1) 0 (x4 + 1) S _ _ _ hw hP hD hS (lv_sub hl [4, 5, 1, 2, 0] rfl)
            · have hw := hc_8f c_8
              clear hc_8t hc_8f
              refine lv_iload_n hx hb dX6_takeWord_98 rfl (lv_at hl 3 rfl) ?_
              refine lv_aload_n hx hb dX6_takeWord_99 rfl (lv_at hl 1 rfl) ?_
              refine va_get (D := D) (ci := 6) (v := .int (cx_r_place S)) (C := RX6) (T := TX6) (N := 16) hx hb hts hin6 hown hK hP 5 rfl rfl 9 (by decide) w38 (fun _ h9 => h9) rfl dX6_takeWord_100 ?_
              obtain ⟨hc_9t, hc_9f⟩ := hw
              refine lv_icmp_ge (tgt := 123) hx hb dX6_takeWord_103 (by decide) (fun c_9 => ?_) (fun c_9 => ?_)
              · have hw := hc_9t c_9
                clear hc_9t hc_9f
                refine lv_iconst (v := 0) hx hb dX6_takeWord_123 (by decide) ?_
                refine lv_istore_n (lv' := [(3, .int 0), (5, .int (wzCh x4)), (0, .ref (h 5)), (1, .int x1), (2, .int x2), (4, .int x4)]) hx hb dX6_takeWord_124 rfl hl (by decide) rfl (fun ls hl => ?_)
                refine lv_iinc (v := x2 + 1) (lv' := [(2, .int (x2 + 1)), (3, .int 0), (5, .int (wzCh x4)), (0, .ref (h 5)), (1, .int x1), (4, .int x4)]) hx hb dX6_takeWord_125 hl (k := 4) rfl (k_inc (by decide)) (by decide) rfl (fun ls hl => ?_)
                refine lv_goto (tgt := 161) hx hb dX6_takeWord_128 (by decide) ?_
                refine lv_iinc (v := x4 + 1) (lv' := [(4, .int (x4 + 1)), (2, .int (x2 + 1)), (3, .int 0), (5, .int (wzCh x4)), (0, .ref (h 5)), (1, .int x1)]) hx hb dX6_takeWord_161 hl (k := 5) rfl (k_inc (by decide)) (by decide) rfl (fun ls hl => ?_)
                refine lv_goto (tgt := 59) hx hb dX6_takeWord_164 (by decide) ?_
                exact ih_59 x1 (x2 + 1) 0 (x4 + 1) S _ _ _ hw hP hD hS (lv_sub hl [4, 5, 1, 2, 0] rfl)
              · have hw := hc_9f c_9
                clear hc_9t hc_9f
                refine lv_aload_n hx hb dX6_takeWord_106 rfl (lv_at hl 1 rfl) ?_
                refine va_get (D := D) (ci := 6) (v := .ref (h 36)) (C := RX6) (T := TX6) (N := 16) hx hb hts hin6 hown hK hP 5 rfl rfl 3 (by decide) w21 (fun _ h9 => h9) rfl dX6_takeWord_107 ?_
                refine lv_iload_n hx hb dX6_takeWord_110 rfl (lv_at hl 3 rfl) ?_
                refine e_callNi (As := [.ref (h 36), .int x2]) (rest := []) clE_stable hs ⟨hx, hb, hml, hown, hts⟩ (cA_at l D clE (tyC cy) (wC h cy) S 36 24 _ _ 300 (cx_r_tape S) rfl rfl (by decide) _ (fun r S0 => r = k_at 300 (cx_r_tape S) x2 ∧ S = S0) ⟨rfl, rfl⟩) ⟨va_cnB 2 hts gX6_takeWord_X11_at_n100 rfl rfl rfl hs.1.2.2.2.2.2.2.2.2.1 wiX11 (by decide +kernel) ⟨Nat.le_of_ble_eq_true rfl, Nat.le_of_ble_eq_true rfl⟩, wstat, trivial⟩ hK hP hD hS hA rfl hl.1 rfl (Nat.le_of_ble_eq_true rfl) dX6_takeWord_111 ⟨Nat.zero_le _, Nat.zero_le _⟩ (fun r_ S_ H locs hq hP hD hS => ?_)
                obtain ⟨rfl, rfl⟩ := hq
                refine lv_iload hx hb dX6_takeWord_114 (lv_at hl 0 rfl) ?_
                obtain ⟨hc_10t, hc_10f⟩ := hw
                refine lv_icmp_ne (tgt := 123) hx hb dX6_takeWord_116 (by decide) (fun c_10 => ?_) (fun c_10 => ?_)
                · have hw := hc_10f c_10
                  clear hc_10t hc_10f
                  refine lv_iconst (v := 0) hx hb dX6_takeWord_123 (by decide) ?_
                  refine lv_istore_n (lv' := [(3, .int 0), (5, .int (wzCh x4)), (0, .ref (h 5)), (1, .int x1), (2, .int x2), (4, .int x4)]) hx hb dX6_takeWord_124 rfl hl (by decide) rfl (fun ls hl => ?_)
                  refine lv_iinc (v := x2 + 1) (lv' := [(2, .int (x2 + 1)), (3, .int 0), (5, .int (wzCh x4)), (0, .ref (h 5)), (1, .int x1), (4, .int x4)]) hx hb dX6_takeWord_125 hl (k := 4) rfl (k_inc (by decide)) (by decide) rfl (fun ls hl => ?_)
                  refine lv_goto (tgt := 161) hx hb dX6_takeWord_128 (by decide) ?_
                  refine lv_iinc (v := x4 + 1) (lv' := [(4, .int (x4 + 1)), (2, .int (x2 + 1)), (3, .int 0), (5, .int (wzCh x4)), (0, .ref (h 5)), (1, .int x1)]) hx hb dX6_takeWord_161 hl (k := 5) rfl (k_inc (by decide)) (by decide) rfl (fun ls hl => ?_)
                  refine lv_goto (tgt := 59) hx hb dX6_takeWord_164 (by decide) ?_
                  exact ih_59 x1 (x2 + 1) 0 (x4 + 1) S _ _ _ hw hP hD hS (lv_sub hl [4, 5, 1, 2, 0] rfl)
                · have hw := hc_10t c_10
                  clear hc_10t hc_10f
                  refine lv_iconst (v := 1) hx hb dX6_takeWord_119 (by decide) ?_
                  refine lv_goto (tgt := 124) hx hb dX6_takeWord_120 (by decide) ?_
                  refine lv_istore_n (lv' := [(3, .int 1), (5, .int (wzCh x4)), (0, .ref (h 5)), (1, .int x1), (2, .int x2), (4, .int x4)]) hx hb dX6_takeWord_124 rfl hl (by decide) rfl (fun ls hl => ?_)
                  refine lv_iinc (v := x2 + 1) (lv' := [(2, .int (x2 + 1)), (3, .int 1), (5, .int (wzCh x4)), (0, .ref (h 5)), (1, .int x1), (4, .int x4)]) hx hb dX6_takeWord_125 hl (k := 4) rfl (k_inc (by decide)) (by decide) rfl (fun ls hl => ?_)
                  refine lv_goto (tgt := 161) hx hb dX6_takeWord_128 (by decide) ?_
                  refine lv_iinc (v := x4 + 1) (lv' := [(4, .int (x4 + 1)), (2, .int (x2 + 1)), (3, .int 1), (5, .int (wzCh x4)), (0, .ref (h 5)), (1, .int x1)]) hx hb dX6_takeWord_161 hl (k := 5) rfl (k_inc (by decide)) (by decide) rfl (fun ls hl => ?_)
                  refine lv_goto (tgt := 59) hx hb dX6_takeWord_164 (by decide) ?_
                  exact ih_59 x1 (x2 + 1) 1 (x4 + 1) S _ _ _ hw hP hD hS (lv_sub hl [4, 5, 1, 2, 0] rfl)
  have J_41 : ∀ (S : CS) (H : Heap) (locs : List Loc) (ls : Array Slot), wC_X6_takeWord_41 post S → va_P D vwCl (wC h cy S) H → va_D A (wC h cy S) → va_S A s.heap H locs → lv_has ls 6 [(0, .ref (h 5))] → W p l e (headSpec wsX6_takeWord { frames := 4, cells := 0, slots := 0, locals := 85 }).room s m (([.ref (h 5)] : List Value).toArray) below meth c H locs 0 0 (MQ below (va_Qv post (k_Post D (tyC cy) (wC h cy) A) A) (([.ref (h 5)] : List Value).toArray) s 0 0 A) (F0 m 41 ls []) := by
    intro S H locs ls hw hP hD hS hl
    unfold wC_X6_takeWord_41 at hw
    refine lv_aload_n hx hb dX6_takeWord_41 rfl (lv_at hl 0 rfl) ?_
    refine lv_bipush (v := 30) hx hb dX6_takeWord_42 (by decide) ?_
    refine va_put (D := D) (ci := 6) (v := .int 30) (ty := .int) (C := RX6) (T := TX6) (N := 16) hx hb hts hin6 tyX6 tyX6_ok nmX6 hown hK hP hD hS 5 rfl rfl 11 (by decide) w62 (fun _ h9 => h9) rfl (tyX6_ok 11 (by decide)) rfl rfl (Nat.le_of_ble_eq_true rfl) dX6_takeWord_44 (fun H locs hP hD hS => ?_)
    obtain ⟨S_11, eS_11⟩ : ∃ z : CS, z = (cx_set_r_token S 30) := ⟨_, rfl⟩
    replace hw := hw S_11 eS_11
    have hP : va_P D vwCl (wC h cy S_11) H := by rw [eS_11, ← wCp_r_token]; exact hP
    have hD : va_D A (wC h cy S_11) := by rw [eS_11, ← wCp_r_token]; exact hD
    refine lv_iconst (v := 0) hx hb dX6_takeWord_47 (by decide) ?_
    refine lv_istore_n (lv' := [(1, .int 0), (0, .ref (h 5))]) hx hb dX6_takeWord_48 rfl hl (by decide) rfl (fun ls hl => ?_)
    refine lv_aload_n hx hb dX6_takeWord_49 rfl (lv_at hl 1 rfl) ?_
    refine va_get (D := D) (ci := 6) (v := .int (cx_r_start S_11)) (C := RX6) (T := TX6) (N := 16) hx hb hts hin6 hown hK hP 5 rfl rfl 10 (by decide) w68 (fun _ h9 => h9) rfl dX6_takeWord_50 ?_
    refine lv_istore_n (lv' := [(2, .int (cx_r_start S_11)), (1, .int 0), (0, .ref (h 5))]) hx hb dX6_takeWord_53 rfl hl (by decide) rfl (fun ls hl => ?_)
    refine lv_iconst (v := 1) hx hb dX6_takeWord_54 (by decide) ?_
    refine lv_istore_n (lv' := [(3, .int 1), (2, .int (cx_r_start S_11)), (1, .int 0), (0, .ref (h 5))]) hx hb dX6_takeWord_55 rfl hl (by decide) rfl (fun ls hl => ?_)
    refine lv_iconst (v := 0) hx hb dX6_takeWord_56 (by decide) ?_
    refine lv_istore (lv' := [(4, .int 0), (3, .int 1), (2, .int (cx_r_start S_11)), (1, .int 0), (0, .ref (h 5))]) hx hb dX6_takeWord_57 hl (by decide) rfl (fun ls hl => ?_)
    obtain ⟨n_59, hw⟩ := hw
    exact L_59 n_59 0 (cx_r_start S_11) 1 0 S_11 _ _ _ hw hP hD hS (lv_sub hl [4, 3, 2, 1, 0] rfl)
  have L_0 : ∀ (n0 : Nat) (S : CS) (H : Heap) (locs : List Loc) (ls : Array Slot), wC_X6_takeWord_0 post n0 S → va_P D vwCl (wC h cy S) H → va_D A (wC h cy S) → va_S A s.heap H locs → lv_has ls 6 [(0, .ref (h 5))] → W p l e (headSpec wsX6_takeWord { frames := 4, cells := 0, slots := 0, locals := 85 }).room s m (([.ref (h 5)] : List Value).toArray) below meth c H locs 0 0 (MQ below (va_Qv post (k_Post D (tyC cy) (wC h cy) A) A) (([.ref (h 5)] : List Value).toArray) s 0 0 A) (F0 m 0 ls []) := by
    intro n0
    induction n0 with
    | zero => intro S H locs ls hw; exact False.elim hw
    | succ n0 ih_0 =>
      intro S H locs ls hw hP hD hS hl
      unfold wC_X6_takeWord_0 at hw
      refine lv_aload_n hx hb dX6_takeWord_0 rfl (lv_at hl 0 rfl) ?_
      refine va_get (D := D) (ci := 6) (v := .int (cx_r_place S)) (C := RX6) (T := TX6) (N := 16) hx hb hts hin6 hown hK hP 5 rfl rfl 9 (by decide) w38 (fun _ h9 => h9) rfl dX6_takeWord_1 ?_
      refine lv_aload_n hx hb dX6_takeWord_4 rfl (lv_at hl 0 rfl) ?_
      refine va_get (D := D) (ci := 6) (v := .int (cx_r_length S)) (C := RX6) (T := TX6) (N := 16) hx hb hts hin6 hown hK hP 5 rfl rfl 0 (by decide) w9 (fun _ h9 => h9) rfl dX6_takeWord_5 ?_
      obtain ⟨hc_12t, hc_12f⟩ := hw
      refine lv_icmp_ge (tgt := 41) hx hb dX6_takeWord_8 (by decide) (fun c_12 => ?_) (fun c_12 => ?_)
      · have hw := hc_12t c_12
        clear hc_12t hc_12f
        exact J_41 S _ _ _ hw hP hD hS (lv_sub hl [0] rfl)
      · have hw := hc_12f c_12
        clear hc_12t hc_12f
        refine lv_aload_n hx hb dX6_takeWord_11 rfl (lv_at hl 0 rfl) ?_
        refine va_get (D := D) (ci := 6) (v := .ref (h 36)) (C := RX6) (T := TX6) (N := 16) hx hb hts hin6 hown hK hP 5 rfl rfl 3 (by decide) w21 (fun _ h9 => h9) rfl dX6_takeWord_12 ?_
        refine lv_aload_n hx hb dX6_takeWord_15 rfl (lv_at hl 0 rfl) ?_
        refine va_get (D := D) (ci := 6) (v := .int (cx_r_place S)) (C := RX6) (T := TX6) (N := 16) hx hb hts hin6 hown hK hP 5 rfl rfl 9 (by decide) w38 (fun _ h9 => h9) rfl dX6_takeWord_16 ?_
        refine e_callNi (As := [.ref (h 36), .int (cx_r_place S)]) (rest := []) clE_stable hs ⟨hx, hb, hml, hown, hts⟩ (cA_at l D clE (tyC cy) (wC h cy) S 36 24 _ _ 300 (cx_r_tape S) rfl rfl (by decide) _ (fun r S0 => r = k_at 300 (cx_r_tape S) (cx_r_place S) ∧ S = S0) ⟨rfl, rfl⟩) ⟨va_cnB 2 hts gX6_takeWord_X11_at_n100 rfl rfl rfl hs.1.2.2.2.2.2.2.2.2.1 wiX11 (by decide +kernel) ⟨Nat.le_of_ble_eq_true rfl, Nat.le_of_ble_eq_true rfl⟩, wstat, trivial⟩ hK hP hD hS hA rfl hl.1 rfl (Nat.le_of_ble_eq_true rfl) dX6_takeWord_19 ⟨Nat.zero_le _, Nat.zero_le _⟩ (fun r_ S_ H locs hq hP hD hS => ?_)
        obtain ⟨rfl, rfl⟩ := hq
        refine e_callSi (As := [.int (k_at 300 (cx_r_tape S) (cx_r_place S))]) (rest := []) clE_stable hs ⟨hx, hb, hml, hown, hts⟩ (cC_X6_isLetter l D h cy _ _ _ hw) (va_cwS 1 hts gX6_takeWord_X6_isLetter rfl rfl rfl (by decide +kernel) ⟨Nat.le_of_ble_eq_true rfl, Nat.le_of_ble_eq_true rfl⟩) hK hP hD hS hA rfl hl.1 rfl (Nat.le_of_ble_eq_true rfl) dX6_takeWord_22 ⟨Nat.zero_le _, Nat.zero_le _⟩ (fun r_13 S_14 H locs hw hP hD hS => ?_)
        obtain ⟨hc_15t, hc_15f⟩ := hw
        refine lv_if_eq (tgt := 41) hx hb dX6_takeWord_25 (by decide) (fun c_15 => ?_) (fun c_15 => ?_)
        · have hw := hc_15t c_15
          clear hc_15t hc_15f
          exact J_41 S_14 _ _ _ hw hP hD hS (lv_sub hl [0] rfl)
        · have hw := hc_15f c_15
          clear hc_15t hc_15f
          refine lv_aload_n hx hb dX6_takeWord_28 rfl (lv_at hl 0 rfl) ?_
          refine lv_dup hx hb dX6_takeWord_29 rfl ?_
          refine va_get (D := D) (ci := 6) (v := .int (cx_r_place S_14)) (C := RX6) (T := TX6) (N := 16) hx hb hts hin6 hown hK hP 5 rfl rfl 9 (by decide) w38 (fun _ h9 => h9) rfl dX6_takeWord_30 ?_
          refine lv_iconst (v := 1) hx hb dX6_takeWord_33 (by decide) ?_
          refine lv_iadd hx hb dX6_takeWord_34 ?_
          refine va_put (D := D) (ci := 6) (v := .int ((cx_r_place S_14) + 1)) (ty := .int) (C := RX6) (T := TX6) (N := 16) hx hb hts hin6 tyX6 tyX6_ok nmX6 hown hK hP hD hS 5 rfl rfl 9 (by decide) w38 (fun _ h9 => h9) rfl (tyX6_ok 9 (by decide)) rfl rfl (Nat.le_of_ble_eq_true rfl) dX6_takeWord_35 (fun H locs hP hD hS => ?_)
          obtain ⟨S_16, eS_16⟩ : ∃ z : CS, z = (cx_set_r_place S_14 ((cx_r_place S_14) + 1)) := ⟨_, rfl⟩
          replace hw := hw S_16 eS_16
          have hP : va_P D vwCl (wC h cy S_16) H := by rw [eS_16, ← wCp_r_place]; exact hP
          have hD : va_D A (wC h cy S_16) := by rw [eS_16, ← wCp_r_place]; exact hD
          refine lv_goto (tgt := 0) hx hb dX6_takeWord_38 (by decide) ?_
          exact ih_0 S_16 _ _ _ hw hP hD hS (lv_sub hl [0] rfl)
  obtain ⟨n_0, hw⟩ := hw
  exact L_0 n_0 S _ _ _ hw hP hD hS (lv_sub hl [0] rfl)
def wC_X6_advance_49 (post : CS → Prop) (S : CS) : Prop := (∀ S_1 : CS, S_1 = (cx_set_r_start S (cx_r_place S)) → (((cx_r_place S_1) < (cx_r_length S_1) → wC_X6_isLetter (k_at 300 (cx_r_tape S_1) (cx_r_place S_1)) S_1 (fun r_3 S_4 => ((r_3 = 0 → wC_X6_isDigit (k_at 300 (cx_r_tape S_1) (cx_r_place S_1)) S_4 (fun r_6 S_7 => ((r_6 = 0 → wC_X6_takeSign (k_at 300 (cx_r_tape S_1) (cx_r_place S_1)) S_7 (fun S_10 => post S_10)) ∧ (¬ (r_6 = 0) → wC_X6_takeNumber S_7 (fun S_12 => post S_12))))) ∧ (¬ (r_3 = 0) → wC_X6_takeWord S_4 (fun S_14 => post S_14))))) ∧ (¬ ((cx_r_place S_1) < (cx_r_length S_1)) → (∀ S_15 : CS, S_15 = (cx_set_r_token S_1 31) → post S_15))))
def wC_X6_advance_8 (post : CS → Prop) : Nat → CS → Prop
  | 0, _ => False
  | n + 1, S => (((cx_r_length S) ≤ (cx_r_place S) → wC_X6_advance_49 post S) ∧ (¬ ((cx_r_length S) ≤ (cx_r_place S)) → wC_X6_isBlank (k_at 300 (cx_r_tape S) (cx_r_place S)) S (fun r_2 S_3 => ((r_2 = 0 → wC_X6_advance_49 post S_3) ∧ (¬ (r_2 = 0) → (∀ S_5 : CS, S_5 = (cx_set_r_place S_3 ((cx_r_place S_3) + 1)) → wC_X6_advance_8 post n S_5))))))
def wC_X6_advance (S : CS) (post : CS → Prop) : Prop := (((cx_r_fault S) = 0 → ∃ k_ : Nat, wC_X6_advance_8 post k_ S) ∧ (¬ ((cx_r_fault S) = 0) → post S))
set_option maxHeartbeats 4000000 in
set_option maxRecDepth 100000 in
theorem cC_X6_advance (l : Launch) (D : va_G) (h : Nat → Nat) (cy : Nat → ClassId) (S : CS) (post : CS → Prop) (hw : wC_X6_advance S post) : e_Mv clE l yX6_advance wsX6_advance { frames := 5, cells := 0, slots := 0, locals := 110 } D (tyC cy) (wC h cy) [.ref (h 5)] S post := by
  intro sz
  refine Met.ofW (cc := cX6_advance) (maxL := 2) (ret := none) (by decide) rfl ?_
  intro p e s m args below meth c s₁ B hml hv
  obtain ⟨rfl, hsz, hP, hK, hD0, hs⟩ := hv
  have hx := B.exec
  have hb := B.bytes
  have hr := B.returns
  have hts := atoms_spec (ws := wsX6_advance) B.pre
  have hown : s.vm.findClass RX6 = some m.cls := findClass_of_methodNamed B.named
  have hlocks := B.notSynchronized
  subst hsz
  have hD := hD0.self (sz := s.heap.size)
  generalize hAe : va_A (wC h cy S) s.heap.size = A at hD hs ⊢
  have hA : ∀ q : Nat, s.heap.size ≤ q → A q := fun q h => by rw [← hAe]; exact Or.inr h
  have hS : va_S A s.heap s.heap [] := va_S.rf
  have hin6 : ∀ w ∈ wsX60, w ∈ wsX6_advance := fun _ h => List.mem_cons_of_mem _ (List.mem_append_right _ h)
  have w21 := hts (.fieldLink RX6 21 "ClownsMourn$Reader" "tape" "[I") (List.mem_of_getElem? (i := 4) rfl)
  have w38 := hts (.fieldLink RX6 38 "ClownsMourn$Reader" "place" "I") (List.mem_of_getElem? (i := 2) rfl)
  have w41 := hts (.fieldLink RX6 41 "ClownsMourn$Reader" "fault" "I") (List.mem_of_getElem? (i := 1) rfl)
  have w62 := hts (.fieldLink RX6 62 "ClownsMourn$Reader" "token" "I") (List.mem_of_getElem? (i := 6) rfl)
  have w68 := hts (.fieldLink RX6 68 "ClownsMourn$Reader" "start" "I") (List.mem_of_getElem? (i := 5) rfl)
  have w9 := hts (.fieldLink RX6 9 "ClownsMourn$Reader" "length" "I") (List.mem_of_getElem? (i := 3) rfl)
  have wiX11 := hts (.initialized RX11) (List.mem_of_getElem? (i := 8) rfl)
  have wstat := hts (.static yX11_at) (List.mem_of_getElem? (i := 7) rfl)
  have hl := lv_entry ([.ref (h 5)]) (n := 2) (Nat.le_of_ble_eq_true rfl)
  rw [lg_entry_eq]
  generalize (lg_sl ([.ref (h 5)]) ++ List.replicate (2 - (lg_sl ([.ref (h 5)])).length) Slot.unset).toArray = ls at hl ⊢
  have hl : lv_has ls 2 [(0, .ref (h 5))] := hl
  unfold wC_X6_advance at hw
  clear hD0
  have J_49 : ∀ (S : CS) (H : Heap) (locs : List Loc) (ls : Array Slot), wC_X6_advance_49 post S → va_P D vwCl (wC h cy S) H → va_D A (wC h cy S) → va_S A s.heap H locs → lv_has ls 2 [(0, .ref (h 5))] → W p l e (headSpec wsX6_advance { frames := 5, cells := 0, slots := 0, locals := 110 }).room s m (([.ref (h 5)] : List Value).toArray) below meth c H locs 0 0 (MQ below (va_Qv post (k_Post D (tyC cy) (wC h cy) A) A) (([.ref (h 5)] : List Value).toArray) s 0 0 A) (F0 m 49 ls []) := by
    intro S H locs ls hw hP hD hS hl
    unfold wC_X6_advance_49 at hw
    refine lv_aload_n hx hb dX6_advance_49 rfl (lv_at hl 0 rfl) ?_
    refine lv_aload_n hx hb dX6_advance_50 rfl (lv_at hl 0 rfl) ?_
    refine va_get (D := D) (ci := 6) (v := .int (cx_r_place S)) (C := RX6) (T := TX6) (N := 16) hx hb hts hin6 hown hK hP 5 rfl rfl 9 (by decide) w38 (fun _ h9 => h9) rfl dX6_advance_51 ?_
    refine va_put (D := D) (ci := 6) (v := .int (cx_r_place S)) (ty := .int) (C := RX6) (T := TX6) (N := 16) hx hb hts hin6 tyX6 tyX6_ok nmX6 hown hK hP hD hS 5 rfl rfl 10 (by decide) w68 (fun _ h9 => h9) rfl (tyX6_ok 10 (by decide)) rfl rfl (Nat.le_of_ble_eq_true rfl) dX6_advance_54 (fun H locs hP hD hS => ?_)
    obtain ⟨S_1, eS_1⟩ : ∃ z : CS, z = (cx_set_r_start S (cx_r_place S)) := ⟨_, rfl⟩
    replace hw := hw S_1 eS_1
    have hP : va_P D vwCl (wC h cy S_1) H := by rw [eS_1, ← wCp_r_start]; exact hP
    have hD : va_D A (wC h cy S_1) := by rw [eS_1, ← wCp_r_start]; exact hD
    refine lv_aload_n hx hb dX6_advance_57 rfl (lv_at hl 0 rfl) ?_
    refine va_get (D := D) (ci := 6) (v := .ref (h 36)) (C := RX6) (T := TX6) (N := 16) hx hb hts hin6 hown hK hP 5 rfl rfl 3 (by decide) w21 (fun _ h9 => h9) rfl dX6_advance_58 ?_
    refine lv_aload_n hx hb dX6_advance_61 rfl (lv_at hl 0 rfl) ?_
    refine va_get (D := D) (ci := 6) (v := .int (cx_r_place S_1)) (C := RX6) (T := TX6) (N := 16) hx hb hts hin6 hown hK hP 5 rfl rfl 9 (by decide) w38 (fun _ h9 => h9) rfl dX6_advance_62 ?_
    refine e_callNi (As := [.ref (h 36), .int (cx_r_place S_1)]) (rest := []) clE_stable hs ⟨hx, hb, hml, hown, hts⟩ (cA_at l D clE (tyC cy) (wC h cy) S_1 36 24 _ _ 300 (cx_r_tape S_1) rfl rfl (by decide) _ (fun r S0 => r = k_at 300 (cx_r_tape S_1) (cx_r_place S_1) ∧ S_1 = S0) ⟨rfl, rfl⟩) ⟨va_cnB 2 hts gX6_advance_X11_at_n100 rfl rfl rfl hs.1.2.2.2.2.2.2.2.2.1 wiX11 (by decide +kernel) ⟨Nat.le_of_ble_eq_true rfl, Nat.le_of_ble_eq_true rfl⟩, wstat, trivial⟩ hK hP hD hS hA rfl hl.1 rfl (Nat.le_of_ble_eq_true rfl) dX6_advance_65 ⟨Nat.zero_le _, Nat.zero_le _⟩ (fun r_ S_ H locs hq hP hD hS => ?_)
    obtain ⟨rfl, rfl⟩ := hq
    refine lv_istore_n (lv' := [(1, .int (k_at 300 (cx_r_tape S_1) (cx_r_place S_1))), (0, .ref (h 5))]) hx hb dX6_advance_68 rfl hl (by decide) rfl (fun ls hl => ?_)
    refine lv_aload_n hx hb dX6_advance_69 rfl (lv_at hl 1 rfl) ?_
    refine va_get (D := D) (ci := 6) (v := .int (cx_r_place S_1)) (C := RX6) (T := TX6) (N := 16) hx hb hts hin6 hown hK hP 5 rfl rfl 9 (by decide) w38 (fun _ h9 => h9) rfl dX6_advance_70 ?_
    refine lv_aload_n hx hb dX6_advance_73 rfl (lv_at hl 1 rfl) ?_
    refine va_get (D := D) (ci := 6) (v := .int (cx_r_length S_1)) (C := RX6) (T := TX6) (N := 16) hx hb hts hin6 hown hK hP 5 rfl rfl 0 (by decide) w9 (fun _ h9 => h9) rfl dX6_advance_74 ?_
    obtain ⟨hc_2t, hc_2f⟩ := hw
    refine lv_icmp_lt (tgt := 89) hx hb dX6_advance_77 (by decide) (fun c_2 => ?_) (fun c_2 => ?_)
    · have hw := hc_2t c_2
      clear hc_2t hc_2f
      refine lv_iload_n hx hb dX6_advance_89 rfl (lv_at hl 0 rfl) ?_
      refine e_callSi (As := [.int (k_at 300 (cx_r_tape S_1) (cx_r_place S_1))]) (rest := []) clE_stable hs ⟨hx, hb, hml, hown, hts⟩ (cC_X6_isLetter l D h cy _ _ _ hw) (va_cwS 1 hts gX6_advance_X6_isLetter rfl rfl rfl (by decide +kernel) ⟨Nat.le_of_ble_eq_true rfl, Nat.le_of_ble_eq_true rfl⟩) hK hP hD hS hA rfl hl.1 rfl (Nat.le_of_ble_eq_true rfl) dX6_advance_90 ⟨Nat.zero_le _, Nat.zero_le _⟩ (fun r_3 S_4 H locs hw hP hD hS => ?_)
      obtain ⟨hc_5t, hc_5f⟩ := hw
      refine lv_if_eq (tgt := 103) hx hb dX6_advance_93 (by decide) (fun c_5 => ?_) (fun c_5 => ?_)
      · have hw := hc_5t c_5
        clear hc_5t hc_5f
        refine lv_iload_n hx hb dX6_advance_103 rfl (lv_at hl 0 rfl) ?_
        refine e_callSi (As := [.int (k_at 300 (cx_r_tape S_1) (cx_r_place S_1))]) (rest := []) clE_stable hs ⟨hx, hb, hml, hown, hts⟩ (cC_X6_isDigit l D h cy _ _ _ hw) (va_cwS 1 hts gX6_advance_X6_isDigit rfl rfl rfl (by decide +kernel) ⟨Nat.le_of_ble_eq_true rfl, Nat.le_of_ble_eq_true rfl⟩) hK hP hD hS hA rfl hl.1 rfl (Nat.le_of_ble_eq_true rfl) dX6_advance_104 ⟨Nat.zero_le _, Nat.zero_le _⟩ (fun r_6 S_7 H locs hw hP hD hS => ?_)
        obtain ⟨hc_8t, hc_8f⟩ := hw
        refine lv_if_eq (tgt := 117) hx hb dX6_advance_107 (by decide) (fun c_8 => ?_) (fun c_8 => ?_)
        · have hw := hc_8t c_8
          clear hc_8t hc_8f
          refine lv_aload_n hx hb dX6_advance_117 rfl (lv_at hl 1 rfl) ?_
          refine lv_iload_n hx hb dX6_advance_118 rfl (lv_at hl 0 rfl) ?_
          refine e_callVv (As := [.int (k_at 300 (cx_r_tape S_1) (cx_r_place S_1))]) (rest := []) clE_stable hs ⟨hx, hb, hml, hown, hts⟩ (cC_X6_takeSign l D h cy _ _ _ hw) (cwV 1 hts gX6_advance_X6_takeSign rfl rfl rfl (by decide +kernel) ⟨Nat.le_of_ble_eq_true rfl, Nat.le_of_ble_eq_true rfl⟩) (va_recv hK hP (ci := 6) (q0 := 5) rfl rfl) hK hP hD hS hA rfl hl.1 rfl (Nat.le_of_ble_eq_true rfl) dX6_advance_119 ⟨Nat.zero_le _, Nat.zero_le _⟩ (fun S_10 H locs hw hP hD hS => ?_)
          exact W.vret hx hb hr (fun t ht hW => ⟨⟨S_10, rfl, hw, by rw [ht]; exact hP, va_K.moved hW.alike hK, hD⟩, hS.F ht⟩) hS.2.2 dX6_advance_122
        · have hw := hc_8f c_8
          clear hc_8t hc_8f
          refine lv_aload_n hx hb dX6_advance_110 rfl (lv_at hl 1 rfl) ?_
          refine e_callVv (As := []) (rest := []) clE_stable hs ⟨hx, hb, hml, hown, hts⟩ (cC_X6_takeNumber l D h cy _ _ hw) (cwV 0 hts gX6_advance_X6_takeNumber rfl rfl rfl (by decide +kernel) ⟨Nat.le_of_ble_eq_true rfl, Nat.le_of_ble_eq_true rfl⟩) (va_recv hK hP (ci := 6) (q0 := 5) rfl rfl) hK hP hD hS hA rfl hl.1 rfl (Nat.le_of_ble_eq_true rfl) dX6_advance_111 ⟨Nat.zero_le _, Nat.zero_le _⟩ (fun S_12 H locs hw hP hD hS => ?_)
          refine lv_goto (tgt := 122) hx hb dX6_advance_114 (by decide) ?_
          exact W.vret hx hb hr (fun t ht hW => ⟨⟨S_12, rfl, hw, by rw [ht]; exact hP, va_K.moved hW.alike hK, hD⟩, hS.F ht⟩) hS.2.2 dX6_advance_122
      · have hw := hc_5f c_5
        clear hc_5t hc_5f
        refine lv_aload_n hx hb dX6_advance_96 rfl (lv_at hl 1 rfl) ?_
        refine e_callVv (As := []) (rest := []) clE_stable hs ⟨hx, hb, hml, hown, hts⟩ (cC_X6_takeWord l D h cy _ _ hw) (cwV 0 hts gX6_advance_X6_takeWord rfl rfl rfl (by decide +kernel) ⟨Nat.le_of_ble_eq_true rfl, Nat.le_of_ble_eq_true rfl⟩) (va_recv hK hP (ci := 6) (q0 := 5) rfl rfl) hK hP hD hS hA rfl hl.1 rfl (Nat.le_of_ble_eq_true rfl) dX6_advance_97 ⟨Nat.zero_le _, Nat.zero_le _⟩ (fun S_14 H locs hw hP hD hS => ?_)
        refine lv_goto (tgt := 122) hx hb dX6_advance_100 (by decide) ?_
        exact W.vret hx hb hr (fun t ht hW => ⟨⟨S_14, rfl, hw, by rw [ht]; exact hP, va_K.moved hW.alike hK, hD⟩, hS.F ht⟩) hS.2.2 dX6_advance_122
    · have hw := hc_2f c_2
      clear hc_2t hc_2f
      refine lv_aload_n hx hb dX6_advance_80 rfl (lv_at hl 1 rfl) ?_
      refine lv_bipush (v := 31) hx hb dX6_advance_81 (by decide) ?_
      refine va_put (D := D) (ci := 6) (v := .int 31) (ty := .int) (C := RX6) (T := TX6) (N := 16) hx hb hts hin6 tyX6 tyX6_ok nmX6 hown hK hP hD hS 5 rfl rfl 11 (by decide) w62 (fun _ h9 => h9) rfl (tyX6_ok 11 (by decide)) rfl rfl (Nat.le_of_ble_eq_true rfl) dX6_advance_83 (fun H locs hP hD hS => ?_)
      obtain ⟨S_15, eS_15⟩ : ∃ z : CS, z = (cx_set_r_token S_1 31) := ⟨_, rfl⟩
      replace hw := hw S_15 eS_15
      have hP : va_P D vwCl (wC h cy S_15) H := by rw [eS_15, ← wCp_r_token]; exact hP
      have hD : va_D A (wC h cy S_15) := by rw [eS_15, ← wCp_r_token]; exact hD
      refine lv_goto (tgt := 122) hx hb dX6_advance_86 (by decide) ?_
      exact W.vret hx hb hr (fun t ht hW => ⟨⟨S_15, rfl, hw, by rw [ht]; exact hP, va_K.moved hW.alike hK, hD⟩, hS.F ht⟩) hS.2.2 dX6_advance_122
  have L_8 : ∀ (n8 : Nat) (S : CS) (H : Heap) (locs : List Loc) (ls : Array Slot), wC_X6_advance_8 post n8 S → va_P D vwCl (wC h cy S) H → va_D A (wC h cy S) → va_S A s.heap H locs → lv_has ls 2 [(0, .ref (h 5))] → W p l e (headSpec wsX6_advance { frames := 5, cells := 0, slots := 0, locals := 110 }).room s m (([.ref (h 5)] : List Value).toArray) below meth c H locs 0 0 (MQ below (va_Qv post (k_Post D (tyC cy) (wC h cy) A) A) (([.ref (h 5)] : List Value).toArray) s 0 0 A) (F0 m 8 ls []) := by
    intro n8
    induction n8 with
    | zero => intro S H locs ls hw; exact False.elim hw
    | succ n8 ih_8 =>
      intro S H locs ls hw hP hD hS hl
      unfold wC_X6_advance_8 at hw
      refine lv_aload_n hx hb dX6_advance_8 rfl (lv_at hl 0 rfl) ?_
      refine va_get (D := D) (ci := 6) (v := .int (cx_r_place S)) (C := RX6) (T := TX6) (N := 16) hx hb hts hin6 hown hK hP 5 rfl rfl 9 (by decide) w38 (fun _ h9 => h9) rfl dX6_advance_9 ?_
      refine lv_aload_n hx hb dX6_advance_12 rfl (lv_at hl 0 rfl) ?_
      refine va_get (D := D) (ci := 6) (v := .int (cx_r_length S)) (C := RX6) (T := TX6) (N := 16) hx hb hts hin6 hown hK hP 5 rfl rfl 0 (by decide) w9 (fun _ h9 => h9) rfl dX6_advance_13 ?_
      obtain ⟨hc_16t, hc_16f⟩ := hw
      refine lv_icmp_ge (tgt := 49) hx hb dX6_advance_16 (by decide) (fun c_16 => ?_) (fun c_16 => ?_)
      · have hw := hc_16t c_16
        clear hc_16t hc_16f
        exact J_49 S _ _ _ hw hP hD hS (lv_sub hl [0] rfl)
      · have hw := hc_16f c_16
        clear hc_16t hc_16f
        refine lv_aload_n hx hb dX6_advance_19 rfl (lv_at hl 0 rfl) ?_
        refine va_get (D := D) (ci := 6) (v := .ref (h 36)) (C := RX6) (T := TX6) (N := 16) hx hb hts hin6 hown hK hP 5 rfl rfl 3 (by decide) w21 (fun _ h9 => h9) rfl dX6_advance_20 ?_
        refine lv_aload_n hx hb dX6_advance_23 rfl (lv_at hl 0 rfl) ?_
        refine va_get (D := D) (ci := 6) (v := .int (cx_r_place S)) (C := RX6) (T := TX6) (N := 16) hx hb hts hin6 hown hK hP 5 rfl rfl 9 (by decide) w38 (fun _ h9 => h9) rfl dX6_advance_24 ?_
        refine e_callNi (As := [.ref (h 36), .int (cx_r_place S)]) (rest := []) clE_stable hs ⟨hx, hb, hml, hown, hts⟩ (cA_at l D clE (tyC cy) (wC h cy) S 36 24 _ _ 300 (cx_r_tape S) rfl rfl (by decide) _ (fun r S0 => r = k_at 300 (cx_r_tape S) (cx_r_place S) ∧ S = S0) ⟨rfl, rfl⟩) ⟨va_cnB 2 hts gX6_advance_X11_at_n100 rfl rfl rfl hs.1.2.2.2.2.2.2.2.2.1 wiX11 (by decide +kernel) ⟨Nat.le_of_ble_eq_true rfl, Nat.le_of_ble_eq_true rfl⟩, wstat, trivial⟩ hK hP hD hS hA rfl hl.1 rfl (Nat.le_of_ble_eq_true rfl) dX6_advance_27 ⟨Nat.zero_le _, Nat.zero_le _⟩ (fun r_ S_ H locs hq hP hD hS => ?_)
        obtain ⟨rfl, rfl⟩ := hq
        refine e_callSi (As := [.int (k_at 300 (cx_r_tape S) (cx_r_place S))]) (rest := []) clE_stable hs ⟨hx, hb, hml, hown, hts⟩ (cC_X6_isBlank l D h cy _ _ _ hw) (va_cwS 1 hts gX6_advance_X6_isBlank rfl rfl rfl (by decide +kernel) ⟨Nat.le_of_ble_eq_true rfl, Nat.le_of_ble_eq_true rfl⟩) hK hP hD hS hA rfl hl.1 rfl (Nat.le_of_ble_eq_true rfl) dX6_advance_30 ⟨Nat.zero_le _, Nat.zero_le _⟩ (fun r_17 S_18 H locs hw hP hD hS => ?_)
        obtain ⟨hc_19t, hc_19f⟩ := hw
        refine lv_if_eq (tgt := 49) hx hb dX6_advance_33 (by decide) (fun c_19 => ?_) (fun c_19 => ?_)
        · have hw := hc_19t c_19
          clear hc_19t hc_19f
          exact J_49 S_18 _ _ _ hw hP hD hS (lv_sub hl [0] rfl)
        · have hw := hc_19f c_19
          clear hc_19t hc_19f
          refine lv_aload_n hx hb dX6_advance_36 rfl (lv_at hl 0 rfl) ?_
          refine lv_dup hx hb dX6_advance_37 rfl ?_
          refine va_get (D := D) (ci := 6) (v := .int (cx_r_place S_18)) (C := RX6) (T := TX6) (N := 16) hx hb hts hin6 hown hK hP 5 rfl rfl 9 (by decide) w38 (fun _ h9 => h9) rfl dX6_advance_38 ?_
          refine lv_iconst (v := 1) hx hb dX6_advance_41 (by decide) ?_
          refine lv_iadd hx hb dX6_advance_42 ?_
          refine va_put (D := D) (ci := 6) (v := .int ((cx_r_place S_18) + 1)) (ty := .int) (C := RX6) (T := TX6) (N := 16) hx hb hts hin6 tyX6 tyX6_ok nmX6 hown hK hP hD hS 5 rfl rfl 9 (by decide) w38 (fun _ h9 => h9) rfl (tyX6_ok 9 (by decide)) rfl rfl (Nat.le_of_ble_eq_true rfl) dX6_advance_43 (fun H locs hP hD hS => ?_)
          obtain ⟨S_20, eS_20⟩ : ∃ z : CS, z = (cx_set_r_place S_18 ((cx_r_place S_18) + 1)) := ⟨_, rfl⟩
          replace hw := hw S_20 eS_20
          have hP : va_P D vwCl (wC h cy S_20) H := by rw [eS_20, ← wCp_r_place]; exact hP
          have hD : va_D A (wC h cy S_20) := by rw [eS_20, ← wCp_r_place]; exact hD
          refine lv_goto (tgt := 8) hx hb dX6_advance_46 (by decide) ?_
          exact ih_8 S_20 _ _ _ hw hP hD hS (lv_sub hl [0] rfl)
  refine lv_aload_n hx hb dX6_advance_0 rfl (lv_at hl 0 rfl) ?_
  refine va_get (D := D) (ci := 6) (v := .int (cx_r_fault S)) (C := RX6) (T := TX6) (N := 16) hx hb hts hin6 hown hK hP 5 rfl rfl 13 (by decide) w41 (fun _ h9 => h9) rfl dX6_advance_1 ?_
  obtain ⟨hc_21t, hc_21f⟩ := hw
  refine lv_if_eq (tgt := 8) hx hb dX6_advance_4 (by decide) (fun c_21 => ?_) (fun c_21 => ?_)
  · have hw := hc_21t c_21
    clear hc_21t hc_21f
    obtain ⟨n_8, hw⟩ := hw
    exact L_8 n_8 S _ _ _ hw hP hD hS (lv_sub hl [0] rfl)
  · have hw := hc_21f c_21
    clear hc_21t hc_21f
    exact W.vret hx hb hr (fun t ht hW => ⟨⟨S, rfl, hw, by rw [ht]; exact hP, va_K.moved hW.alike hK, hD⟩, hS.F ht⟩) hS.2.2 dX6_advance_7
def wC_X6_readNumber (p1 : Int32) (p2 : Int32) (p3 : Int32) (S : CS) (post : CS → Prop) : Prop := (((cx_r_token S) = 32 → wC_X11_within (cx_r_number S) p2 p3 S (fun r_2 S_3 => ((r_2 = 0 → wC_X6_fail 2 S_3 (fun S_9 => post S_9)) ∧ (¬ (r_2 = 0) → (∀ S_5 : CS, S_5 = (cx_set_r_clauses S_3 (k_put 96 (cx_r_clauses S_3) (((cx_r_clauseCount S_3) * 4) + p1) (cx_r_number S_3))) → wC_X6_advance S_5 (fun S_7 => post S_7)))))) ∧ (¬ ((cx_r_token S) = 32) → wC_X6_fail 1 S (fun S_11 => post S_11)))
set_option maxHeartbeats 4000000 in
set_option maxRecDepth 100000 in
theorem cC_X6_readNumber (l : Launch) (D : va_G) (h : Nat → Nat) (cy : Nat → ClassId) (p1 : Int32) (p2 : Int32) (p3 : Int32) (S : CS) (post : CS → Prop) (hw : wC_X6_readNumber p1 p2 p3 S post) : e_Mv clE l yX6_readNumber wsX6_readNumber { frames := 6, cells := 0, slots := 0, locals := 131 } D (tyC cy) (wC h cy) [.ref (h 5), .int p1, .int p2, .int p3] S post := by
  intro sz
  refine Met.ofW (cc := cX6_readNumber) (maxL := 4) (ret := none) (by decide) rfl ?_
  intro p e s m args below meth c s₁ B hml hv
  obtain ⟨rfl, hsz, hP, hK, hD0, hs⟩ := hv
  have hx := B.exec
  have hb := B.bytes
  have hr := B.returns
  have hts := atoms_spec (ws := wsX6_readNumber) B.pre
  have hown : s.vm.findClass RX6 = some m.cls := findClass_of_methodNamed B.named
  have hlocks := B.notSynchronized
  subst hsz
  have hD := hD0.self (sz := s.heap.size)
  generalize hAe : va_A (wC h cy S) s.heap.size = A at hD hs ⊢
  have hA : ∀ q : Nat, s.heap.size ≤ q → A q := fun q h => by rw [← hAe]; exact Or.inr h
  have hS : va_S A s.heap s.heap [] := va_S.rf
  have hin6 : ∀ w ∈ wsX60, w ∈ wsX6_readNumber := fun _ h => List.mem_cons_of_mem _ (List.mem_append_right _ h)
  have w120 := hts (.fieldLink RX6 120 "ClownsMourn$Reader" "number" "I") (List.mem_of_getElem? (i := 2) rfl)
  have w25 := hts (.fieldLink RX6 25 "ClownsMourn$Reader" "clauses" "[I") (List.mem_of_getElem? (i := 3) rfl)
  have w44 := hts (.fieldLink RX6 44 "ClownsMourn$Reader" "clauseCount" "I") (List.mem_of_getElem? (i := 4) rfl)
  have w62 := hts (.fieldLink RX6 62 "ClownsMourn$Reader" "token" "I") (List.mem_of_getElem? (i := 1) rfl)
  have wiX11 := hts (.initialized RX11) (List.mem_of_getElem? (i := 12) rfl)
  have wstput := hts (.static yX11_put) (List.mem_of_getElem? (i := 14) rfl)
  have wstwithin := hts (.static yX11_within) (List.mem_of_getElem? (i := 11) rfl)
  have hl := lv_entry ([.ref (h 5), .int p1, .int p2, .int p3]) (n := 4) (Nat.le_of_ble_eq_true rfl)
  rw [lg_entry_eq]
  generalize (lg_sl ([.ref (h 5), .int p1, .int p2, .int p3]) ++ List.replicate (4 - (lg_sl ([.ref (h 5), .int p1, .int p2, .int p3])).length) Slot.unset).toArray = ls at hl ⊢
  have hl : lv_has ls 4 [(0, .ref (h 5)), (1, .int p1), (2, .int p2), (3, .int p3)] := hl
  unfold wC_X6_readNumber at hw
  clear hD0
  refine lv_aload_n hx hb dX6_readNumber_0 rfl (lv_at hl 0 rfl) ?_
  refine va_get (D := D) (ci := 6) (v := .int (cx_r_token S)) (C := RX6) (T := TX6) (N := 16) hx hb hts hin6 hown hK hP 5 rfl rfl 11 (by decide) w62 (fun _ h9 => h9) rfl dX6_readNumber_1 ?_
  refine lv_bipush (v := 32) hx hb dX6_readNumber_4 (by decide) ?_
  obtain ⟨hc_1t, hc_1f⟩ := hw
  refine lv_icmp_eq (tgt := 17) hx hb dX6_readNumber_6 (by decide) (fun c_1 => ?_) (fun c_1 => ?_)
  · have hw := hc_1t c_1
    clear hc_1t hc_1f
    refine lv_aload_n hx hb dX6_readNumber_17 rfl (lv_at hl 0 rfl) ?_
    refine va_get (D := D) (ci := 6) (v := .int (cx_r_number S)) (C := RX6) (T := TX6) (N := 16) hx hb hts hin6 hown hK hP 5 rfl rfl 12 (by decide) w120 (fun _ h9 => h9) rfl dX6_readNumber_18 ?_
    refine lv_iload_n hx hb dX6_readNumber_21 rfl (lv_at hl 2 rfl) ?_
    refine lv_iload_n hx hb dX6_readNumber_22 rfl (lv_at hl 3 rfl) ?_
    refine e_callNi (As := [.int (cx_r_number S), .int p2, .int p3]) (rest := []) clE_stable hs ⟨hx, hb, hml, hown, hts⟩ (cC_X11_within l D h cy _ _ _ _ _ hw) ⟨va_cnB 3 hts gX6_readNumber_X11_within_n123 rfl rfl rfl hs.1.2.2.2.2.2.2.2.2.2.1 wiX11 (by decide +kernel) ⟨Nat.le_of_ble_eq_true rfl, Nat.le_of_ble_eq_true rfl⟩, wstwithin, trivial⟩ hK hP hD hS hA rfl hl.1 rfl (Nat.le_of_ble_eq_true rfl) dX6_readNumber_23 ⟨Nat.zero_le _, Nat.zero_le _⟩ (fun r_2 S_3 H locs hw hP hD hS => ?_)
    obtain ⟨hc_4t, hc_4f⟩ := hw
    refine lv_if_ne (tgt := 37) hx hb dX6_readNumber_26 (by decide) (fun c_4 => ?_) (fun c_4 => ?_)
    · have hw := hc_4f c_4
      clear hc_4t hc_4f
      refine lv_aload_n hx hb dX6_readNumber_37 rfl (lv_at hl 0 rfl) ?_
      refine va_get (D := D) (ci := 6) (v := .ref (h 37)) (C := RX6) (T := TX6) (N := 16) hx hb hts hin6 hown hK hP 5 rfl rfl 4 (by decide) w25 (fun _ h9 => h9) rfl dX6_readNumber_38 ?_
      refine lv_aload_n hx hb dX6_readNumber_41 rfl (lv_at hl 0 rfl) ?_
      refine va_get (D := D) (ci := 6) (v := .int (cx_r_clauseCount S_3)) (C := RX6) (T := TX6) (N := 16) hx hb hts hin6 hown hK hP 5 rfl rfl 7 (by decide) w44 (fun _ h9 => h9) rfl dX6_readNumber_42 ?_
      refine lv_iconst (v := 4) hx hb dX6_readNumber_45 (by decide) ?_
      refine lv_imul hx hb dX6_readNumber_46 ?_
      refine lv_iload_n hx hb dX6_readNumber_47 rfl (lv_at hl 1 rfl) ?_
      refine lv_iadd hx hb dX6_readNumber_48 ?_
      refine lv_aload_n hx hb dX6_readNumber_49 rfl (lv_at hl 0 rfl) ?_
      refine va_get (D := D) (ci := 6) (v := .int (cx_r_number S_3)) (C := RX6) (T := TX6) (N := 16) hx hb hts hin6 hown hK hP 5 rfl rfl 12 (by decide) w120 (fun _ h9 => h9) rfl dX6_readNumber_50 ?_
      refine e_callNv (As := [.ref (h 37), .int (((cx_r_clauseCount S_3) * 4) + p1), .int (cx_r_number S_3)]) (rest := []) clE_stable hs ⟨hx, hb, hml, hown, hts⟩ (cA_put l D clE (tyC cy) (wC h cy) cx_r_clauses cx_set_r_clauses S_3 37 25 _ _ 96 rfl (wCs_r_clauses h cy S_3) rfl (by decide) _ _ (fun S0 => S0 = (cx_set_r_clauses S_3 (k_put 96 (cx_r_clauses S_3) (((cx_r_clauseCount S_3) * 4) + p1) (cx_r_number S_3)))) rfl) ⟨va_cnB 3 hts gX6_readNumber_X11_put_n34 rfl rfl rfl hs.1.2.2.2.2.2.2.2.1 wiX11 (by decide +kernel) ⟨Nat.le_of_ble_eq_true rfl, Nat.le_of_ble_eq_true rfl⟩, wstput, trivial⟩ hK hP hD hS hA rfl hl.1 rfl (Nat.le_of_ble_eq_true rfl) dX6_readNumber_53 ⟨Nat.zero_le _, Nat.zero_le _⟩ (fun S_5 H locs eS_5 hP hD hS => ?_)
      replace hw := hw S_5 eS_5
      refine lv_aload_n hx hb dX6_readNumber_56 rfl (lv_at hl 0 rfl) ?_
      refine e_callVv (As := []) (rest := []) clE_stable hs ⟨hx, hb, hml, hown, hts⟩ (cC_X6_advance l D h cy _ _ hw) (cwV 0 hts gX6_readNumber_X6_advance rfl rfl rfl (by decide +kernel) ⟨Nat.le_of_ble_eq_true rfl, Nat.le_of_ble_eq_true rfl⟩) (va_recv hK hP (ci := 6) (q0 := 5) rfl rfl) hK hP hD hS hA rfl hl.1 rfl (Nat.le_of_ble_eq_true rfl) dX6_readNumber_57 ⟨Nat.zero_le _, Nat.zero_le _⟩ (fun S_7 H locs hw hP hD hS => ?_)
      exact W.vret hx hb hr (fun t ht hW => ⟨⟨S_7, rfl, hw, by rw [ht]; exact hP, va_K.moved hW.alike hK, hD⟩, hS.F ht⟩) hS.2.2 dX6_readNumber_60
    · have hw := hc_4t c_4
      clear hc_4t hc_4f
      refine lv_aload_n hx hb dX6_readNumber_29 rfl (lv_at hl 0 rfl) ?_
      refine lv_iconst (v := 2) hx hb dX6_readNumber_30 (by decide) ?_
      refine e_callVv (As := [.int 2]) (rest := []) clE_stable hs ⟨hx, hb, hml, hown, hts⟩ (cC_X6_fail l D h cy _ _ _ hw) (cwV 1 hts gX6_readNumber_X6_fail rfl rfl rfl (by decide +kernel) ⟨Nat.le_of_ble_eq_true rfl, Nat.le_of_ble_eq_true rfl⟩) (va_recv hK hP (ci := 6) (q0 := 5) rfl rfl) hK hP hD hS hA rfl hl.1 rfl (Nat.le_of_ble_eq_true rfl) dX6_readNumber_31 ⟨Nat.zero_le _, Nat.zero_le _⟩ (fun S_9 H locs hw hP hD hS => ?_)
      refine lv_goto (tgt := 60) hx hb dX6_readNumber_34 (by decide) ?_
      exact W.vret hx hb hr (fun t ht hW => ⟨⟨S_9, rfl, hw, by rw [ht]; exact hP, va_K.moved hW.alike hK, hD⟩, hS.F ht⟩) hS.2.2 dX6_readNumber_60
  · have hw := hc_1f c_1
    clear hc_1t hc_1f
    refine lv_aload_n hx hb dX6_readNumber_9 rfl (lv_at hl 0 rfl) ?_
    refine lv_iconst (v := 1) hx hb dX6_readNumber_10 (by decide) ?_
    refine e_callVv (As := [.int 1]) (rest := []) clE_stable hs ⟨hx, hb, hml, hown, hts⟩ (cC_X6_fail l D h cy _ _ _ hw) (cwV 1 hts gX6_readNumber_X6_fail rfl rfl rfl (by decide +kernel) ⟨Nat.le_of_ble_eq_true rfl, Nat.le_of_ble_eq_true rfl⟩) (va_recv hK hP (ci := 6) (q0 := 5) rfl rfl) hK hP hD hS hA rfl hl.1 rfl (Nat.le_of_ble_eq_true rfl) dX6_readNumber_11 ⟨Nat.zero_le _, Nat.zero_le _⟩ (fun S_11 H locs hw hP hD hS => ?_)
    refine lv_goto (tgt := 60) hx hb dX6_readNumber_14 (by decide) ?_
    exact W.vret hx hb hr (fun t ht hW => ⟨⟨S_11, rfl, hw, by rw [ht]; exact hP, va_K.moved hW.alike hK, hD⟩, hS.F ht⟩) hS.2.2 dX6_readNumber_60
def wC_X6_expect (p1 : Int32) (S : CS) (post : CS → Prop) : Prop := (((cx_r_token S) = p1 → wC_X6_advance S (fun S_5 => post S_5)) ∧ (¬ ((cx_r_token S) = p1) → wC_X6_fail 1 S (fun S_3 => post S_3)))
set_option maxHeartbeats 4000000 in
set_option maxRecDepth 100000 in
theorem cC_X6_expect (l : Launch) (D : va_G) (h : Nat → Nat) (cy : Nat → ClassId) (p1 : Int32) (S : CS) (post : CS → Prop) (hw : wC_X6_expect p1 S post) : e_Mv clE l yX6_expect wsX6_expect { frames := 6, cells := 0, slots := 0, locals := 131 } D (tyC cy) (wC h cy) [.ref (h 5), .int p1] S post := by
  intro sz
  refine Met.ofW (cc := cX6_expect) (maxL := 2) (ret := none) (by decide) rfl ?_
  intro p e s m args below meth c s₁ B hml hv
  obtain ⟨rfl, hsz, hP, hK, hD0, hs⟩ := hv
  have hx := B.exec
  have hb := B.bytes
  have hr := B.returns
  have hts := atoms_spec (ws := wsX6_expect) B.pre
  have hown : s.vm.findClass RX6 = some m.cls := findClass_of_methodNamed B.named
  have hlocks := B.notSynchronized
  subst hsz
  have hD := hD0.self (sz := s.heap.size)
  generalize hAe : va_A (wC h cy S) s.heap.size = A at hD hs ⊢
  have hA : ∀ q : Nat, s.heap.size ≤ q → A q := fun q h => by rw [← hAe]; exact Or.inr h
  have hS : va_S A s.heap s.heap [] := va_S.rf
  have hin6 : ∀ w ∈ wsX60, w ∈ wsX6_expect := fun _ h => List.mem_cons_of_mem _ (List.mem_append_right _ h)
  have w62 := hts (.fieldLink RX6 62 "ClownsMourn$Reader" "token" "I") (List.mem_of_getElem? (i := 1) rfl)
  have hl := lv_entry ([.ref (h 5), .int p1]) (n := 2) (Nat.le_of_ble_eq_true rfl)
  rw [lg_entry_eq]
  generalize (lg_sl ([.ref (h 5), .int p1]) ++ List.replicate (2 - (lg_sl ([.ref (h 5), .int p1])).length) Slot.unset).toArray = ls at hl ⊢
  have hl : lv_has ls 2 [(0, .ref (h 5)), (1, .int p1)] := hl
  unfold wC_X6_expect at hw
  clear hD0
  refine lv_aload_n hx hb dX6_expect_0 rfl (lv_at hl 0 rfl) ?_
  refine va_get (D := D) (ci := 6) (v := .int (cx_r_token S)) (C := RX6) (T := TX6) (N := 16) hx hb hts hin6 hown hK hP 5 rfl rfl 11 (by decide) w62 (fun _ h9 => h9) rfl dX6_expect_1 ?_
  refine lv_iload_n hx hb dX6_expect_4 rfl (lv_at hl 1 rfl) ?_
  obtain ⟨hc_1t, hc_1f⟩ := hw
  refine lv_icmp_ne (tgt := 15) hx hb dX6_expect_5 (by decide) (fun c_1 => ?_) (fun c_1 => ?_)
  · have hw := hc_1f c_1
    clear hc_1t hc_1f
    refine lv_aload_n hx hb dX6_expect_15 rfl (lv_at hl 0 rfl) ?_
    refine lv_iconst (v := 1) hx hb dX6_expect_16 (by decide) ?_
    refine e_callVv (As := [.int 1]) (rest := []) clE_stable hs ⟨hx, hb, hml, hown, hts⟩ (cC_X6_fail l D h cy _ _ _ hw) (cwV 1 hts gX6_expect_X6_fail rfl rfl rfl (by decide +kernel) ⟨Nat.le_of_ble_eq_true rfl, Nat.le_of_ble_eq_true rfl⟩) (va_recv hK hP (ci := 6) (q0 := 5) rfl rfl) hK hP hD hS hA rfl hl.1 rfl (Nat.le_of_ble_eq_true rfl) dX6_expect_17 ⟨Nat.zero_le _, Nat.zero_le _⟩ (fun S_3 H locs hw hP hD hS => ?_)
    exact W.vret hx hb hr (fun t ht hW => ⟨⟨S_3, rfl, hw, by rw [ht]; exact hP, va_K.moved hW.alike hK, hD⟩, hS.F ht⟩) hS.2.2 dX6_expect_20
  · have hw := hc_1t c_1
    clear hc_1t hc_1f
    refine lv_aload_n hx hb dX6_expect_8 rfl (lv_at hl 0 rfl) ?_
    refine e_callVv (As := []) (rest := []) clE_stable hs ⟨hx, hb, hml, hown, hts⟩ (cC_X6_advance l D h cy _ _ hw) (cwV 0 hts gX6_expect_X6_advance rfl rfl rfl (by decide +kernel) ⟨Nat.le_of_ble_eq_true rfl, Nat.le_of_ble_eq_true rfl⟩) (va_recv hK hP (ci := 6) (q0 := 5) rfl rfl) hK hP hD hS hA rfl hl.1 rfl (Nat.le_of_ble_eq_true rfl) dX6_expect_9 ⟨Nat.zero_le _, Nat.zero_le _⟩ (fun S_5 H locs hw hP hD hS => ?_)
    refine lv_goto (tgt := 20) hx hb dX6_expect_12 (by decide) ?_
    exact W.vret hx hb hr (fun t ht hW => ⟨⟨S_5, rfl, hw, by rw [ht]; exact hP, va_K.moved hW.alike hK, hD⟩, hS.F ht⟩) hS.2.2 dX6_expect_20
def wC_X6_readDeed (p1 : Int32) (S : CS) (post : CS → Prop) : Prop := ((p1 = 3 → wC_X6_readNumber 1 0 9 S (fun S_2 => wC_X6_expect 18 S_2 (fun S_4 => wC_X6_readNumber 2 0 4 S_4 (fun S_6 => wC_X6_expect 19 S_6 (fun S_8 => wC_X6_readNumber 3 0 9 S_8 (fun S_10 => post S_10)))))) ∧ (p1 = 5 → wC_X6_readNumber 1 0 3 S (fun S_13 => wC_X6_expect 2 S_13 (fun S_15 => wC_X6_readNumber 2 0 99 S_15 (fun S_17 => post S_17)))) ∧ (p1 = 9 → wC_X6_readNumber 1 0 4 S (fun S_20 => wC_X6_expect 18 S_20 (fun S_22 => wC_X6_readNumber 2 0 4 S_22 (fun S_24 => post S_24)))) ∧ (p1 = 15 → wC_X6_readNumber 1 1 9 S (fun S_27 => wC_X6_expect 7 S_27 (fun S_29 => wC_X6_readNumber 2 0 99 S_29 (fun S_31 => post S_31)))) ∧ (p1 = 16 → wC_X6_readNumber 1 0 4 S (fun S_34 => wC_X6_expect 19 S_34 (fun S_36 => wC_X6_readNumber 2 0 5 S_36 (fun S_38 => post S_38)))) ∧ (p1 = 17 → wC_X6_readNumber 1 0 4 S (fun S_41 => post S_41)) ∧ (¬ p1 = 3 → ¬ p1 = 5 → ¬ p1 = 9 → ¬ p1 = 15 → ¬ p1 = 16 → ¬ p1 = 17 → wC_X6_readNumber 1 1 60 S (fun S_44 => post S_44)))
set_option maxHeartbeats 4000000 in
set_option maxRecDepth 100000 in
theorem cC_X6_readDeed (l : Launch) (D : va_G) (h : Nat → Nat) (cy : Nat → ClassId) (p1 : Int32) (S : CS) (post : CS → Prop) (hw : wC_X6_readDeed p1 S post) : e_Mv clE l yX6_readDeed wsX6_readDeed { frames := 7, cells := 0, slots := 0, locals := 154 } D (tyC cy) (wC h cy) [.ref (h 5), .int p1] S post := by
  intro sz
  refine Met.ofW (cc := cX6_readDeed) (maxL := 2) (ret := none) (by decide) rfl ?_
  intro p e s m args below meth c s₁ B hml hv
  obtain ⟨rfl, hsz, hP, hK, hD0, hs⟩ := hv
  have hx := B.exec
  have hb := B.bytes
  have hr := B.returns
  have hts := atoms_spec (ws := wsX6_readDeed) B.pre
  have hown : s.vm.findClass RX6 = some m.cls := findClass_of_methodNamed B.named
  have hlocks := B.notSynchronized
  subst hsz
  have hD := hD0.self (sz := s.heap.size)
  generalize hAe : va_A (wC h cy S) s.heap.size = A at hD hs ⊢
  have hA : ∀ q : Nat, s.heap.size ≤ q → A q := fun q h => by rw [← hAe]; exact Or.inr h
  have hS : va_S A s.heap s.heap [] := va_S.rf
  have hl := lv_entry ([.ref (h 5), .int p1]) (n := 2) (Nat.le_of_ble_eq_true rfl)
  rw [lg_entry_eq]
  generalize (lg_sl ([.ref (h 5), .int p1]) ++ List.replicate (2 - (lg_sl ([.ref (h 5), .int p1])).length) Slot.unset).toArray = ls at hl ⊢
  have hl : lv_has ls 2 [(0, .ref (h 5)), (1, .int p1)] := hl
  unfold wC_X6_readDeed at hw
  clear hD0
  refine lv_iload_n hx hb dX6_readDeed_0 rfl (lv_at hl 1 rfl) ?_
  obtain ⟨hc_11, hw⟩ := hw
  by_cases c_11 : p1 = 3
  · have hw := hc_11 c_11
    refine lv_tableIn (off := 123) (tgt := 124) hx hb dX6_readDeed_1 (by rw [c_11]; decide) (by rw [c_11]; decide) (by rw [c_11]; rfl) (by decide) ?_
    refine lv_aload_n hx hb dX6_readDeed_124 rfl (lv_at hl 0 rfl) ?_
    refine lv_iconst (v := 1) hx hb dX6_readDeed_125 (by decide) ?_
    refine lv_iconst (v := 0) hx hb dX6_readDeed_126 (by decide) ?_
    refine lv_bipush (v := 9) hx hb dX6_readDeed_127 (by decide) ?_
    refine e_callVv (As := [.int 1, .int 0, .int 9]) (rest := []) clE_stable hs ⟨hx, hb, hml, hown, hts⟩ (cC_X6_readNumber l D h cy _ _ _ _ _ hw) (cwV 3 hts gX6_readDeed_X6_readNumber rfl rfl rfl (by decide +kernel) ⟨Nat.le_of_ble_eq_true rfl, Nat.le_of_ble_eq_true rfl⟩) (va_recv hK hP (ci := 6) (q0 := 5) rfl rfl) hK hP hD hS hA rfl hl.1 rfl (Nat.le_of_ble_eq_true rfl) dX6_readDeed_129 ⟨Nat.zero_le _, Nat.zero_le _⟩ (fun S_2 H locs hw hP hD hS => ?_)
    refine lv_aload_n hx hb dX6_readDeed_132 rfl (lv_at hl 0 rfl) ?_
    refine lv_bipush (v := 18) hx hb dX6_readDeed_133 (by decide) ?_
    refine e_callVv (As := [.int 18]) (rest := []) clE_stable hs ⟨hx, hb, hml, hown, hts⟩ (cC_X6_expect l D h cy _ _ _ hw) (cwV 1 hts gX6_readDeed_X6_expect rfl rfl rfl (by decide +kernel) ⟨Nat.le_of_ble_eq_true rfl, Nat.le_of_ble_eq_true rfl⟩) (va_recv hK hP (ci := 6) (q0 := 5) rfl rfl) hK hP hD hS hA rfl hl.1 rfl (Nat.le_of_ble_eq_true rfl) dX6_readDeed_135 ⟨Nat.zero_le _, Nat.zero_le _⟩ (fun S_4 H locs hw hP hD hS => ?_)
    refine lv_aload_n hx hb dX6_readDeed_138 rfl (lv_at hl 0 rfl) ?_
    refine lv_iconst (v := 2) hx hb dX6_readDeed_139 (by decide) ?_
    refine lv_iconst (v := 0) hx hb dX6_readDeed_140 (by decide) ?_
    refine lv_iconst (v := 4) hx hb dX6_readDeed_141 (by decide) ?_
    refine e_callVv (As := [.int 2, .int 0, .int 4]) (rest := []) clE_stable hs ⟨hx, hb, hml, hown, hts⟩ (cC_X6_readNumber l D h cy _ _ _ _ _ hw) (cwV 3 hts gX6_readDeed_X6_readNumber rfl rfl rfl (by decide +kernel) ⟨Nat.le_of_ble_eq_true rfl, Nat.le_of_ble_eq_true rfl⟩) (va_recv hK hP (ci := 6) (q0 := 5) rfl rfl) hK hP hD hS hA rfl hl.1 rfl (Nat.le_of_ble_eq_true rfl) dX6_readDeed_142 ⟨Nat.zero_le _, Nat.zero_le _⟩ (fun S_6 H locs hw hP hD hS => ?_)
    refine lv_aload_n hx hb dX6_readDeed_145 rfl (lv_at hl 0 rfl) ?_
    refine lv_bipush (v := 19) hx hb dX6_readDeed_146 (by decide) ?_
    refine e_callVv (As := [.int 19]) (rest := []) clE_stable hs ⟨hx, hb, hml, hown, hts⟩ (cC_X6_expect l D h cy _ _ _ hw) (cwV 1 hts gX6_readDeed_X6_expect rfl rfl rfl (by decide +kernel) ⟨Nat.le_of_ble_eq_true rfl, Nat.le_of_ble_eq_true rfl⟩) (va_recv hK hP (ci := 6) (q0 := 5) rfl rfl) hK hP hD hS hA rfl hl.1 rfl (Nat.le_of_ble_eq_true rfl) dX6_readDeed_148 ⟨Nat.zero_le _, Nat.zero_le _⟩ (fun S_8 H locs hw hP hD hS => ?_)
    refine lv_aload_n hx hb dX6_readDeed_151 rfl (lv_at hl 0 rfl) ?_
    refine lv_iconst (v := 3) hx hb dX6_readDeed_152 (by decide) ?_
    refine lv_iconst (v := 0) hx hb dX6_readDeed_153 (by decide) ?_
    refine lv_bipush (v := 9) hx hb dX6_readDeed_154 (by decide) ?_
    refine e_callVv (As := [.int 3, .int 0, .int 9]) (rest := []) clE_stable hs ⟨hx, hb, hml, hown, hts⟩ (cC_X6_readNumber l D h cy _ _ _ _ _ hw) (cwV 3 hts gX6_readDeed_X6_readNumber rfl rfl rfl (by decide +kernel) ⟨Nat.le_of_ble_eq_true rfl, Nat.le_of_ble_eq_true rfl⟩) (va_recv hK hP (ci := 6) (q0 := 5) rfl rfl) hK hP hD hS hA rfl hl.1 rfl (Nat.le_of_ble_eq_true rfl) dX6_readDeed_156 ⟨Nat.zero_le _, Nat.zero_le _⟩ (fun S_10 H locs hw hP hD hS => ?_)
    refine lv_goto (tgt := 226) hx hb dX6_readDeed_159 (by decide) ?_
    exact W.vret hx hb hr (fun t ht hW => ⟨⟨S_10, rfl, hw, by rw [ht]; exact hP, va_K.moved hW.alike hK, hD⟩, hS.F ht⟩) hS.2.2 dX6_readDeed_226
  obtain ⟨hc_18, hw⟩ := hw
  by_cases c_18 : p1 = 5
  · have hw := hc_18 c_18
    refine lv_tableIn (off := 75) (tgt := 76) hx hb dX6_readDeed_1 (by rw [c_18]; decide) (by rw [c_18]; decide) (by rw [c_18]; rfl) (by decide) ?_
    refine lv_aload_n hx hb dX6_readDeed_76 rfl (lv_at hl 0 rfl) ?_
    refine lv_iconst (v := 1) hx hb dX6_readDeed_77 (by decide) ?_
    refine lv_iconst (v := 0) hx hb dX6_readDeed_78 (by decide) ?_
    refine lv_iconst (v := 3) hx hb dX6_readDeed_79 (by decide) ?_
    refine e_callVv (As := [.int 1, .int 0, .int 3]) (rest := []) clE_stable hs ⟨hx, hb, hml, hown, hts⟩ (cC_X6_readNumber l D h cy _ _ _ _ _ hw) (cwV 3 hts gX6_readDeed_X6_readNumber rfl rfl rfl (by decide +kernel) ⟨Nat.le_of_ble_eq_true rfl, Nat.le_of_ble_eq_true rfl⟩) (va_recv hK hP (ci := 6) (q0 := 5) rfl rfl) hK hP hD hS hA rfl hl.1 rfl (Nat.le_of_ble_eq_true rfl) dX6_readDeed_80 ⟨Nat.zero_le _, Nat.zero_le _⟩ (fun S_13 H locs hw hP hD hS => ?_)
    refine lv_aload_n hx hb dX6_readDeed_83 rfl (lv_at hl 0 rfl) ?_
    refine lv_iconst (v := 2) hx hb dX6_readDeed_84 (by decide) ?_
    refine e_callVv (As := [.int 2]) (rest := []) clE_stable hs ⟨hx, hb, hml, hown, hts⟩ (cC_X6_expect l D h cy _ _ _ hw) (cwV 1 hts gX6_readDeed_X6_expect rfl rfl rfl (by decide +kernel) ⟨Nat.le_of_ble_eq_true rfl, Nat.le_of_ble_eq_true rfl⟩) (va_recv hK hP (ci := 6) (q0 := 5) rfl rfl) hK hP hD hS hA rfl hl.1 rfl (Nat.le_of_ble_eq_true rfl) dX6_readDeed_85 ⟨Nat.zero_le _, Nat.zero_le _⟩ (fun S_15 H locs hw hP hD hS => ?_)
    refine lv_aload_n hx hb dX6_readDeed_88 rfl (lv_at hl 0 rfl) ?_
    refine lv_iconst (v := 2) hx hb dX6_readDeed_89 (by decide) ?_
    refine lv_iconst (v := 0) hx hb dX6_readDeed_90 (by decide) ?_
    refine lv_bipush (v := 99) hx hb dX6_readDeed_91 (by decide) ?_
    refine e_callVv (As := [.int 2, .int 0, .int 99]) (rest := []) clE_stable hs ⟨hx, hb, hml, hown, hts⟩ (cC_X6_readNumber l D h cy _ _ _ _ _ hw) (cwV 3 hts gX6_readDeed_X6_readNumber rfl rfl rfl (by decide +kernel) ⟨Nat.le_of_ble_eq_true rfl, Nat.le_of_ble_eq_true rfl⟩) (va_recv hK hP (ci := 6) (q0 := 5) rfl rfl) hK hP hD hS hA rfl hl.1 rfl (Nat.le_of_ble_eq_true rfl) dX6_readDeed_93 ⟨Nat.zero_le _, Nat.zero_le _⟩ (fun S_17 H locs hw hP hD hS => ?_)
    refine lv_goto (tgt := 226) hx hb dX6_readDeed_96 (by decide) ?_
    exact W.vret hx hb hr (fun t ht hW => ⟨⟨S_17, rfl, hw, by rw [ht]; exact hP, va_K.moved hW.alike hK, hD⟩, hS.F ht⟩) hS.2.2 dX6_readDeed_226
  obtain ⟨hc_25, hw⟩ := hw
  by_cases c_25 : p1 = 9
  · have hw := hc_25 c_25
    refine lv_tableIn (off := 184) (tgt := 185) hx hb dX6_readDeed_1 (by rw [c_25]; decide) (by rw [c_25]; decide) (by rw [c_25]; rfl) (by decide) ?_
    refine lv_aload_n hx hb dX6_readDeed_185 rfl (lv_at hl 0 rfl) ?_
    refine lv_iconst (v := 1) hx hb dX6_readDeed_186 (by decide) ?_
    refine lv_iconst (v := 0) hx hb dX6_readDeed_187 (by decide) ?_
    refine lv_iconst (v := 4) hx hb dX6_readDeed_188 (by decide) ?_
    refine e_callVv (As := [.int 1, .int 0, .int 4]) (rest := []) clE_stable hs ⟨hx, hb, hml, hown, hts⟩ (cC_X6_readNumber l D h cy _ _ _ _ _ hw) (cwV 3 hts gX6_readDeed_X6_readNumber rfl rfl rfl (by decide +kernel) ⟨Nat.le_of_ble_eq_true rfl, Nat.le_of_ble_eq_true rfl⟩) (va_recv hK hP (ci := 6) (q0 := 5) rfl rfl) hK hP hD hS hA rfl hl.1 rfl (Nat.le_of_ble_eq_true rfl) dX6_readDeed_189 ⟨Nat.zero_le _, Nat.zero_le _⟩ (fun S_20 H locs hw hP hD hS => ?_)
    refine lv_aload_n hx hb dX6_readDeed_192 rfl (lv_at hl 0 rfl) ?_
    refine lv_bipush (v := 18) hx hb dX6_readDeed_193 (by decide) ?_
    refine e_callVv (As := [.int 18]) (rest := []) clE_stable hs ⟨hx, hb, hml, hown, hts⟩ (cC_X6_expect l D h cy _ _ _ hw) (cwV 1 hts gX6_readDeed_X6_expect rfl rfl rfl (by decide +kernel) ⟨Nat.le_of_ble_eq_true rfl, Nat.le_of_ble_eq_true rfl⟩) (va_recv hK hP (ci := 6) (q0 := 5) rfl rfl) hK hP hD hS hA rfl hl.1 rfl (Nat.le_of_ble_eq_true rfl) dX6_readDeed_195 ⟨Nat.zero_le _, Nat.zero_le _⟩ (fun S_22 H locs hw hP hD hS => ?_)
    refine lv_aload_n hx hb dX6_readDeed_198 rfl (lv_at hl 0 rfl) ?_
    refine lv_iconst (v := 2) hx hb dX6_readDeed_199 (by decide) ?_
    refine lv_iconst (v := 0) hx hb dX6_readDeed_200 (by decide) ?_
    refine lv_iconst (v := 4) hx hb dX6_readDeed_201 (by decide) ?_
    refine e_callVv (As := [.int 2, .int 0, .int 4]) (rest := []) clE_stable hs ⟨hx, hb, hml, hown, hts⟩ (cC_X6_readNumber l D h cy _ _ _ _ _ hw) (cwV 3 hts gX6_readDeed_X6_readNumber rfl rfl rfl (by decide +kernel) ⟨Nat.le_of_ble_eq_true rfl, Nat.le_of_ble_eq_true rfl⟩) (va_recv hK hP (ci := 6) (q0 := 5) rfl rfl) hK hP hD hS hA rfl hl.1 rfl (Nat.le_of_ble_eq_true rfl) dX6_readDeed_202 ⟨Nat.zero_le _, Nat.zero_le _⟩ (fun S_24 H locs hw hP hD hS => ?_)
    refine lv_goto (tgt := 226) hx hb dX6_readDeed_205 (by decide) ?_
    exact W.vret hx hb hr (fun t ht hW => ⟨⟨S_24, rfl, hw, by rw [ht]; exact hP, va_K.moved hW.alike hK, hD⟩, hS.F ht⟩) hS.2.2 dX6_readDeed_226
  obtain ⟨hc_32, hw⟩ := hw
  by_cases c_32 : p1 = 15
  · have hw := hc_32 c_32
    refine lv_tableIn (off := 98) (tgt := 99) hx hb dX6_readDeed_1 (by rw [c_32]; decide) (by rw [c_32]; decide) (by rw [c_32]; rfl) (by decide) ?_
    refine lv_aload_n hx hb dX6_readDeed_99 rfl (lv_at hl 0 rfl) ?_
    refine lv_iconst (v := 1) hx hb dX6_readDeed_100 (by decide) ?_
    refine lv_iconst (v := 1) hx hb dX6_readDeed_101 (by decide) ?_
    refine lv_bipush (v := 9) hx hb dX6_readDeed_102 (by decide) ?_
    refine e_callVv (As := [.int 1, .int 1, .int 9]) (rest := []) clE_stable hs ⟨hx, hb, hml, hown, hts⟩ (cC_X6_readNumber l D h cy _ _ _ _ _ hw) (cwV 3 hts gX6_readDeed_X6_readNumber rfl rfl rfl (by decide +kernel) ⟨Nat.le_of_ble_eq_true rfl, Nat.le_of_ble_eq_true rfl⟩) (va_recv hK hP (ci := 6) (q0 := 5) rfl rfl) hK hP hD hS hA rfl hl.1 rfl (Nat.le_of_ble_eq_true rfl) dX6_readDeed_104 ⟨Nat.zero_le _, Nat.zero_le _⟩ (fun S_27 H locs hw hP hD hS => ?_)
    refine lv_aload_n hx hb dX6_readDeed_107 rfl (lv_at hl 0 rfl) ?_
    refine lv_bipush (v := 7) hx hb dX6_readDeed_108 (by decide) ?_
    refine e_callVv (As := [.int 7]) (rest := []) clE_stable hs ⟨hx, hb, hml, hown, hts⟩ (cC_X6_expect l D h cy _ _ _ hw) (cwV 1 hts gX6_readDeed_X6_expect rfl rfl rfl (by decide +kernel) ⟨Nat.le_of_ble_eq_true rfl, Nat.le_of_ble_eq_true rfl⟩) (va_recv hK hP (ci := 6) (q0 := 5) rfl rfl) hK hP hD hS hA rfl hl.1 rfl (Nat.le_of_ble_eq_true rfl) dX6_readDeed_110 ⟨Nat.zero_le _, Nat.zero_le _⟩ (fun S_29 H locs hw hP hD hS => ?_)
    refine lv_aload_n hx hb dX6_readDeed_113 rfl (lv_at hl 0 rfl) ?_
    refine lv_iconst (v := 2) hx hb dX6_readDeed_114 (by decide) ?_
    refine lv_iconst (v := 0) hx hb dX6_readDeed_115 (by decide) ?_
    refine lv_bipush (v := 99) hx hb dX6_readDeed_116 (by decide) ?_
    refine e_callVv (As := [.int 2, .int 0, .int 99]) (rest := []) clE_stable hs ⟨hx, hb, hml, hown, hts⟩ (cC_X6_readNumber l D h cy _ _ _ _ _ hw) (cwV 3 hts gX6_readDeed_X6_readNumber rfl rfl rfl (by decide +kernel) ⟨Nat.le_of_ble_eq_true rfl, Nat.le_of_ble_eq_true rfl⟩) (va_recv hK hP (ci := 6) (q0 := 5) rfl rfl) hK hP hD hS hA rfl hl.1 rfl (Nat.le_of_ble_eq_true rfl) dX6_readDeed_118 ⟨Nat.zero_le _, Nat.zero_le _⟩ (fun S_31 H locs hw hP hD hS => ?_)
    refine lv_goto (tgt := 226) hx hb dX6_readDeed_121 (by decide) ?_
    exact W.vret hx hb hr (fun t ht hW => ⟨⟨S_31, rfl, hw, by rw [ht]; exact hP, va_K.moved hW.alike hK, hD⟩, hS.F ht⟩) hS.2.2 dX6_readDeed_226
  obtain ⟨hc_39, hw⟩ := hw
  by_cases c_39 : p1 = 16
  · have hw := hc_39 c_39
    refine lv_tableIn (off := 161) (tgt := 162) hx hb dX6_readDeed_1 (by rw [c_39]; decide) (by rw [c_39]; decide) (by rw [c_39]; rfl) (by decide) ?_
    refine lv_aload_n hx hb dX6_readDeed_162 rfl (lv_at hl 0 rfl) ?_
    refine lv_iconst (v := 1) hx hb dX6_readDeed_163 (by decide) ?_
    refine lv_iconst (v := 0) hx hb dX6_readDeed_164 (by decide) ?_
    refine lv_iconst (v := 4) hx hb dX6_readDeed_165 (by decide) ?_
    refine e_callVv (As := [.int 1, .int 0, .int 4]) (rest := []) clE_stable hs ⟨hx, hb, hml, hown, hts⟩ (cC_X6_readNumber l D h cy _ _ _ _ _ hw) (cwV 3 hts gX6_readDeed_X6_readNumber rfl rfl rfl (by decide +kernel) ⟨Nat.le_of_ble_eq_true rfl, Nat.le_of_ble_eq_true rfl⟩) (va_recv hK hP (ci := 6) (q0 := 5) rfl rfl) hK hP hD hS hA rfl hl.1 rfl (Nat.le_of_ble_eq_true rfl) dX6_readDeed_166 ⟨Nat.zero_le _, Nat.zero_le _⟩ (fun S_34 H locs hw hP hD hS => ?_)
    refine lv_aload_n hx hb dX6_readDeed_169 rfl (lv_at hl 0 rfl) ?_
    refine lv_bipush (v := 19) hx hb dX6_readDeed_170 (by decide) ?_
    refine e_callVv (As := [.int 19]) (rest := []) clE_stable hs ⟨hx, hb, hml, hown, hts⟩ (cC_X6_expect l D h cy _ _ _ hw) (cwV 1 hts gX6_readDeed_X6_expect rfl rfl rfl (by decide +kernel) ⟨Nat.le_of_ble_eq_true rfl, Nat.le_of_ble_eq_true rfl⟩) (va_recv hK hP (ci := 6) (q0 := 5) rfl rfl) hK hP hD hS hA rfl hl.1 rfl (Nat.le_of_ble_eq_true rfl) dX6_readDeed_172 ⟨Nat.zero_le _, Nat.zero_le _⟩ (fun S_36 H locs hw hP hD hS => ?_)
    refine lv_aload_n hx hb dX6_readDeed_175 rfl (lv_at hl 0 rfl) ?_
    refine lv_iconst (v := 2) hx hb dX6_readDeed_176 (by decide) ?_
    refine lv_iconst (v := 0) hx hb dX6_readDeed_177 (by decide) ?_
    refine lv_iconst (v := 5) hx hb dX6_readDeed_178 (by decide) ?_
    refine e_callVv (As := [.int 2, .int 0, .int 5]) (rest := []) clE_stable hs ⟨hx, hb, hml, hown, hts⟩ (cC_X6_readNumber l D h cy _ _ _ _ _ hw) (cwV 3 hts gX6_readDeed_X6_readNumber rfl rfl rfl (by decide +kernel) ⟨Nat.le_of_ble_eq_true rfl, Nat.le_of_ble_eq_true rfl⟩) (va_recv hK hP (ci := 6) (q0 := 5) rfl rfl) hK hP hD hS hA rfl hl.1 rfl (Nat.le_of_ble_eq_true rfl) dX6_readDeed_179 ⟨Nat.zero_le _, Nat.zero_le _⟩ (fun S_38 H locs hw hP hD hS => ?_)
    refine lv_goto (tgt := 226) hx hb dX6_readDeed_182 (by decide) ?_
    exact W.vret hx hb hr (fun t ht hW => ⟨⟨S_38, rfl, hw, by rw [ht]; exact hP, va_K.moved hW.alike hK, hD⟩, hS.F ht⟩) hS.2.2 dX6_readDeed_226
  obtain ⟨hc_42, hw⟩ := hw
  by_cases c_42 : p1 = 17
  · have hw := hc_42 c_42
    refine lv_tableIn (off := 207) (tgt := 208) hx hb dX6_readDeed_1 (by rw [c_42]; decide) (by rw [c_42]; decide) (by rw [c_42]; rfl) (by decide) ?_
    refine lv_aload_n hx hb dX6_readDeed_208 rfl (lv_at hl 0 rfl) ?_
    refine lv_iconst (v := 1) hx hb dX6_readDeed_209 (by decide) ?_
    refine lv_iconst (v := 0) hx hb dX6_readDeed_210 (by decide) ?_
    refine lv_iconst (v := 4) hx hb dX6_readDeed_211 (by decide) ?_
    refine e_callVv (As := [.int 1, .int 0, .int 4]) (rest := []) clE_stable hs ⟨hx, hb, hml, hown, hts⟩ (cC_X6_readNumber l D h cy _ _ _ _ _ hw) (cwV 3 hts gX6_readDeed_X6_readNumber rfl rfl rfl (by decide +kernel) ⟨Nat.le_of_ble_eq_true rfl, Nat.le_of_ble_eq_true rfl⟩) (va_recv hK hP (ci := 6) (q0 := 5) rfl rfl) hK hP hD hS hA rfl hl.1 rfl (Nat.le_of_ble_eq_true rfl) dX6_readDeed_212 ⟨Nat.zero_le _, Nat.zero_le _⟩ (fun S_41 H locs hw hP hD hS => ?_)
    refine lv_goto (tgt := 226) hx hb dX6_readDeed_215 (by decide) ?_
    exact W.vret hx hb hr (fun t ht hW => ⟨⟨S_41, rfl, hw, by rw [ht]; exact hP, va_K.moved hW.alike hK, hD⟩, hS.F ht⟩) hS.2.2 dX6_readDeed_226
  have hw := hw c_11 c_18 c_25 c_32 c_39 c_42
  by_cases c_45 : p1 = 4
  · refine lv_tableIn (off := 217) (tgt := 218) hx hb dX6_readDeed_1 (by rw [c_45]; decide) (by rw [c_45]; decide) (by rw [c_45]; rfl) (by decide) ?_
    refine lv_aload_n hx hb dX6_readDeed_218 rfl (lv_at hl 0 rfl) ?_
    refine lv_iconst (v := 1) hx hb dX6_readDeed_219 (by decide) ?_
    refine lv_iconst (v := 1) hx hb dX6_readDeed_220 (by decide) ?_
    refine lv_bipush (v := 60) hx hb dX6_readDeed_221 (by decide) ?_
    refine e_callVv (As := [.int 1, .int 1, .int 60]) (rest := []) clE_stable hs ⟨hx, hb, hml, hown, hts⟩ (cC_X6_readNumber l D h cy _ _ _ _ _ hw) (cwV 3 hts gX6_readDeed_X6_readNumber rfl rfl rfl (by decide +kernel) ⟨Nat.le_of_ble_eq_true rfl, Nat.le_of_ble_eq_true rfl⟩) (va_recv hK hP (ci := 6) (q0 := 5) rfl rfl) hK hP hD hS hA rfl hl.1 rfl (Nat.le_of_ble_eq_true rfl) dX6_readDeed_223 ⟨Nat.zero_le _, Nat.zero_le _⟩ (fun S_44 H locs hw hP hD hS => ?_)
    exact W.vret hx hb hr (fun t ht hW => ⟨⟨S_44, rfl, hw, by rw [ht]; exact hP, va_K.moved hW.alike hK, hD⟩, hS.F ht⟩) hS.2.2 dX6_readDeed_226
  by_cases c_46 : p1 = 6
  · refine lv_tableIn (off := 217) (tgt := 218) hx hb dX6_readDeed_1 (by rw [c_46]; decide) (by rw [c_46]; decide) (by rw [c_46]; rfl) (by decide) ?_
    refine lv_aload_n hx hb dX6_readDeed_218 rfl (lv_at hl 0 rfl) ?_
    refine lv_iconst (v := 1) hx hb dX6_readDeed_219 (by decide) ?_
    refine lv_iconst (v := 1) hx hb dX6_readDeed_220 (by decide) ?_
    refine lv_bipush (v := 60) hx hb dX6_readDeed_221 (by decide) ?_
    refine e_callVv (As := [.int 1, .int 1, .int 60]) (rest := []) clE_stable hs ⟨hx, hb, hml, hown, hts⟩ (cC_X6_readNumber l D h cy _ _ _ _ _ hw) (cwV 3 hts gX6_readDeed_X6_readNumber rfl rfl rfl (by decide +kernel) ⟨Nat.le_of_ble_eq_true rfl, Nat.le_of_ble_eq_true rfl⟩) (va_recv hK hP (ci := 6) (q0 := 5) rfl rfl) hK hP hD hS hA rfl hl.1 rfl (Nat.le_of_ble_eq_true rfl) dX6_readDeed_223 ⟨Nat.zero_le _, Nat.zero_le _⟩ (fun S_44 H locs hw hP hD hS => ?_)
    exact W.vret hx hb hr (fun t ht hW => ⟨⟨S_44, rfl, hw, by rw [ht]; exact hP, va_K.moved hW.alike hK, hD⟩, hS.F ht⟩) hS.2.2 dX6_readDeed_226
  by_cases c_47 : p1 = 7
  · refine lv_tableIn (off := 217) (tgt := 218) hx hb dX6_readDeed_1 (by rw [c_47]; decide) (by rw [c_47]; decide) (by rw [c_47]; rfl) (by decide) ?_
    refine lv_aload_n hx hb dX6_readDeed_218 rfl (lv_at hl 0 rfl) ?_
    refine lv_iconst (v := 1) hx hb dX6_readDeed_219 (by decide) ?_
    refine lv_iconst (v := 1) hx hb dX6_readDeed_220 (by decide) ?_
    refine lv_bipush (v := 60) hx hb dX6_readDeed_221 (by decide) ?_
    refine e_callVv (As := [.int 1, .int 1, .int 60]) (rest := []) clE_stable hs ⟨hx, hb, hml, hown, hts⟩ (cC_X6_readNumber l D h cy _ _ _ _ _ hw) (cwV 3 hts gX6_readDeed_X6_readNumber rfl rfl rfl (by decide +kernel) ⟨Nat.le_of_ble_eq_true rfl, Nat.le_of_ble_eq_true rfl⟩) (va_recv hK hP (ci := 6) (q0 := 5) rfl rfl) hK hP hD hS hA rfl hl.1 rfl (Nat.le_of_ble_eq_true rfl) dX6_readDeed_223 ⟨Nat.zero_le _, Nat.zero_le _⟩ (fun S_44 H locs hw hP hD hS => ?_)
    exact W.vret hx hb hr (fun t ht hW => ⟨⟨S_44, rfl, hw, by rw [ht]; exact hP, va_K.moved hW.alike hK, hD⟩, hS.F ht⟩) hS.2.2 dX6_readDeed_226
  by_cases c_48 : p1 = 8
  · refine lv_tableIn (off := 217) (tgt := 218) hx hb dX6_readDeed_1 (by rw [c_48]; decide) (by rw [c_48]; decide) (by rw [c_48]; rfl) (by decide) ?_
    refine lv_aload_n hx hb dX6_readDeed_218 rfl (lv_at hl 0 rfl) ?_
    refine lv_iconst (v := 1) hx hb dX6_readDeed_219 (by decide) ?_
    refine lv_iconst (v := 1) hx hb dX6_readDeed_220 (by decide) ?_
    refine lv_bipush (v := 60) hx hb dX6_readDeed_221 (by decide) ?_
    refine e_callVv (As := [.int 1, .int 1, .int 60]) (rest := []) clE_stable hs ⟨hx, hb, hml, hown, hts⟩ (cC_X6_readNumber l D h cy _ _ _ _ _ hw) (cwV 3 hts gX6_readDeed_X6_readNumber rfl rfl rfl (by decide +kernel) ⟨Nat.le_of_ble_eq_true rfl, Nat.le_of_ble_eq_true rfl⟩) (va_recv hK hP (ci := 6) (q0 := 5) rfl rfl) hK hP hD hS hA rfl hl.1 rfl (Nat.le_of_ble_eq_true rfl) dX6_readDeed_223 ⟨Nat.zero_le _, Nat.zero_le _⟩ (fun S_44 H locs hw hP hD hS => ?_)
    exact W.vret hx hb hr (fun t ht hW => ⟨⟨S_44, rfl, hw, by rw [ht]; exact hP, va_K.moved hW.alike hK, hD⟩, hS.F ht⟩) hS.2.2 dX6_readDeed_226
  by_cases c_49 : p1 = 10
  · refine lv_tableIn (off := 217) (tgt := 218) hx hb dX6_readDeed_1 (by rw [c_49]; decide) (by rw [c_49]; decide) (by rw [c_49]; rfl) (by decide) ?_
    refine lv_aload_n hx hb dX6_readDeed_218 rfl (lv_at hl 0 rfl) ?_
    refine lv_iconst (v := 1) hx hb dX6_readDeed_219 (by decide) ?_
    refine lv_iconst (v := 1) hx hb dX6_readDeed_220 (by decide) ?_
    refine lv_bipush (v := 60) hx hb dX6_readDeed_221 (by decide) ?_
    refine e_callVv (As := [.int 1, .int 1, .int 60]) (rest := []) clE_stable hs ⟨hx, hb, hml, hown, hts⟩ (cC_X6_readNumber l D h cy _ _ _ _ _ hw) (cwV 3 hts gX6_readDeed_X6_readNumber rfl rfl rfl (by decide +kernel) ⟨Nat.le_of_ble_eq_true rfl, Nat.le_of_ble_eq_true rfl⟩) (va_recv hK hP (ci := 6) (q0 := 5) rfl rfl) hK hP hD hS hA rfl hl.1 rfl (Nat.le_of_ble_eq_true rfl) dX6_readDeed_223 ⟨Nat.zero_le _, Nat.zero_le _⟩ (fun S_44 H locs hw hP hD hS => ?_)
    exact W.vret hx hb hr (fun t ht hW => ⟨⟨S_44, rfl, hw, by rw [ht]; exact hP, va_K.moved hW.alike hK, hD⟩, hS.F ht⟩) hS.2.2 dX6_readDeed_226
  by_cases c_50 : p1 = 11
  · refine lv_tableIn (off := 217) (tgt := 218) hx hb dX6_readDeed_1 (by rw [c_50]; decide) (by rw [c_50]; decide) (by rw [c_50]; rfl) (by decide) ?_
    refine lv_aload_n hx hb dX6_readDeed_218 rfl (lv_at hl 0 rfl) ?_
    refine lv_iconst (v := 1) hx hb dX6_readDeed_219 (by decide) ?_
    refine lv_iconst (v := 1) hx hb dX6_readDeed_220 (by decide) ?_
    refine lv_bipush (v := 60) hx hb dX6_readDeed_221 (by decide) ?_
    refine e_callVv (As := [.int 1, .int 1, .int 60]) (rest := []) clE_stable hs ⟨hx, hb, hml, hown, hts⟩ (cC_X6_readNumber l D h cy _ _ _ _ _ hw) (cwV 3 hts gX6_readDeed_X6_readNumber rfl rfl rfl (by decide +kernel) ⟨Nat.le_of_ble_eq_true rfl, Nat.le_of_ble_eq_true rfl⟩) (va_recv hK hP (ci := 6) (q0 := 5) rfl rfl) hK hP hD hS hA rfl hl.1 rfl (Nat.le_of_ble_eq_true rfl) dX6_readDeed_223 ⟨Nat.zero_le _, Nat.zero_le _⟩ (fun S_44 H locs hw hP hD hS => ?_)
    exact W.vret hx hb hr (fun t ht hW => ⟨⟨S_44, rfl, hw, by rw [ht]; exact hP, va_K.moved hW.alike hK, hD⟩, hS.F ht⟩) hS.2.2 dX6_readDeed_226
  by_cases c_51 : p1 = 12
  · refine lv_tableIn (off := 217) (tgt := 218) hx hb dX6_readDeed_1 (by rw [c_51]; decide) (by rw [c_51]; decide) (by rw [c_51]; rfl) (by decide) ?_
    refine lv_aload_n hx hb dX6_readDeed_218 rfl (lv_at hl 0 rfl) ?_
    refine lv_iconst (v := 1) hx hb dX6_readDeed_219 (by decide) ?_
    refine lv_iconst (v := 1) hx hb dX6_readDeed_220 (by decide) ?_
    refine lv_bipush (v := 60) hx hb dX6_readDeed_221 (by decide) ?_
    refine e_callVv (As := [.int 1, .int 1, .int 60]) (rest := []) clE_stable hs ⟨hx, hb, hml, hown, hts⟩ (cC_X6_readNumber l D h cy _ _ _ _ _ hw) (cwV 3 hts gX6_readDeed_X6_readNumber rfl rfl rfl (by decide +kernel) ⟨Nat.le_of_ble_eq_true rfl, Nat.le_of_ble_eq_true rfl⟩) (va_recv hK hP (ci := 6) (q0 := 5) rfl rfl) hK hP hD hS hA rfl hl.1 rfl (Nat.le_of_ble_eq_true rfl) dX6_readDeed_223 ⟨Nat.zero_le _, Nat.zero_le _⟩ (fun S_44 H locs hw hP hD hS => ?_)
    exact W.vret hx hb hr (fun t ht hW => ⟨⟨S_44, rfl, hw, by rw [ht]; exact hP, va_K.moved hW.alike hK, hD⟩, hS.F ht⟩) hS.2.2 dX6_readDeed_226
  by_cases c_52 : p1 = 13
  · refine lv_tableIn (off := 217) (tgt := 218) hx hb dX6_readDeed_1 (by rw [c_52]; decide) (by rw [c_52]; decide) (by rw [c_52]; rfl) (by decide) ?_
    refine lv_aload_n hx hb dX6_readDeed_218 rfl (lv_at hl 0 rfl) ?_
    refine lv_iconst (v := 1) hx hb dX6_readDeed_219 (by decide) ?_
    refine lv_iconst (v := 1) hx hb dX6_readDeed_220 (by decide) ?_
    refine lv_bipush (v := 60) hx hb dX6_readDeed_221 (by decide) ?_
    refine e_callVv (As := [.int 1, .int 1, .int 60]) (rest := []) clE_stable hs ⟨hx, hb, hml, hown, hts⟩ (cC_X6_readNumber l D h cy _ _ _ _ _ hw) (cwV 3 hts gX6_readDeed_X6_readNumber rfl rfl rfl (by decide +kernel) ⟨Nat.le_of_ble_eq_true rfl, Nat.le_of_ble_eq_true rfl⟩) (va_recv hK hP (ci := 6) (q0 := 5) rfl rfl) hK hP hD hS hA rfl hl.1 rfl (Nat.le_of_ble_eq_true rfl) dX6_readDeed_223 ⟨Nat.zero_le _, Nat.zero_le _⟩ (fun S_44 H locs hw hP hD hS => ?_)
    exact W.vret hx hb hr (fun t ht hW => ⟨⟨S_44, rfl, hw, by rw [ht]; exact hP, va_K.moved hW.alike hK, hD⟩, hS.F ht⟩) hS.2.2 dX6_readDeed_226
  by_cases c_53 : p1 = 14
  · refine lv_tableIn (off := 217) (tgt := 218) hx hb dX6_readDeed_1 (by rw [c_53]; decide) (by rw [c_53]; decide) (by rw [c_53]; rfl) (by decide) ?_
    refine lv_aload_n hx hb dX6_readDeed_218 rfl (lv_at hl 0 rfl) ?_
    refine lv_iconst (v := 1) hx hb dX6_readDeed_219 (by decide) ?_
    refine lv_iconst (v := 1) hx hb dX6_readDeed_220 (by decide) ?_
    refine lv_bipush (v := 60) hx hb dX6_readDeed_221 (by decide) ?_
    refine e_callVv (As := [.int 1, .int 1, .int 60]) (rest := []) clE_stable hs ⟨hx, hb, hml, hown, hts⟩ (cC_X6_readNumber l D h cy _ _ _ _ _ hw) (cwV 3 hts gX6_readDeed_X6_readNumber rfl rfl rfl (by decide +kernel) ⟨Nat.le_of_ble_eq_true rfl, Nat.le_of_ble_eq_true rfl⟩) (va_recv hK hP (ci := 6) (q0 := 5) rfl rfl) hK hP hD hS hA rfl hl.1 rfl (Nat.le_of_ble_eq_true rfl) dX6_readDeed_223 ⟨Nat.zero_le _, Nat.zero_le _⟩ (fun S_44 H locs hw hP hD hS => ?_)
    exact W.vret hx hb hr (fun t ht hW => ⟨⟨S_44, rfl, hw, by rw [ht]; exact hP, va_K.moved hW.alike hK, hD⟩, hS.F ht⟩) hS.2.2 dX6_readDeed_226
  have c_11n := lv_neT c_11 (a := 3) (by decide)
  have c_18n := lv_neT c_18 (a := 5) (by decide)
  have c_25n := lv_neT c_25 (a := 9) (by decide)
  have c_32n := lv_neT c_32 (a := 15) (by decide)
  have c_39n := lv_neT c_39 (a := 16) (by decide)
  have c_42n := lv_neT c_42 (a := 17) (by decide)
  have c_45n := lv_neT c_45 (a := 4) (by decide)
  have c_46n := lv_neT c_46 (a := 6) (by decide)
  have c_47n := lv_neT c_47 (a := 7) (by decide)
  have c_48n := lv_neT c_48 (a := 8) (by decide)
  have c_49n := lv_neT c_49 (a := 10) (by decide)
  have c_50n := lv_neT c_50 (a := 11) (by decide)
  have c_51n := lv_neT c_51 (a := 12) (by decide)
  have c_52n := lv_neT c_52 (a := 13) (by decide)
  have c_53n := lv_neT c_53 (a := 14) (by decide)
  refine lv_tableOut (tgt := 218) hx hb dX6_readDeed_1 (by omega) (by decide) ?_
  refine lv_aload_n hx hb dX6_readDeed_218 rfl (lv_at hl 0 rfl) ?_
  refine lv_iconst (v := 1) hx hb dX6_readDeed_219 (by decide) ?_
  refine lv_iconst (v := 1) hx hb dX6_readDeed_220 (by decide) ?_
  refine lv_bipush (v := 60) hx hb dX6_readDeed_221 (by decide) ?_
  refine e_callVv (As := [.int 1, .int 1, .int 60]) (rest := []) clE_stable hs ⟨hx, hb, hml, hown, hts⟩ (cC_X6_readNumber l D h cy _ _ _ _ _ hw) (cwV 3 hts gX6_readDeed_X6_readNumber rfl rfl rfl (by decide +kernel) ⟨Nat.le_of_ble_eq_true rfl, Nat.le_of_ble_eq_true rfl⟩) (va_recv hK hP (ci := 6) (q0 := 5) rfl rfl) hK hP hD hS hA rfl hl.1 rfl (Nat.le_of_ble_eq_true rfl) dX6_readDeed_223 ⟨Nat.zero_le _, Nat.zero_le _⟩ (fun S_44 H locs hw hP hD hS => ?_)
  exact W.vret hx hb hr (fun t ht hW => ⟨⟨S_44, rfl, hw, by rw [ht]; exact hP, va_K.moved hW.alike hK, hD⟩, hS.F ht⟩) hS.2.2 dX6_readDeed_226
def wC_X6_opens (S : CS) (post : Int32 → CS → Prop) : Prop := (((cx_r_open S) < 8 → (∀ S_2 : CS, S_2 = (cx_set_r_open S ((cx_r_open S) + 1)) → wC_X6_advance S_2 (fun S_4 => post 1 S_4))) ∧ (¬ ((cx_r_open S) < 8) → wC_X6_fail 3 S (fun S_6 => post 0 S_6)))
set_option maxHeartbeats 4000000 in
set_option maxRecDepth 100000 in
theorem cC_X6_opens (l : Launch) (D : va_G) (h : Nat → Nat) (cy : Nat → ClassId) (S : CS) (post : Int32 → CS → Prop) (hw : wC_X6_opens S post) : e_Mi clE l yX6_opens wsX6_opens { frames := 6, cells := 0, slots := 0, locals := 131 } D (tyC cy) (wC h cy) [.ref (h 5)] S post := by
  intro sz
  refine Met.ofW (cc := cX6_opens) (maxL := 1) (ret := (some .boolean)) (by decide) rfl ?_
  intro p e s m args below meth c s₁ B hml hv
  obtain ⟨rfl, hsz, hP, hK, hD0, hs⟩ := hv
  have hx := B.exec
  have hb := B.bytes
  have hr := B.returns
  have hts := atoms_spec (ws := wsX6_opens) B.pre
  have hown : s.vm.findClass RX6 = some m.cls := findClass_of_methodNamed B.named
  have hlocks := B.notSynchronized
  subst hsz
  have hD := hD0.self (sz := s.heap.size)
  generalize hAe : va_A (wC h cy S) s.heap.size = A at hD hs ⊢
  have hA : ∀ q : Nat, s.heap.size ≤ q → A q := fun q h => by rw [← hAe]; exact Or.inr h
  have hS : va_S A s.heap s.heap [] := va_S.rf
  have hin6 : ∀ w ∈ wsX60, w ∈ wsX6_opens := fun _ h => List.mem_cons_of_mem _ (List.mem_append_right _ h)
  have w50 := hts (.fieldLink RX6 50 "ClownsMourn$Reader" "open" "I") (List.mem_of_getElem? (i := 1) rfl)
  have hl := lv_entry ([.ref (h 5)]) (n := 1) (Nat.le_of_ble_eq_true rfl)
  rw [lg_entry_eq]
  generalize (lg_sl ([.ref (h 5)]) ++ List.replicate (1 - (lg_sl ([.ref (h 5)])).length) Slot.unset).toArray = ls at hl ⊢
  have hl : lv_has ls 1 [(0, .ref (h 5))] := hl
  unfold wC_X6_opens at hw
  clear hD0
  refine lv_aload_n hx hb dX6_opens_0 rfl (lv_at hl 0 rfl) ?_
  refine va_get (D := D) (ci := 6) (v := .int (cx_r_open S)) (C := RX6) (T := TX6) (N := 16) hx hb hts hin6 hown hK hP 5 rfl rfl 15 (by decide) w50 (fun _ h9 => h9) rfl dX6_opens_1 ?_
  refine lv_bipush (v := 8) hx hb dX6_opens_4 (by decide) ?_
  obtain ⟨hc_1t, hc_1f⟩ := hw
  refine lv_icmp_lt (tgt := 16) hx hb dX6_opens_6 (by decide) (fun c_1 => ?_) (fun c_1 => ?_)
  · have hw := hc_1t c_1
    clear hc_1t hc_1f
    refine lv_aload_n hx hb dX6_opens_16 rfl (lv_at hl 0 rfl) ?_
    refine lv_dup hx hb dX6_opens_17 rfl ?_
    refine va_get (D := D) (ci := 6) (v := .int (cx_r_open S)) (C := RX6) (T := TX6) (N := 16) hx hb hts hin6 hown hK hP 5 rfl rfl 15 (by decide) w50 (fun _ h9 => h9) rfl dX6_opens_18 ?_
    refine lv_iconst (v := 1) hx hb dX6_opens_21 (by decide) ?_
    refine lv_iadd hx hb dX6_opens_22 ?_
    refine va_put (D := D) (ci := 6) (v := .int ((cx_r_open S) + 1)) (ty := .int) (C := RX6) (T := TX6) (N := 16) hx hb hts hin6 tyX6 tyX6_ok nmX6 hown hK hP hD hS 5 rfl rfl 15 (by decide) w50 (fun _ h9 => h9) rfl (tyX6_ok 15 (by decide)) rfl rfl (Nat.le_of_ble_eq_true rfl) dX6_opens_23 (fun H locs hP hD hS => ?_)
    obtain ⟨S_2, eS_2⟩ : ∃ z : CS, z = (cx_set_r_open S ((cx_r_open S) + 1)) := ⟨_, rfl⟩
    replace hw := hw S_2 eS_2
    have hP : va_P D vwCl (wC h cy S_2) H := by rw [eS_2, ← wCp_r_open]; exact hP
    have hD : va_D A (wC h cy S_2) := by rw [eS_2, ← wCp_r_open]; exact hD
    refine lv_aload_n hx hb dX6_opens_26 rfl (lv_at hl 0 rfl) ?_
    refine e_callVv (As := []) (rest := []) clE_stable hs ⟨hx, hb, hml, hown, hts⟩ (cC_X6_advance l D h cy _ _ hw) (cwV 0 hts gX6_opens_X6_advance rfl rfl rfl (by decide +kernel) ⟨Nat.le_of_ble_eq_true rfl, Nat.le_of_ble_eq_true rfl⟩) (va_recv hK hP (ci := 6) (q0 := 5) rfl rfl) hK hP hD hS hA rfl hl.1 rfl (Nat.le_of_ble_eq_true rfl) dX6_opens_27 ⟨Nat.zero_le _, Nat.zero_le _⟩ (fun S_4 H locs hw hP hD hS => ?_)
    refine lv_iconst (v := 1) hx hb dX6_opens_30 (by decide) ?_
    exact W.zret (v := 1) hx hb hr (by decide +kernel) (fun t ht hW => ⟨⟨1, S_4, rfl, hw, by rw [ht]; exact hP, va_K.moved hW.alike hK, hD⟩, hS.F ht⟩) hS.2.2 dX6_opens_31
  · have hw := hc_1f c_1
    clear hc_1t hc_1f
    refine lv_aload_n hx hb dX6_opens_9 rfl (lv_at hl 0 rfl) ?_
    refine lv_iconst (v := 3) hx hb dX6_opens_10 (by decide) ?_
    refine e_callVv (As := [.int 3]) (rest := []) clE_stable hs ⟨hx, hb, hml, hown, hts⟩ (cC_X6_fail l D h cy _ _ _ hw) (cwV 1 hts gX6_opens_X6_fail rfl rfl rfl (by decide +kernel) ⟨Nat.le_of_ble_eq_true rfl, Nat.le_of_ble_eq_true rfl⟩) (va_recv hK hP (ci := 6) (q0 := 5) rfl rfl) hK hP hD hS hA rfl hl.1 rfl (Nat.le_of_ble_eq_true rfl) dX6_opens_11 ⟨Nat.zero_le _, Nat.zero_le _⟩ (fun S_6 H locs hw hP hD hS => ?_)
    refine lv_iconst (v := 0) hx hb dX6_opens_14 (by decide) ?_
    exact W.zret (v := 0) hx hb hr (by decide +kernel) (fun t ht hW => ⟨⟨0, S_6, rfl, hw, by rw [ht]; exact hP, va_K.moved hW.alike hK, hD⟩, hS.F ht⟩) hS.2.2 dX6_opens_15
def wC_X6_readPlainNumber (S : CS) (post : CS → Prop) : Prop := (((cx_r_number S) ≤ 9999 → wC_X6_emit 32 (cx_r_number S) S (fun S_3 => wC_X6_advance S_3 (fun S_5 => post S_5))) ∧ (¬ ((cx_r_number S) ≤ 9999) → wC_X6_fail 2 S (fun S_7 => post S_7)))
set_option maxHeartbeats 4000000 in
set_option maxRecDepth 100000 in
theorem cC_X6_readPlainNumber (l : Launch) (D : va_G) (h : Nat → Nat) (cy : Nat → ClassId) (S : CS) (post : CS → Prop) (hw : wC_X6_readPlainNumber S post) : e_Mv clE l yX6_readPlainNumber wsX6_readPlainNumber { frames := 6, cells := 0, slots := 0, locals := 131 } D (tyC cy) (wC h cy) [.ref (h 5)] S post := by
  intro sz
  refine Met.ofW (cc := cX6_readPlainNumber) (maxL := 1) (ret := none) (by decide) rfl ?_
  intro p e s m args below meth c s₁ B hml hv
  obtain ⟨rfl, hsz, hP, hK, hD0, hs⟩ := hv
  have hx := B.exec
  have hb := B.bytes
  have hr := B.returns
  have hts := atoms_spec (ws := wsX6_readPlainNumber) B.pre
  have hown : s.vm.findClass RX6 = some m.cls := findClass_of_methodNamed B.named
  have hlocks := B.notSynchronized
  subst hsz
  have hD := hD0.self (sz := s.heap.size)
  generalize hAe : va_A (wC h cy S) s.heap.size = A at hD hs ⊢
  have hA : ∀ q : Nat, s.heap.size ≤ q → A q := fun q h => by rw [← hAe]; exact Or.inr h
  have hS : va_S A s.heap s.heap [] := va_S.rf
  have hin6 : ∀ w ∈ wsX60, w ∈ wsX6_readPlainNumber := fun _ h => List.mem_cons_of_mem _ (List.mem_append_right _ h)
  have w120 := hts (.fieldLink RX6 120 "ClownsMourn$Reader" "number" "I") (List.mem_of_getElem? (i := 1) rfl)
  have hl := lv_entry ([.ref (h 5)]) (n := 1) (Nat.le_of_ble_eq_true rfl)
  rw [lg_entry_eq]
  generalize (lg_sl ([.ref (h 5)]) ++ List.replicate (1 - (lg_sl ([.ref (h 5)])).length) Slot.unset).toArray = ls at hl ⊢
  have hl : lv_has ls 1 [(0, .ref (h 5))] := hl
  unfold wC_X6_readPlainNumber at hw
  clear hD0
  refine lv_aload_n hx hb dX6_readPlainNumber_0 rfl (lv_at hl 0 rfl) ?_
  refine va_get (D := D) (ci := 6) (v := .int (cx_r_number S)) (C := RX6) (T := TX6) (N := 16) hx hb hts hin6 hown hK hP 5 rfl rfl 12 (by decide) w120 (fun _ h9 => h9) rfl dX6_readPlainNumber_1 ?_
  refine lv_sipush (v := 9999) hx hb dX6_readPlainNumber_4 (by decide) ?_
  obtain ⟨hc_1t, hc_1f⟩ := hw
  refine lv_icmp_le (tgt := 18) hx hb dX6_readPlainNumber_7 (by decide) (fun c_1 => ?_) (fun c_1 => ?_)
  · have hw := hc_1t c_1
    clear hc_1t hc_1f
    refine lv_aload_n hx hb dX6_readPlainNumber_18 rfl (lv_at hl 0 rfl) ?_
    refine lv_bipush (v := 32) hx hb dX6_readPlainNumber_19 (by decide) ?_
    refine lv_aload_n hx hb dX6_readPlainNumber_21 rfl (lv_at hl 0 rfl) ?_
    refine va_get (D := D) (ci := 6) (v := .int (cx_r_number S)) (C := RX6) (T := TX6) (N := 16) hx hb hts hin6 hown hK hP 5 rfl rfl 12 (by decide) w120 (fun _ h9 => h9) rfl dX6_readPlainNumber_22 ?_
    refine e_callVv (As := [.int 32, .int (cx_r_number S)]) (rest := []) clE_stable hs ⟨hx, hb, hml, hown, hts⟩ (cC_X6_emit l D h cy _ _ _ _ hw) (cwV 2 hts gX6_readPlainNumber_X6_emit rfl rfl rfl (by decide +kernel) ⟨Nat.le_of_ble_eq_true rfl, Nat.le_of_ble_eq_true rfl⟩) (va_recv hK hP (ci := 6) (q0 := 5) rfl rfl) hK hP hD hS hA rfl hl.1 rfl (Nat.le_of_ble_eq_true rfl) dX6_readPlainNumber_25 ⟨Nat.zero_le _, Nat.zero_le _⟩ (fun S_3 H locs hw hP hD hS => ?_)
    refine lv_aload_n hx hb dX6_readPlainNumber_28 rfl (lv_at hl 0 rfl) ?_
    refine e_callVv (As := []) (rest := []) clE_stable hs ⟨hx, hb, hml, hown, hts⟩ (cC_X6_advance l D h cy _ _ hw) (cwV 0 hts gX6_readPlainNumber_X6_advance rfl rfl rfl (by decide +kernel) ⟨Nat.le_of_ble_eq_true rfl, Nat.le_of_ble_eq_true rfl⟩) (va_recv hK hP (ci := 6) (q0 := 5) rfl rfl) hK hP hD hS hA rfl hl.1 rfl (Nat.le_of_ble_eq_true rfl) dX6_readPlainNumber_29 ⟨Nat.zero_le _, Nat.zero_le _⟩ (fun S_5 H locs hw hP hD hS => ?_)
    exact W.vret hx hb hr (fun t ht hW => ⟨⟨S_5, rfl, hw, by rw [ht]; exact hP, va_K.moved hW.alike hK, hD⟩, hS.F ht⟩) hS.2.2 dX6_readPlainNumber_32
  · have hw := hc_1f c_1
    clear hc_1t hc_1f
    refine lv_aload_n hx hb dX6_readPlainNumber_10 rfl (lv_at hl 0 rfl) ?_
    refine lv_iconst (v := 2) hx hb dX6_readPlainNumber_11 (by decide) ?_
    refine e_callVv (As := [.int 2]) (rest := []) clE_stable hs ⟨hx, hb, hml, hown, hts⟩ (cC_X6_fail l D h cy _ _ _ hw) (cwV 1 hts gX6_readPlainNumber_X6_fail rfl rfl rfl (by decide +kernel) ⟨Nat.le_of_ble_eq_true rfl, Nat.le_of_ble_eq_true rfl⟩) (va_recv hK hP (ci := 6) (q0 := 5) rfl rfl) hK hP hD hS hA rfl hl.1 rfl (Nat.le_of_ble_eq_true rfl) dX6_readPlainNumber_12 ⟨Nat.zero_le _, Nat.zero_le _⟩ (fun S_7 H locs hw hP hD hS => ?_)
    refine lv_goto (tgt := 32) hx hb dX6_readPlainNumber_15 (by decide) ?_
    exact W.vret hx hb hr (fun t ht hW => ⟨⟨S_7, rfl, hw, by rw [ht]; exact hP, va_K.moved hW.alike hK, hD⟩, hS.F ht⟩) hS.2.2 dX6_readPlainNumber_32
def wC_X6_readName_64 (post : CS → Prop) (S : CS) : Prop := wC_X6_emit 47 (cx_r_token S) S (fun S_2 => wC_X6_advance S_2 (fun S_4 => post S_4))
def wC_X6_readName_39 (post : CS → Prop) (t0 : Int32) (S : CS) : Prop := (((cx_r_law S) = 14 → ((t0 = 1 → wC_X6_readName_64 post S) ∧ (¬ (t0 = 1) → wC_X6_fail 5 S (fun S_7 => post S_7)))) ∧ (¬ ((cx_r_law S) = 14) → ((t0 = 0 → wC_X6_readName_64 post S) ∧ (¬ (t0 = 0) → wC_X6_fail 5 S (fun S_4 => post S_4)))))
def wC_X6_readName (S : CS) (post : CS → Prop) : Prop := (((cx_r_token S) < 12 → (((cx_r_token S) ≤ 5 → wC_X6_readName_64 post S) ∧ (¬ ((cx_r_token S) ≤ 5) → (((cx_r_token S) = 11 → wC_X6_readName_39 post 1 S) ∧ (¬ ((cx_r_token S) = 11) → wC_X6_readName_39 post 0 S))))) ∧ (¬ ((cx_r_token S) < 12) → wC_X6_fail 1 S (fun S_5 => post S_5)))
set_option maxHeartbeats 4000000 in
set_option maxRecDepth 100000 in
theorem cC_X6_readName (l : Launch) (D : va_G) (h : Nat → Nat) (cy : Nat → ClassId) (S : CS) (post : CS → Prop) (hw : wC_X6_readName S post) : e_Mv clE l yX6_readName wsX6_readName { frames := 6, cells := 0, slots := 0, locals := 131 } D (tyC cy) (wC h cy) [.ref (h 5)] S post := by
  intro sz
  refine Met.ofW (cc := cX6_readName) (maxL := 1) (ret := none) (by decide) rfl ?_
  intro p e s m args below meth c s₁ B hml hv
  obtain ⟨rfl, hsz, hP, hK, hD0, hs⟩ := hv
  have hx := B.exec
  have hb := B.bytes
  have hr := B.returns
  have hts := atoms_spec (ws := wsX6_readName) B.pre
  have hown : s.vm.findClass RX6 = some m.cls := findClass_of_methodNamed B.named
  have hlocks := B.notSynchronized
  subst hsz
  have hD := hD0.self (sz := s.heap.size)
  generalize hAe : va_A (wC h cy S) s.heap.size = A at hD hs ⊢
  have hA : ∀ q : Nat, s.heap.size ≤ q → A q := fun q h => by rw [← hAe]; exact Or.inr h
  have hS : va_S A s.heap s.heap [] := va_S.rf
  have hin6 : ∀ w ∈ wsX60, w ∈ wsX6_readName := fun _ h => List.mem_cons_of_mem _ (List.mem_append_right _ h)
  have w104 := hts (.fieldLink RX6 104 "ClownsMourn$Reader" "law" "I") (List.mem_of_getElem? (i := 2) rfl)
  have w62 := hts (.fieldLink RX6 62 "ClownsMourn$Reader" "token" "I") (List.mem_of_getElem? (i := 1) rfl)
  have hl := lv_entry ([.ref (h 5)]) (n := 1) (Nat.le_of_ble_eq_true rfl)
  rw [lg_entry_eq]
  generalize (lg_sl ([.ref (h 5)]) ++ List.replicate (1 - (lg_sl ([.ref (h 5)])).length) Slot.unset).toArray = ls at hl ⊢
  have hl : lv_has ls 1 [(0, .ref (h 5))] := hl
  unfold wC_X6_readName at hw
  clear hD0
  have J_64 : ∀ (S : CS) (H : Heap) (locs : List Loc) (ls : Array Slot), wC_X6_readName_64 post S → va_P D vwCl (wC h cy S) H → va_D A (wC h cy S) → va_S A s.heap H locs → lv_has ls 1 [(0, .ref (h 5))] → W p l e (headSpec wsX6_readName { frames := 6, cells := 0, slots := 0, locals := 131 }).room s m (([.ref (h 5)] : List Value).toArray) below meth c H locs 0 0 (MQ below (va_Qv post (k_Post D (tyC cy) (wC h cy) A) A) (([.ref (h 5)] : List Value).toArray) s 0 0 A) (F0 m 64 ls []) := by
    intro S H locs ls hw hP hD hS hl
    unfold wC_X6_readName_64 at hw
    refine lv_aload_n hx hb dX6_readName_64 rfl (lv_at hl 0 rfl) ?_
    refine lv_bipush (v := 47) hx hb dX6_readName_65 (by decide) ?_
    refine lv_aload_n hx hb dX6_readName_67 rfl (lv_at hl 0 rfl) ?_
    refine va_get (D := D) (ci := 6) (v := .int (cx_r_token S)) (C := RX6) (T := TX6) (N := 16) hx hb hts hin6 hown hK hP 5 rfl rfl 11 (by decide) w62 (fun _ h9 => h9) rfl dX6_readName_68 ?_
    refine e_callVv (As := [.int 47, .int (cx_r_token S)]) (rest := []) clE_stable hs ⟨hx, hb, hml, hown, hts⟩ (cC_X6_emit l D h cy _ _ _ _ hw) (cwV 2 hts gX6_readName_X6_emit rfl rfl rfl (by decide +kernel) ⟨Nat.le_of_ble_eq_true rfl, Nat.le_of_ble_eq_true rfl⟩) (va_recv hK hP (ci := 6) (q0 := 5) rfl rfl) hK hP hD hS hA rfl hl.1 rfl (Nat.le_of_ble_eq_true rfl) dX6_readName_71 ⟨Nat.zero_le _, Nat.zero_le _⟩ (fun S_2 H locs hw hP hD hS => ?_)
    refine lv_aload_n hx hb dX6_readName_74 rfl (lv_at hl 0 rfl) ?_
    refine e_callVv (As := []) (rest := []) clE_stable hs ⟨hx, hb, hml, hown, hts⟩ (cC_X6_advance l D h cy _ _ hw) (cwV 0 hts gX6_readName_X6_advance rfl rfl rfl (by decide +kernel) ⟨Nat.le_of_ble_eq_true rfl, Nat.le_of_ble_eq_true rfl⟩) (va_recv hK hP (ci := 6) (q0 := 5) rfl rfl) hK hP hD hS hA rfl hl.1 rfl (Nat.le_of_ble_eq_true rfl) dX6_readName_75 ⟨Nat.zero_le _, Nat.zero_le _⟩ (fun S_4 H locs hw hP hD hS => ?_)
    exact W.vret hx hb hr (fun t ht hW => ⟨⟨S_4, rfl, hw, by rw [ht]; exact hP, va_K.moved hW.alike hK, hD⟩, hS.F ht⟩) hS.2.2 dX6_readName_78
  have J_39 : ∀ (t0 : Int32) (S : CS) (H : Heap) (locs : List Loc) (ls : Array Slot), wC_X6_readName_39 post t0 S → va_P D vwCl (wC h cy S) H → va_D A (wC h cy S) → va_S A s.heap H locs → lv_has ls 1 [(0, .ref (h 5))] → W p l e (headSpec wsX6_readName { frames := 6, cells := 0, slots := 0, locals := 131 }).room s m (([.ref (h 5)] : List Value).toArray) below meth c H locs 0 0 (MQ below (va_Qv post (k_Post D (tyC cy) (wC h cy) A) A) (([.ref (h 5)] : List Value).toArray) s 0 0 A) (F0 m 39 ls [.int t0]) := by
    intro t0 S H locs ls hw hP hD hS hl
    unfold wC_X6_readName_39 at hw
    refine lv_aload_n hx hb dX6_readName_39 rfl (lv_at hl 0 rfl) ?_
    refine va_get (D := D) (ci := 6) (v := .int (cx_r_law S)) (C := RX6) (T := TX6) (N := 16) hx hb hts hin6 hown hK hP 5 rfl rfl 14 (by decide) w104 (fun _ h9 => h9) rfl dX6_readName_40 ?_
    refine lv_bipush (v := 14) hx hb dX6_readName_43 (by decide) ?_
    obtain ⟨hc_5t, hc_5f⟩ := hw
    refine lv_icmp_ne (tgt := 52) hx hb dX6_readName_45 (by decide) (fun c_5 => ?_) (fun c_5 => ?_)
    · have hw := hc_5f c_5
      clear hc_5t hc_5f
      refine lv_iconst (v := 0) hx hb dX6_readName_52 (by decide) ?_
      obtain ⟨hc_6t, hc_6f⟩ := hw
      refine lv_icmp_eq (tgt := 64) hx hb dX6_readName_53 (by decide) (fun c_6 => ?_) (fun c_6 => ?_)
      · have hw := hc_6t c_6
        clear hc_6t hc_6f
        exact J_64 S _ _ _ hw hP hD hS (lv_sub hl [0] rfl)
      · have hw := hc_6f c_6
        clear hc_6t hc_6f
        refine lv_aload_n hx hb dX6_readName_56 rfl (lv_at hl 0 rfl) ?_
        refine lv_iconst (v := 5) hx hb dX6_readName_57 (by decide) ?_
        refine e_callVv (As := [.int 5]) (rest := []) clE_stable hs ⟨hx, hb, hml, hown, hts⟩ (cC_X6_fail l D h cy _ _ _ hw) (cwV 1 hts gX6_readName_X6_fail rfl rfl rfl (by decide +kernel) ⟨Nat.le_of_ble_eq_true rfl, Nat.le_of_ble_eq_true rfl⟩) (va_recv hK hP (ci := 6) (q0 := 5) rfl rfl) hK hP hD hS hA rfl hl.1 rfl (Nat.le_of_ble_eq_true rfl) dX6_readName_58 ⟨Nat.zero_le _, Nat.zero_le _⟩ (fun S_8 H locs hw hP hD hS => ?_)
        refine lv_goto (tgt := 78) hx hb dX6_readName_61 (by decide) ?_
        exact W.vret hx hb hr (fun t ht hW => ⟨⟨S_8, rfl, hw, by rw [ht]; exact hP, va_K.moved hW.alike hK, hD⟩, hS.F ht⟩) hS.2.2 dX6_readName_78
    · have hw := hc_5t c_5
      clear hc_5t hc_5f
      refine lv_iconst (v := 1) hx hb dX6_readName_48 (by decide) ?_
      refine lv_goto (tgt := 53) hx hb dX6_readName_49 (by decide) ?_
      obtain ⟨hc_9t, hc_9f⟩ := hw
      refine lv_icmp_eq (tgt := 64) hx hb dX6_readName_53 (by decide) (fun c_9 => ?_) (fun c_9 => ?_)
      · have hw := hc_9t c_9
        clear hc_9t hc_9f
        exact J_64 S _ _ _ hw hP hD hS (lv_sub hl [0] rfl)
      · have hw := hc_9f c_9
        clear hc_9t hc_9f
        refine lv_aload_n hx hb dX6_readName_56 rfl (lv_at hl 0 rfl) ?_
        refine lv_iconst (v := 5) hx hb dX6_readName_57 (by decide) ?_
        refine e_callVv (As := [.int 5]) (rest := []) clE_stable hs ⟨hx, hb, hml, hown, hts⟩ (cC_X6_fail l D h cy _ _ _ hw) (cwV 1 hts gX6_readName_X6_fail rfl rfl rfl (by decide +kernel) ⟨Nat.le_of_ble_eq_true rfl, Nat.le_of_ble_eq_true rfl⟩) (va_recv hK hP (ci := 6) (q0 := 5) rfl rfl) hK hP hD hS hA rfl hl.1 rfl (Nat.le_of_ble_eq_true rfl) dX6_readName_58 ⟨Nat.zero_le _, Nat.zero_le _⟩ (fun S_11 H locs hw hP hD hS => ?_)
        refine lv_goto (tgt := 78) hx hb dX6_readName_61 (by decide) ?_
        exact W.vret hx hb hr (fun t ht hW => ⟨⟨S_11, rfl, hw, by rw [ht]; exact hP, va_K.moved hW.alike hK, hD⟩, hS.F ht⟩) hS.2.2 dX6_readName_78
  refine lv_aload_n hx hb dX6_readName_0 rfl (lv_at hl 0 rfl) ?_
  refine va_get (D := D) (ci := 6) (v := .int (cx_r_token S)) (C := RX6) (T := TX6) (N := 16) hx hb hts hin6 hown hK hP 5 rfl rfl 11 (by decide) w62 (fun _ h9 => h9) rfl dX6_readName_1 ?_
  refine lv_bipush (v := 12) hx hb dX6_readName_4 (by decide) ?_
  obtain ⟨hc_12t, hc_12f⟩ := hw
  refine lv_icmp_lt (tgt := 17) hx hb dX6_readName_6 (by decide) (fun c_12 => ?_) (fun c_12 => ?_)
  · have hw := hc_12t c_12
    clear hc_12t hc_12f
    refine lv_aload_n hx hb dX6_readName_17 rfl (lv_at hl 0 rfl) ?_
    refine va_get (D := D) (ci := 6) (v := .int (cx_r_token S)) (C := RX6) (T := TX6) (N := 16) hx hb hts hin6 hown hK hP 5 rfl rfl 11 (by decide) w62 (fun _ h9 => h9) rfl dX6_readName_18 ?_
    refine lv_iconst (v := 5) hx hb dX6_readName_21 (by decide) ?_
    obtain ⟨hc_13t, hc_13f⟩ := hw
    refine lv_icmp_le (tgt := 64) hx hb dX6_readName_22 (by decide) (fun c_13 => ?_) (fun c_13 => ?_)
    · have hw := hc_13t c_13
      clear hc_13t hc_13f
      exact J_64 S _ _ _ hw hP hD hS (lv_sub hl [0] rfl)
    · have hw := hc_13f c_13
      clear hc_13t hc_13f
      refine lv_aload_n hx hb dX6_readName_25 rfl (lv_at hl 0 rfl) ?_
      refine va_get (D := D) (ci := 6) (v := .int (cx_r_token S)) (C := RX6) (T := TX6) (N := 16) hx hb hts hin6 hown hK hP 5 rfl rfl 11 (by decide) w62 (fun _ h9 => h9) rfl dX6_readName_26 ?_
      refine lv_bipush (v := 11) hx hb dX6_readName_29 (by decide) ?_
      obtain ⟨hc_14t, hc_14f⟩ := hw
      refine lv_icmp_ne (tgt := 38) hx hb dX6_readName_31 (by decide) (fun c_14 => ?_) (fun c_14 => ?_)
      · have hw := hc_14f c_14
        clear hc_14t hc_14f
        refine lv_iconst (v := 0) hx hb dX6_readName_38 (by decide) ?_
        exact J_39 0 S _ _ _ hw hP hD hS (lv_sub hl [0] rfl)
      · have hw := hc_14t c_14
        clear hc_14t hc_14f
        refine lv_iconst (v := 1) hx hb dX6_readName_34 (by decide) ?_
        refine lv_goto (tgt := 39) hx hb dX6_readName_35 (by decide) ?_
        exact J_39 1 S _ _ _ hw hP hD hS (lv_sub hl [0] rfl)
  · have hw := hc_12f c_12
    clear hc_12t hc_12f
    refine lv_aload_n hx hb dX6_readName_9 rfl (lv_at hl 0 rfl) ?_
    refine lv_iconst (v := 1) hx hb dX6_readName_10 (by decide) ?_
    refine e_callVv (As := [.int 1]) (rest := []) clE_stable hs ⟨hx, hb, hml, hown, hts⟩ (cC_X6_fail l D h cy _ _ _ hw) (cwV 1 hts gX6_readName_X6_fail rfl rfl rfl (by decide +kernel) ⟨Nat.le_of_ble_eq_true rfl, Nat.le_of_ble_eq_true rfl⟩) (va_recv hK hP (ci := 6) (q0 := 5) rfl rfl) hK hP hD hS hA rfl hl.1 rfl (Nat.le_of_ble_eq_true rfl) dX6_readName_11 ⟨Nat.zero_le _, Nat.zero_le _⟩ (fun S_16 H locs hw hP hD hS => ?_)
    refine lv_goto (tgt := 78) hx hb dX6_readName_14 (by decide) ?_
    exact W.vret hx hb hr (fun t ht hW => ⟨⟨S_16, rfl, hw, by rw [ht]; exact hP, va_K.moved hW.alike hK, hD⟩, hS.F ht⟩) hS.2.2 dX6_readName_78
def wC_X6_readSum_31 (Rc : Nat → CS → (CS → Prop) → Prop) (post : CS → Prop) (K6 : Int32 → CS → Prop) (x1 : Int32) (S : CS) : Prop := wC_X6_advance S (fun S_2 => Rc 1 S_2 (fun S_4 => wC_X6_emit (cx_r_token S) 0 S_4 (fun S_6 => K6 (x1 + 1) S_6)))
def wC_X6_readSum_6 (Rc : Nat → CS → (CS → Prop) → Prop) (post : CS → Prop) : Nat → Int32 → CS → Prop
  | 0, _, _ => False
  | n + 1, x1, S => ((300 ≤ x1 → post S) ∧ (¬ (300 ≤ x1) → (((cx_r_token S) = 39 → wC_X6_readSum_31 Rc post (wC_X6_readSum_6 Rc post n) x1 S) ∧ (¬ ((cx_r_token S) = 39) → (((cx_r_token S) = 40 → wC_X6_readSum_31 Rc post (wC_X6_readSum_6 Rc post n) x1 S) ∧ (¬ ((cx_r_token S) = 40) → post S))))))
def wB_X6_readSum (Rc : Nat → CS → (CS → Prop) → Prop) (S : CS) (post : CS → Prop) : Prop := Rc 1 S (fun S_2 => ∃ k_ : Nat, wC_X6_readSum_6 Rc post k_ 0 S_2)
set_option maxHeartbeats 4000000 in
set_option maxRecDepth 100000 in
theorem cB_X6_readSum (l : Launch) (D : va_G) (h : Nat → Nat) (cy : Nat → ClassId) (d : Nat) (Rc : Nat → CS → (CS → Prop) → Prop) (hR0 : ∀ (S : CS) (post : CS → Prop), Rc 0 S post → e_Mv clE l yX6_readSum wsX6_readSum { frames := 7 + d, cells := 0, slots := 0, locals := 152 + d * 22 } D (tyC cy) (wC h cy) [.ref (h 5)] S post) (hR1 : ∀ (S : CS) (post : CS → Prop), Rc 1 S post → e_Mv clE l yX6_readProduct wsX6_readProduct { frames := 7 + d, cells := 0, slots := 0, locals := 152 + d * 22 } D (tyC cy) (wC h cy) [.ref (h 5)] S post) (hR2 : ∀ (S : CS) (post : CS → Prop), Rc 2 S post → e_Mv clE l yX6_readOne wsX6_readOne { frames := 7 + d, cells := 0, slots := 0, locals := 152 + d * 22 } D (tyC cy) (wC h cy) [.ref (h 5)] S post) (hR3 : ∀ (S : CS) (post : CS → Prop), Rc 3 S post → e_Mv clE l yX6_readChoice wsX6_readChoice { frames := 7 + d, cells := 0, slots := 0, locals := 152 + d * 22 } D (tyC cy) (wC h cy) [.ref (h 5)] S post) (hR4 : ∀ (S : CS) (post : CS → Prop), Rc 4 S post → e_Mv clE l yX6_readEither wsX6_readEither { frames := 7 + d, cells := 0, slots := 0, locals := 152 + d * 22 } D (tyC cy) (wC h cy) [.ref (h 5)] S post) (hR5 : ∀ (S : CS) (post : CS → Prop), Rc 5 S post → e_Mv clE l yX6_readBoth wsX6_readBoth { frames := 7 + d, cells := 0, slots := 0, locals := 152 + d * 22 } D (tyC cy) (wC h cy) [.ref (h 5)] S post) (hR6 : ∀ (S : CS) (post : CS → Prop), Rc 6 S post → e_Mv clE l yX6_readAsk wsX6_readAsk { frames := 7 + d, cells := 0, slots := 0, locals := 152 + d * 22 } D (tyC cy) (wC h cy) [.ref (h 5)] S post) (S : CS) (post : CS → Prop) (hw : wB_X6_readSum Rc S post) : e_Mv clE l yX6_readSum wsX6_readSum { frames := 7 + (d + 1), cells := 0, slots := 0, locals := 152 + (d + 1) * 22 } D (tyC cy) (wC h cy) [.ref (h 5)] S post := by
  intro sz
  refine Met.ofW (cc := cX6_readSum) (maxL := 3) (ret := none) (by decide) rfl ?_
  intro p e s m args below meth c s₁ B hml hv
  obtain ⟨rfl, hsz, hP, hK, hD0, hs⟩ := hv
  have hx := B.exec
  have hb := B.bytes
  have hr := B.returns
  have hts := atoms_spec (ws := wsX6_readSum) B.pre
  have hown : s.vm.findClass RX6 = some m.cls := findClass_of_methodNamed B.named
  have hlocks := B.notSynchronized
  subst hsz
  have hD := hD0.self (sz := s.heap.size)
  generalize hAe : va_A (wC h cy S) s.heap.size = A at hD hs ⊢
  have hA : ∀ q : Nat, s.heap.size ≤ q → A q := fun q h => by rw [← hAe]; exact Or.inr h
  have hS : va_S A s.heap s.heap [] := va_S.rf
  have hin6 : ∀ w ∈ wsX60, w ∈ wsX6_readSum := fun _ h => List.mem_cons_of_mem _ (List.mem_append_right _ h)
  have w62 := hts (.fieldLink RX6 62 "ClownsMourn$Reader" "token" "I") (List.mem_of_getElem? (i := 1) rfl)
  have hl := lv_entry ([.ref (h 5)]) (n := 3) (Nat.le_of_ble_eq_true rfl)
  rw [lg_entry_eq]
  generalize (lg_sl ([.ref (h 5)]) ++ List.replicate (3 - (lg_sl ([.ref (h 5)])).length) Slot.unset).toArray = ls at hl ⊢
  have hl : lv_has ls 3 [(0, .ref (h 5))] := hl
  unfold wB_X6_readSum at hw
  clear hD0
  have L_6 : ∀ (n6 : Nat) (x1 : Int32) (S : CS) (H : Heap) (locs : List Loc) (ls : Array Slot), wC_X6_readSum_6 Rc post n6 x1 S → va_P D vwCl (wC h cy S) H → va_D A (wC h cy S) → va_S A s.heap H locs → lv_has ls 3 [(0, .ref (h 5)), (1, .int x1)] → W p l e (headSpec wsX6_readSum { frames := 7 + (d + 1), cells := 0, slots := 0, locals := 152 + (d + 1) * 22 }).room s m (([.ref (h 5)] : List Value).toArray) below meth c H locs 0 0 (MQ below (va_Qv post (k_Post D (tyC cy) (wC h cy) A) A) (([.ref (h 5)] : List Value).toArray) s 0 0 A) (F0 m 6 ls []) := by
    intro n6
    induction n6 with
    | zero => intro x1 S H locs ls hw; exact False.elim hw
    | succ n6 ih_6 =>
      have J_31 : ∀ (x1 : Int32) (S : CS) (H : Heap) (locs : List Loc) (ls : Array Slot), wC_X6_readSum_31 Rc post (wC_X6_readSum_6 Rc post n6) x1 S → va_P D vwCl (wC h cy S) H → va_D A (wC h cy S) → va_S A s.heap H locs → lv_has ls 3 [(0, .ref (h 5)), (1, .int x1)] → W p l e (headSpec wsX6_readSum { frames := 7 + (d + 1), cells := 0, slots := 0, locals := 152 + (d + 1) * 22 }).room s m (([.ref (h 5)] : List Value).toArray) below meth c H locs 0 0 (MQ below (va_Qv post (k_Post D (tyC cy) (wC h cy) A) A) (([.ref (h 5)] : List Value).toArray) s 0 0 A) (F0 m 31 ls []) := by
        intro x1 S H locs ls hw hP hD hS hl
        unfold wC_X6_readSum_31 at hw
        refine lv_aload_n hx hb dX6_readSum_31 rfl (lv_at hl 0 rfl) ?_
        refine va_get (D := D) (ci := 6) (v := .int (cx_r_token S)) (C := RX6) (T := TX6) (N := 16) hx hb hts hin6 hown hK hP 5 rfl rfl 11 (by decide) w62 (fun _ h9 => h9) rfl dX6_readSum_32 ?_
        refine lv_istore_n (lv' := [(2, .int (cx_r_token S)), (0, .ref (h 5)), (1, .int x1)]) hx hb dX6_readSum_35 rfl hl (by decide) rfl (fun ls hl => ?_)
        refine lv_aload_n hx hb dX6_readSum_36 rfl (lv_at hl 1 rfl) ?_
        refine e_callVv (As := []) (rest := []) clE_stable hs ⟨hx, hb, hml, hown, hts⟩ (cC_X6_advance l D h cy _ _ hw) (cwV 0 hts gX6_readSum_X6_advance rfl rfl rfl (by decide +kernel) ⟨by show 5 + 1 ≤ 7 + (d + 1); omega, by show 8 + (2 + 11) + 110 ≤ 152 + (d + 1) * 22; omega⟩) (va_recv hK hP (ci := 6) (q0 := 5) rfl rfl) hK hP hD hS hA rfl hl.1 rfl (Nat.le_of_ble_eq_true rfl) dX6_readSum_37 ⟨Nat.zero_le _, Nat.zero_le _⟩ (fun S_2 H locs hw hP hD hS => ?_)
        refine lv_aload_n hx hb dX6_readSum_40 rfl (lv_at hl 1 rfl) ?_
        refine e_callVv (As := []) (rest := []) clE_stable hs ⟨hx, hb, hml, hown, hts⟩ (hR1 _ _ hw) (cwV 0 hts gX6_readSum_X6_readProduct rfl rfl rfl (by decide +kernel) ⟨by show 7 + d + 1 ≤ 7 + (d + 1); omega, by show 8 + (3 + 11) + (152 + d * 22) ≤ 152 + (d + 1) * 22; omega⟩) (va_recv hK hP (ci := 6) (q0 := 5) rfl rfl) hK hP hD hS hA rfl hl.1 rfl (Nat.le_of_ble_eq_true rfl) dX6_readSum_41 ⟨Nat.zero_le _, Nat.zero_le _⟩ (fun S_4 H locs hw hP hD hS => ?_)
        refine lv_aload_n hx hb dX6_readSum_44 rfl (lv_at hl 1 rfl) ?_
        refine lv_iload_n hx hb dX6_readSum_45 rfl (lv_at hl 0 rfl) ?_
        refine lv_iconst (v := 0) hx hb dX6_readSum_46 (by decide) ?_
        refine e_callVv (As := [.int (cx_r_token S), .int 0]) (rest := []) clE_stable hs ⟨hx, hb, hml, hown, hts⟩ (cC_X6_emit l D h cy _ _ _ _ hw) (cwV 2 hts gX6_readSum_X6_emit rfl rfl rfl (by decide +kernel) ⟨by show 1 + 1 ≤ 7 + (d + 1); omega, by show 8 + (3 + 11) + 22 ≤ 152 + (d + 1) * 22; omega⟩) (va_recv hK hP (ci := 6) (q0 := 5) rfl rfl) hK hP hD hS hA rfl hl.1 rfl (Nat.le_of_ble_eq_true rfl) dX6_readSum_47 ⟨Nat.zero_le _, Nat.zero_le _⟩ (fun S_6 H locs hw hP hD hS => ?_)
        refine lv_iinc (v := x1 + 1) (lv' := [(1, .int (x1 + 1)), (2, .int (cx_r_token S)), (0, .ref (h 5))]) hx hb dX6_readSum_50 hl (k := 2) rfl (k_inc (by decide)) (by decide) rfl (fun ls hl => ?_)
        refine lv_goto (tgt := 6) hx hb dX6_readSum_53 (by decide) ?_
        exact ih_6 (x1 + 1) S_6 _ _ _ hw hP hD hS (lv_sub hl [2, 0] rfl)
      intro x1 S H locs ls hw hP hD hS hl
      unfold wC_X6_readSum_6 at hw
      refine lv_iload_n hx hb dX6_readSum_6 rfl (lv_at hl 1 rfl) ?_
      refine lv_sipush (v := 300) hx hb dX6_readSum_7 (by decide) ?_
      obtain ⟨hc_7t, hc_7f⟩ := hw
      refine lv_icmp_ge (tgt := 56) hx hb dX6_readSum_10 (by decide) (fun c_7 => ?_) (fun c_7 => ?_)
      · have hw := hc_7t c_7
        clear hc_7t hc_7f
        exact W.vret hx hb hr (fun t ht hW => ⟨⟨S, rfl, hw, by rw [ht]; exact hP, va_K.moved hW.alike hK, hD⟩, hS.F ht⟩) hS.2.2 dX6_readSum_56
      · have hw := hc_7f c_7
        clear hc_7t hc_7f
        refine lv_aload_n hx hb dX6_readSum_13 rfl (lv_at hl 0 rfl) ?_
        refine va_get (D := D) (ci := 6) (v := .int (cx_r_token S)) (C := RX6) (T := TX6) (N := 16) hx hb hts hin6 hown hK hP 5 rfl rfl 11 (by decide) w62 (fun _ h9 => h9) rfl dX6_readSum_14 ?_
        refine lv_bipush (v := 39) hx hb dX6_readSum_17 (by decide) ?_
        obtain ⟨hc_8t, hc_8f⟩ := hw
        refine lv_icmp_eq (tgt := 31) hx hb dX6_readSum_19 (by decide) (fun c_8 => ?_) (fun c_8 => ?_)
        · have hw := hc_8t c_8
          clear hc_8t hc_8f
          exact J_31 x1 S _ _ _ hw hP hD hS (lv_sub hl [0, 1] rfl)
        · have hw := hc_8f c_8
          clear hc_8t hc_8f
          refine lv_aload_n hx hb dX6_readSum_22 rfl (lv_at hl 0 rfl) ?_
          refine va_get (D := D) (ci := 6) (v := .int (cx_r_token S)) (C := RX6) (T := TX6) (N := 16) hx hb hts hin6 hown hK hP 5 rfl rfl 11 (by decide) w62 (fun _ h9 => h9) rfl dX6_readSum_23 ?_
          refine lv_bipush (v := 40) hx hb dX6_readSum_26 (by decide) ?_
          obtain ⟨hc_9t, hc_9f⟩ := hw
          refine lv_icmp_ne (tgt := 56) hx hb dX6_readSum_28 (by decide) (fun c_9 => ?_) (fun c_9 => ?_)
          · have hw := hc_9f c_9
            clear hc_9t hc_9f
            exact W.vret hx hb hr (fun t ht hW => ⟨⟨S, rfl, hw, by rw [ht]; exact hP, va_K.moved hW.alike hK, hD⟩, hS.F ht⟩) hS.2.2 dX6_readSum_56
          · have hw := hc_9t c_9
            clear hc_9t hc_9f
            exact J_31 x1 S _ _ _ hw hP hD hS (lv_sub hl [0, 1] rfl)
  refine lv_aload_n hx hb dX6_readSum_0 rfl (lv_at hl 0 rfl) ?_
  refine e_callVv (As := []) (rest := []) clE_stable hs ⟨hx, hb, hml, hown, hts⟩ (hR1 _ _ hw) (cwV 0 hts gX6_readSum_X6_readProduct rfl rfl rfl (by decide +kernel) ⟨by show 7 + d + 1 ≤ 7 + (d + 1); omega, by show 8 + (3 + 11) + (152 + d * 22) ≤ 152 + (d + 1) * 22; omega⟩) (va_recv hK hP (ci := 6) (q0 := 5) rfl rfl) hK hP hD hS hA rfl hl.1 rfl (Nat.le_of_ble_eq_true rfl) dX6_readSum_1 ⟨Nat.zero_le _, Nat.zero_le _⟩ (fun S_11 H locs hw hP hD hS => ?_)
  refine lv_iconst (v := 0) hx hb dX6_readSum_4 (by decide) ?_
  refine lv_istore_n (lv' := [(1, .int 0), (0, .ref (h 5))]) hx hb dX6_readSum_5 rfl hl (by decide) rfl (fun ls hl => ?_)
  obtain ⟨n_6, hw⟩ := hw
  exact L_6 n_6 0 S_11 _ _ _ hw hP hD hS (lv_sub hl [1, 0] rfl)
def wC_X6_readProduct_31 (Rc : Nat → CS → (CS → Prop) → Prop) (post : CS → Prop) (K6 : Int32 → CS → Prop) (x1 : Int32) (S : CS) : Prop := wC_X6_advance S (fun S_2 => Rc 2 S_2 (fun S_4 => wC_X6_emit (cx_r_token S) 0 S_4 (fun S_6 => K6 (x1 + 1) S_6)))
def wC_X6_readProduct_6 (Rc : Nat → CS → (CS → Prop) → Prop) (post : CS → Prop) : Nat → Int32 → CS → Prop
  | 0, _, _ => False
  | n + 1, x1, S => ((300 ≤ x1 → post S) ∧ (¬ (300 ≤ x1) → (((cx_r_token S) = 41 → wC_X6_readProduct_31 Rc post (wC_X6_readProduct_6 Rc post n) x1 S) ∧ (¬ ((cx_r_token S) = 41) → (((cx_r_token S) = 42 → wC_X6_readProduct_31 Rc post (wC_X6_readProduct_6 Rc post n) x1 S) ∧ (¬ ((cx_r_token S) = 42) → post S))))))
def wB_X6_readProduct (Rc : Nat → CS → (CS → Prop) → Prop) (S : CS) (post : CS → Prop) : Prop := Rc 2 S (fun S_2 => ∃ k_ : Nat, wC_X6_readProduct_6 Rc post k_ 0 S_2)
set_option maxHeartbeats 4000000 in
set_option maxRecDepth 100000 in
theorem cB_X6_readProduct (l : Launch) (D : va_G) (h : Nat → Nat) (cy : Nat → ClassId) (d : Nat) (Rc : Nat → CS → (CS → Prop) → Prop) (hR0 : ∀ (S : CS) (post : CS → Prop), Rc 0 S post → e_Mv clE l yX6_readSum wsX6_readSum { frames := 7 + d, cells := 0, slots := 0, locals := 152 + d * 22 } D (tyC cy) (wC h cy) [.ref (h 5)] S post) (hR1 : ∀ (S : CS) (post : CS → Prop), Rc 1 S post → e_Mv clE l yX6_readProduct wsX6_readProduct { frames := 7 + d, cells := 0, slots := 0, locals := 152 + d * 22 } D (tyC cy) (wC h cy) [.ref (h 5)] S post) (hR2 : ∀ (S : CS) (post : CS → Prop), Rc 2 S post → e_Mv clE l yX6_readOne wsX6_readOne { frames := 7 + d, cells := 0, slots := 0, locals := 152 + d * 22 } D (tyC cy) (wC h cy) [.ref (h 5)] S post) (hR3 : ∀ (S : CS) (post : CS → Prop), Rc 3 S post → e_Mv clE l yX6_readChoice wsX6_readChoice { frames := 7 + d, cells := 0, slots := 0, locals := 152 + d * 22 } D (tyC cy) (wC h cy) [.ref (h 5)] S post) (hR4 : ∀ (S : CS) (post : CS → Prop), Rc 4 S post → e_Mv clE l yX6_readEither wsX6_readEither { frames := 7 + d, cells := 0, slots := 0, locals := 152 + d * 22 } D (tyC cy) (wC h cy) [.ref (h 5)] S post) (hR5 : ∀ (S : CS) (post : CS → Prop), Rc 5 S post → e_Mv clE l yX6_readBoth wsX6_readBoth { frames := 7 + d, cells := 0, slots := 0, locals := 152 + d * 22 } D (tyC cy) (wC h cy) [.ref (h 5)] S post) (hR6 : ∀ (S : CS) (post : CS → Prop), Rc 6 S post → e_Mv clE l yX6_readAsk wsX6_readAsk { frames := 7 + d, cells := 0, slots := 0, locals := 152 + d * 22 } D (tyC cy) (wC h cy) [.ref (h 5)] S post) (S : CS) (post : CS → Prop) (hw : wB_X6_readProduct Rc S post) : e_Mv clE l yX6_readProduct wsX6_readProduct { frames := 7 + (d + 1), cells := 0, slots := 0, locals := 152 + (d + 1) * 22 } D (tyC cy) (wC h cy) [.ref (h 5)] S post := by
  intro sz
  refine Met.ofW (cc := cX6_readProduct) (maxL := 3) (ret := none) (by decide) rfl ?_
  intro p e s m args below meth c s₁ B hml hv
  obtain ⟨rfl, hsz, hP, hK, hD0, hs⟩ := hv
  have hx := B.exec
  have hb := B.bytes
  have hr := B.returns
  have hts := atoms_spec (ws := wsX6_readProduct) B.pre
  have hown : s.vm.findClass RX6 = some m.cls := findClass_of_methodNamed B.named
  have hlocks := B.notSynchronized
  subst hsz
  have hD := hD0.self (sz := s.heap.size)
  generalize hAe : va_A (wC h cy S) s.heap.size = A at hD hs ⊢
  have hA : ∀ q : Nat, s.heap.size ≤ q → A q := fun q h => by rw [← hAe]; exact Or.inr h
  have hS : va_S A s.heap s.heap [] := va_S.rf
  have hin6 : ∀ w ∈ wsX60, w ∈ wsX6_readProduct := fun _ h => List.mem_cons_of_mem _ (List.mem_append_right _ h)
  have w62 := hts (.fieldLink RX6 62 "ClownsMourn$Reader" "token" "I") (List.mem_of_getElem? (i := 1) rfl)
  have hl := lv_entry ([.ref (h 5)]) (n := 3) (Nat.le_of_ble_eq_true rfl)
  rw [lg_entry_eq]
  generalize (lg_sl ([.ref (h 5)]) ++ List.replicate (3 - (lg_sl ([.ref (h 5)])).length) Slot.unset).toArray = ls at hl ⊢
  have hl : lv_has ls 3 [(0, .ref (h 5))] := hl
  unfold wB_X6_readProduct at hw
  clear hD0
  have L_6 : ∀ (n6 : Nat) (x1 : Int32) (S : CS) (H : Heap) (locs : List Loc) (ls : Array Slot), wC_X6_readProduct_6 Rc post n6 x1 S → va_P D vwCl (wC h cy S) H → va_D A (wC h cy S) → va_S A s.heap H locs → lv_has ls 3 [(0, .ref (h 5)), (1, .int x1)] → W p l e (headSpec wsX6_readProduct { frames := 7 + (d + 1), cells := 0, slots := 0, locals := 152 + (d + 1) * 22 }).room s m (([.ref (h 5)] : List Value).toArray) below meth c H locs 0 0 (MQ below (va_Qv post (k_Post D (tyC cy) (wC h cy) A) A) (([.ref (h 5)] : List Value).toArray) s 0 0 A) (F0 m 6 ls []) := by
    intro n6
    induction n6 with
    | zero => intro x1 S H locs ls hw; exact False.elim hw
    | succ n6 ih_6 =>
      have J_31 : ∀ (x1 : Int32) (S : CS) (H : Heap) (locs : List Loc) (ls : Array Slot), wC_X6_readProduct_31 Rc post (wC_X6_readProduct_6 Rc post n6) x1 S → va_P D vwCl (wC h cy S) H → va_D A (wC h cy S) → va_S A s.heap H locs → lv_has ls 3 [(0, .ref (h 5)), (1, .int x1)] → W p l e (headSpec wsX6_readProduct { frames := 7 + (d + 1), cells := 0, slots := 0, locals := 152 + (d + 1) * 22 }).room s m (([.ref (h 5)] : List Value).toArray) below meth c H locs 0 0 (MQ below (va_Qv post (k_Post D (tyC cy) (wC h cy) A) A) (([.ref (h 5)] : List Value).toArray) s 0 0 A) (F0 m 31 ls []) := by
        intro x1 S H locs ls hw hP hD hS hl
        unfold wC_X6_readProduct_31 at hw
        refine lv_aload_n hx hb dX6_readProduct_31 rfl (lv_at hl 0 rfl) ?_
        refine va_get (D := D) (ci := 6) (v := .int (cx_r_token S)) (C := RX6) (T := TX6) (N := 16) hx hb hts hin6 hown hK hP 5 rfl rfl 11 (by decide) w62 (fun _ h9 => h9) rfl dX6_readProduct_32 ?_
        refine lv_istore_n (lv' := [(2, .int (cx_r_token S)), (0, .ref (h 5)), (1, .int x1)]) hx hb dX6_readProduct_35 rfl hl (by decide) rfl (fun ls hl => ?_)
        refine lv_aload_n hx hb dX6_readProduct_36 rfl (lv_at hl 1 rfl) ?_
        refine e_callVv (As := []) (rest := []) clE_stable hs ⟨hx, hb, hml, hown, hts⟩ (cC_X6_advance l D h cy _ _ hw) (cwV 0 hts gX6_readProduct_X6_advance rfl rfl rfl (by decide +kernel) ⟨by show 5 + 1 ≤ 7 + (d + 1); omega, by show 8 + (2 + 11) + 110 ≤ 152 + (d + 1) * 22; omega⟩) (va_recv hK hP (ci := 6) (q0 := 5) rfl rfl) hK hP hD hS hA rfl hl.1 rfl (Nat.le_of_ble_eq_true rfl) dX6_readProduct_37 ⟨Nat.zero_le _, Nat.zero_le _⟩ (fun S_2 H locs hw hP hD hS => ?_)
        refine lv_aload_n hx hb dX6_readProduct_40 rfl (lv_at hl 1 rfl) ?_
        refine e_callVv (As := []) (rest := []) clE_stable hs ⟨hx, hb, hml, hown, hts⟩ (hR2 _ _ hw) (cwV 0 hts gX6_readProduct_X6_readOne rfl rfl rfl (by decide +kernel) ⟨by show 7 + d + 1 ≤ 7 + (d + 1); omega, by show 8 + (1 + 11) + (152 + d * 22) ≤ 152 + (d + 1) * 22; omega⟩) (va_recv hK hP (ci := 6) (q0 := 5) rfl rfl) hK hP hD hS hA rfl hl.1 rfl (Nat.le_of_ble_eq_true rfl) dX6_readProduct_41 ⟨Nat.zero_le _, Nat.zero_le _⟩ (fun S_4 H locs hw hP hD hS => ?_)
        refine lv_aload_n hx hb dX6_readProduct_44 rfl (lv_at hl 1 rfl) ?_
        refine lv_iload_n hx hb dX6_readProduct_45 rfl (lv_at hl 0 rfl) ?_
        refine lv_iconst (v := 0) hx hb dX6_readProduct_46 (by decide) ?_
        refine e_callVv (As := [.int (cx_r_token S), .int 0]) (rest := []) clE_stable hs ⟨hx, hb, hml, hown, hts⟩ (cC_X6_emit l D h cy _ _ _ _ hw) (cwV 2 hts gX6_readProduct_X6_emit rfl rfl rfl (by decide +kernel) ⟨by show 1 + 1 ≤ 7 + (d + 1); omega, by show 8 + (3 + 11) + 22 ≤ 152 + (d + 1) * 22; omega⟩) (va_recv hK hP (ci := 6) (q0 := 5) rfl rfl) hK hP hD hS hA rfl hl.1 rfl (Nat.le_of_ble_eq_true rfl) dX6_readProduct_47 ⟨Nat.zero_le _, Nat.zero_le _⟩ (fun S_6 H locs hw hP hD hS => ?_)
        refine lv_iinc (v := x1 + 1) (lv' := [(1, .int (x1 + 1)), (2, .int (cx_r_token S)), (0, .ref (h 5))]) hx hb dX6_readProduct_50 hl (k := 2) rfl (k_inc (by decide)) (by decide) rfl (fun ls hl => ?_)
        refine lv_goto (tgt := 6) hx hb dX6_readProduct_53 (by decide) ?_
        exact ih_6 (x1 + 1) S_6 _ _ _ hw hP hD hS (lv_sub hl [2, 0] rfl)
      intro x1 S H locs ls hw hP hD hS hl
      unfold wC_X6_readProduct_6 at hw
      refine lv_iload_n hx hb dX6_readProduct_6 rfl (lv_at hl 1 rfl) ?_
      refine lv_sipush (v := 300) hx hb dX6_readProduct_7 (by decide) ?_
      obtain ⟨hc_7t, hc_7f⟩ := hw
      refine lv_icmp_ge (tgt := 56) hx hb dX6_readProduct_10 (by decide) (fun c_7 => ?_) (fun c_7 => ?_)
      · have hw := hc_7t c_7
        clear hc_7t hc_7f
        exact W.vret hx hb hr (fun t ht hW => ⟨⟨S, rfl, hw, by rw [ht]; exact hP, va_K.moved hW.alike hK, hD⟩, hS.F ht⟩) hS.2.2 dX6_readProduct_56
      · have hw := hc_7f c_7
        clear hc_7t hc_7f
        refine lv_aload_n hx hb dX6_readProduct_13 rfl (lv_at hl 0 rfl) ?_
        refine va_get (D := D) (ci := 6) (v := .int (cx_r_token S)) (C := RX6) (T := TX6) (N := 16) hx hb hts hin6 hown hK hP 5 rfl rfl 11 (by decide) w62 (fun _ h9 => h9) rfl dX6_readProduct_14 ?_
        refine lv_bipush (v := 41) hx hb dX6_readProduct_17 (by decide) ?_
        obtain ⟨hc_8t, hc_8f⟩ := hw
        refine lv_icmp_eq (tgt := 31) hx hb dX6_readProduct_19 (by decide) (fun c_8 => ?_) (fun c_8 => ?_)
        · have hw := hc_8t c_8
          clear hc_8t hc_8f
          exact J_31 x1 S _ _ _ hw hP hD hS (lv_sub hl [0, 1] rfl)
        · have hw := hc_8f c_8
          clear hc_8t hc_8f
          refine lv_aload_n hx hb dX6_readProduct_22 rfl (lv_at hl 0 rfl) ?_
          refine va_get (D := D) (ci := 6) (v := .int (cx_r_token S)) (C := RX6) (T := TX6) (N := 16) hx hb hts hin6 hown hK hP 5 rfl rfl 11 (by decide) w62 (fun _ h9 => h9) rfl dX6_readProduct_23 ?_
          refine lv_bipush (v := 42) hx hb dX6_readProduct_26 (by decide) ?_
          obtain ⟨hc_9t, hc_9f⟩ := hw
          refine lv_icmp_ne (tgt := 56) hx hb dX6_readProduct_28 (by decide) (fun c_9 => ?_) (fun c_9 => ?_)
          · have hw := hc_9f c_9
            clear hc_9t hc_9f
            exact W.vret hx hb hr (fun t ht hW => ⟨⟨S, rfl, hw, by rw [ht]; exact hP, va_K.moved hW.alike hK, hD⟩, hS.F ht⟩) hS.2.2 dX6_readProduct_56
          · have hw := hc_9t c_9
            clear hc_9t hc_9f
            exact J_31 x1 S _ _ _ hw hP hD hS (lv_sub hl [0, 1] rfl)
  refine lv_aload_n hx hb dX6_readProduct_0 rfl (lv_at hl 0 rfl) ?_
  refine e_callVv (As := []) (rest := []) clE_stable hs ⟨hx, hb, hml, hown, hts⟩ (hR2 _ _ hw) (cwV 0 hts gX6_readProduct_X6_readOne rfl rfl rfl (by decide +kernel) ⟨by show 7 + d + 1 ≤ 7 + (d + 1); omega, by show 8 + (1 + 11) + (152 + d * 22) ≤ 152 + (d + 1) * 22; omega⟩) (va_recv hK hP (ci := 6) (q0 := 5) rfl rfl) hK hP hD hS hA rfl hl.1 rfl (Nat.le_of_ble_eq_true rfl) dX6_readProduct_1 ⟨Nat.zero_le _, Nat.zero_le _⟩ (fun S_11 H locs hw hP hD hS => ?_)
  refine lv_iconst (v := 0) hx hb dX6_readProduct_4 (by decide) ?_
  refine lv_istore_n (lv' := [(1, .int 0), (0, .ref (h 5))]) hx hb dX6_readProduct_5 rfl hl (by decide) rfl (fun ls hl => ?_)
  obtain ⟨n_6, hw⟩ := hw
  exact L_6 n_6 0 S_11 _ _ _ hw hP hD hS (lv_sub hl [1, 0] rfl)
def wB_X6_readOne (Rc : Nat → CS → (CS → Prop) → Prop) (S : CS) (post : CS → Prop) : Prop := (((cx_r_token S) = 20 → wC_X6_opens S (fun r_1 S_2 => ((r_1 = 0 → post S_2) ∧ (¬ (r_1 = 0) → Rc 2 S_2 (fun S_5 => wC_X6_expect 21 S_5 (fun S_7 => Rc 2 S_7 (fun S_9 => wC_X6_expect 19 S_9 (fun S_11 => Rc 2 S_11 (fun S_13 => wC_X6_emit 20 0 S_13 (fun S_15 => (∀ S_16 : CS, S_16 = (cx_set_r_open S_15 ((cx_r_open S_15) - 1)) → post S_16))))))))))) ∧ ((cx_r_token S) = 22 → wC_X6_opens S (fun r_18 S_19 => ((r_18 = 0 → post S_19) ∧ (¬ (r_18 = 0) → Rc 2 S_19 (fun S_22 => wC_X6_emit 22 0 S_22 (fun S_24 => (∀ S_25 : CS, S_25 = (cx_set_r_open S_24 ((cx_r_open S_24) - 1)) → post S_25))))))) ∧ ((cx_r_token S) = 23 → wC_X6_opens S (fun r_27 S_28 => ((r_27 = 0 → post S_28) ∧ (¬ (r_27 = 0) → Rc 3 S_28 (fun S_31 => (∀ S_32 : CS, S_32 = (cx_set_r_open S_31 ((cx_r_open S_31) - 1)) → post S_32)))))) ∧ ((cx_r_token S) = 32 → wC_X6_readPlainNumber S (fun S_35 => post S_35)) ∧ ((cx_r_token S) = 40 → wC_X6_opens S (fun r_37 S_38 => ((r_37 = 0 → post S_38) ∧ (¬ (r_37 = 0) → Rc 2 S_38 (fun S_41 => wC_X6_emit 46 0 S_41 (fun S_43 => (∀ S_44 : CS, S_44 = (cx_set_r_open S_43 ((cx_r_open S_43) - 1)) → post S_44))))))) ∧ ((cx_r_token S) = 43 → wC_X6_opens S (fun r_46 S_47 => ((r_46 = 0 → post S_47) ∧ (¬ (r_46 = 0) → Rc 0 S_47 (fun S_50 => wC_X6_expect 44 S_50 (fun S_52 => (∀ S_53 : CS, S_53 = (cx_set_r_open S_52 ((cx_r_open S_52) - 1)) → post S_53))))))) ∧ (¬ (cx_r_token S) = 20 → ¬ (cx_r_token S) = 22 → ¬ (cx_r_token S) = 23 → ¬ (cx_r_token S) = 32 → ¬ (cx_r_token S) = 40 → ¬ (cx_r_token S) = 43 → wC_X6_readName S (fun S_56 => post S_56)))
set_option maxHeartbeats 4000000 in
set_option maxRecDepth 100000 in
theorem cB_X6_readOne (l : Launch) (D : va_G) (h : Nat → Nat) (cy : Nat → ClassId) (d : Nat) (Rc : Nat → CS → (CS → Prop) → Prop) (hR0 : ∀ (S : CS) (post : CS → Prop), Rc 0 S post → e_Mv clE l yX6_readSum wsX6_readSum { frames := 7 + d, cells := 0, slots := 0, locals := 152 + d * 22 } D (tyC cy) (wC h cy) [.ref (h 5)] S post) (hR1 : ∀ (S : CS) (post : CS → Prop), Rc 1 S post → e_Mv clE l yX6_readProduct wsX6_readProduct { frames := 7 + d, cells := 0, slots := 0, locals := 152 + d * 22 } D (tyC cy) (wC h cy) [.ref (h 5)] S post) (hR2 : ∀ (S : CS) (post : CS → Prop), Rc 2 S post → e_Mv clE l yX6_readOne wsX6_readOne { frames := 7 + d, cells := 0, slots := 0, locals := 152 + d * 22 } D (tyC cy) (wC h cy) [.ref (h 5)] S post) (hR3 : ∀ (S : CS) (post : CS → Prop), Rc 3 S post → e_Mv clE l yX6_readChoice wsX6_readChoice { frames := 7 + d, cells := 0, slots := 0, locals := 152 + d * 22 } D (tyC cy) (wC h cy) [.ref (h 5)] S post) (hR4 : ∀ (S : CS) (post : CS → Prop), Rc 4 S post → e_Mv clE l yX6_readEither wsX6_readEither { frames := 7 + d, cells := 0, slots := 0, locals := 152 + d * 22 } D (tyC cy) (wC h cy) [.ref (h 5)] S post) (hR5 : ∀ (S : CS) (post : CS → Prop), Rc 5 S post → e_Mv clE l yX6_readBoth wsX6_readBoth { frames := 7 + d, cells := 0, slots := 0, locals := 152 + d * 22 } D (tyC cy) (wC h cy) [.ref (h 5)] S post) (hR6 : ∀ (S : CS) (post : CS → Prop), Rc 6 S post → e_Mv clE l yX6_readAsk wsX6_readAsk { frames := 7 + d, cells := 0, slots := 0, locals := 152 + d * 22 } D (tyC cy) (wC h cy) [.ref (h 5)] S post) (S : CS) (post : CS → Prop) (hw : wB_X6_readOne Rc S post) : e_Mv clE l yX6_readOne wsX6_readOne { frames := 7 + (d + 1), cells := 0, slots := 0, locals := 152 + (d + 1) * 22 } D (tyC cy) (wC h cy) [.ref (h 5)] S post := by
  intro sz
  refine Met.ofW (cc := cX6_readOne) (maxL := 1) (ret := none) (by decide) rfl ?_
  intro p e s m args below meth c s₁ B hml hv
  obtain ⟨rfl, hsz, hP, hK, hD0, hs⟩ := hv
  have hx := B.exec
  have hb := B.bytes
  have hr := B.returns
  have hts := atoms_spec (ws := wsX6_readOne) B.pre
  have hown : s.vm.findClass RX6 = some m.cls := findClass_of_methodNamed B.named
  have hlocks := B.notSynchronized
  subst hsz
  have hD := hD0.self (sz := s.heap.size)
  generalize hAe : va_A (wC h cy S) s.heap.size = A at hD hs ⊢
  have hA : ∀ q : Nat, s.heap.size ≤ q → A q := fun q h => by rw [← hAe]; exact Or.inr h
  have hS : va_S A s.heap s.heap [] := va_S.rf
  have hin6 : ∀ w ∈ wsX60, w ∈ wsX6_readOne := fun _ h => List.mem_cons_of_mem _ (List.mem_append_right _ h)
  have w50 := hts (.fieldLink RX6 50 "ClownsMourn$Reader" "open" "I") (List.mem_of_getElem? (i := 2) rfl)
  have w62 := hts (.fieldLink RX6 62 "ClownsMourn$Reader" "token" "I") (List.mem_of_getElem? (i := 1) rfl)
  have hl := lv_entry ([.ref (h 5)]) (n := 1) (Nat.le_of_ble_eq_true rfl)
  rw [lg_entry_eq]
  generalize (lg_sl ([.ref (h 5)]) ++ List.replicate (1 - (lg_sl ([.ref (h 5)])).length) Slot.unset).toArray = ls at hl ⊢
  have hl : lv_has ls 1 [(0, .ref (h 5))] := hl
  unfold wB_X6_readOne at hw
  clear hD0
  refine lv_aload_n hx hb dX6_readOne_0 rfl (lv_at hl 0 rfl) ?_
  refine va_get (D := D) (ci := 6) (v := .int (cx_r_token S)) (C := RX6) (T := TX6) (N := 16) hx hb hts hin6 hown hK hP 5 rfl rfl 11 (by decide) w62 (fun _ h9 => h9) rfl dX6_readOne_1 ?_
  obtain ⟨hc_17, hw⟩ := hw
  by_cases c_17 : (cx_r_token S) = 20
  · have hw := hc_17 c_17
    refine lv_lookup (off := 128) (tgt := 132) hx hb dX6_readOne_4 (by decide) (by rw [c_17]; decide) (by decide) ?_
    refine lv_aload_n hx hb dX6_readOne_132 rfl (lv_at hl 0 rfl) ?_
    refine e_callVi (As := []) (rest := []) clE_stable hs ⟨hx, hb, hml, hown, hts⟩ (cC_X6_opens l D h cy _ _ hw) (cwV 0 hts gX6_readOne_X6_opens rfl rfl rfl (by decide +kernel) ⟨by show 6 + 1 ≤ 7 + (d + 1); omega, by show 8 + (1 + 11) + 131 ≤ 152 + (d + 1) * 22; omega⟩) (va_recv hK hP (ci := 6) (q0 := 5) rfl rfl) hK hP hD hS hA rfl hl.1 rfl (Nat.le_of_ble_eq_true rfl) dX6_readOne_133 ⟨Nat.zero_le _, Nat.zero_le _⟩ (fun r_1 S_2 H locs hw hP hD hS => ?_)
    obtain ⟨hc_3t, hc_3f⟩ := hw
    refine lv_if_eq (tgt := 242) hx hb dX6_readOne_136 (by decide) (fun c_3 => ?_) (fun c_3 => ?_)
    · have hw := hc_3t c_3
      clear hc_3t hc_3f
      exact W.vret hx hb hr (fun t ht hW => ⟨⟨S_2, rfl, hw, by rw [ht]; exact hP, va_K.moved hW.alike hK, hD⟩, hS.F ht⟩) hS.2.2 dX6_readOne_242
    · have hw := hc_3f c_3
      clear hc_3t hc_3f
      refine lv_aload_n hx hb dX6_readOne_139 rfl (lv_at hl 0 rfl) ?_
      refine e_callVv (As := []) (rest := []) clE_stable hs ⟨hx, hb, hml, hown, hts⟩ (hR2 _ _ hw) (cwV 0 hts gX6_readOne_X6_readOne rfl rfl rfl (by decide +kernel) ⟨by show 7 + d + 1 ≤ 7 + (d + 1); omega, by show 8 + (1 + 11) + (152 + d * 22) ≤ 152 + (d + 1) * 22; omega⟩) (va_recv hK hP (ci := 6) (q0 := 5) rfl rfl) hK hP hD hS hA rfl hl.1 rfl (Nat.le_of_ble_eq_true rfl) dX6_readOne_140 ⟨Nat.zero_le _, Nat.zero_le _⟩ (fun S_5 H locs hw hP hD hS => ?_)
      refine lv_aload_n hx hb dX6_readOne_143 rfl (lv_at hl 0 rfl) ?_
      refine lv_bipush (v := 21) hx hb dX6_readOne_144 (by decide) ?_
      refine e_callVv (As := [.int 21]) (rest := []) clE_stable hs ⟨hx, hb, hml, hown, hts⟩ (cC_X6_expect l D h cy _ _ _ hw) (cwV 1 hts gX6_readOne_X6_expect rfl rfl rfl (by decide +kernel) ⟨by show 6 + 1 ≤ 7 + (d + 1); omega, by show 8 + (2 + 11) + 131 ≤ 152 + (d + 1) * 22; omega⟩) (va_recv hK hP (ci := 6) (q0 := 5) rfl rfl) hK hP hD hS hA rfl hl.1 rfl (Nat.le_of_ble_eq_true rfl) dX6_readOne_146 ⟨Nat.zero_le _, Nat.zero_le _⟩ (fun S_7 H locs hw hP hD hS => ?_)
      refine lv_aload_n hx hb dX6_readOne_149 rfl (lv_at hl 0 rfl) ?_
      refine e_callVv (As := []) (rest := []) clE_stable hs ⟨hx, hb, hml, hown, hts⟩ (hR2 _ _ hw) (cwV 0 hts gX6_readOne_X6_readOne rfl rfl rfl (by decide +kernel) ⟨by show 7 + d + 1 ≤ 7 + (d + 1); omega, by show 8 + (1 + 11) + (152 + d * 22) ≤ 152 + (d + 1) * 22; omega⟩) (va_recv hK hP (ci := 6) (q0 := 5) rfl rfl) hK hP hD hS hA rfl hl.1 rfl (Nat.le_of_ble_eq_true rfl) dX6_readOne_150 ⟨Nat.zero_le _, Nat.zero_le _⟩ (fun S_9 H locs hw hP hD hS => ?_)
      refine lv_aload_n hx hb dX6_readOne_153 rfl (lv_at hl 0 rfl) ?_
      refine lv_bipush (v := 19) hx hb dX6_readOne_154 (by decide) ?_
      refine e_callVv (As := [.int 19]) (rest := []) clE_stable hs ⟨hx, hb, hml, hown, hts⟩ (cC_X6_expect l D h cy _ _ _ hw) (cwV 1 hts gX6_readOne_X6_expect rfl rfl rfl (by decide +kernel) ⟨by show 6 + 1 ≤ 7 + (d + 1); omega, by show 8 + (2 + 11) + 131 ≤ 152 + (d + 1) * 22; omega⟩) (va_recv hK hP (ci := 6) (q0 := 5) rfl rfl) hK hP hD hS hA rfl hl.1 rfl (Nat.le_of_ble_eq_true rfl) dX6_readOne_156 ⟨Nat.zero_le _, Nat.zero_le _⟩ (fun S_11 H locs hw hP hD hS => ?_)
      refine lv_aload_n hx hb dX6_readOne_159 rfl (lv_at hl 0 rfl) ?_
      refine e_callVv (As := []) (rest := []) clE_stable hs ⟨hx, hb, hml, hown, hts⟩ (hR2 _ _ hw) (cwV 0 hts gX6_readOne_X6_readOne rfl rfl rfl (by decide +kernel) ⟨by show 7 + d + 1 ≤ 7 + (d + 1); omega, by show 8 + (1 + 11) + (152 + d * 22) ≤ 152 + (d + 1) * 22; omega⟩) (va_recv hK hP (ci := 6) (q0 := 5) rfl rfl) hK hP hD hS hA rfl hl.1 rfl (Nat.le_of_ble_eq_true rfl) dX6_readOne_160 ⟨Nat.zero_le _, Nat.zero_le _⟩ (fun S_13 H locs hw hP hD hS => ?_)
      refine lv_aload_n hx hb dX6_readOne_163 rfl (lv_at hl 0 rfl) ?_
      refine lv_bipush (v := 20) hx hb dX6_readOne_164 (by decide) ?_
      refine lv_iconst (v := 0) hx hb dX6_readOne_166 (by decide) ?_
      refine e_callVv (As := [.int 20, .int 0]) (rest := []) clE_stable hs ⟨hx, hb, hml, hown, hts⟩ (cC_X6_emit l D h cy _ _ _ _ hw) (cwV 2 hts gX6_readOne_X6_emit rfl rfl rfl (by decide +kernel) ⟨by show 1 + 1 ≤ 7 + (d + 1); omega, by show 8 + (3 + 11) + 22 ≤ 152 + (d + 1) * 22; omega⟩) (va_recv hK hP (ci := 6) (q0 := 5) rfl rfl) hK hP hD hS hA rfl hl.1 rfl (Nat.le_of_ble_eq_true rfl) dX6_readOne_167 ⟨Nat.zero_le _, Nat.zero_le _⟩ (fun S_15 H locs hw hP hD hS => ?_)
      refine lv_aload_n hx hb dX6_readOne_170 rfl (lv_at hl 0 rfl) ?_
      refine lv_dup hx hb dX6_readOne_171 rfl ?_
      refine va_get (D := D) (ci := 6) (v := .int (cx_r_open S_15)) (C := RX6) (T := TX6) (N := 16) hx hb hts hin6 hown hK hP 5 rfl rfl 15 (by decide) w50 (fun _ h9 => h9) rfl dX6_readOne_172 ?_
      refine lv_iconst (v := 1) hx hb dX6_readOne_175 (by decide) ?_
      refine lv_isub hx hb dX6_readOne_176 ?_
      refine va_put (D := D) (ci := 6) (v := .int ((cx_r_open S_15) - 1)) (ty := .int) (C := RX6) (T := TX6) (N := 16) hx hb hts hin6 tyX6 tyX6_ok nmX6 hown hK hP hD hS 5 rfl rfl 15 (by decide) w50 (fun _ h9 => h9) rfl (tyX6_ok 15 (by decide)) rfl rfl (Nat.le_of_ble_eq_true rfl) dX6_readOne_177 (fun H locs hP hD hS => ?_)
      obtain ⟨S_16, eS_16⟩ : ∃ z : CS, z = (cx_set_r_open S_15 ((cx_r_open S_15) - 1)) := ⟨_, rfl⟩
      replace hw := hw S_16 eS_16
      have hP : va_P D vwCl (wC h cy S_16) H := by rw [eS_16, ← wCp_r_open]; exact hP
      have hD : va_D A (wC h cy S_16) := by rw [eS_16, ← wCp_r_open]; exact hD
      refine lv_goto (tgt := 242) hx hb dX6_readOne_180 (by decide) ?_
      exact W.vret hx hb hr (fun t ht hW => ⟨⟨S_16, rfl, hw, by rw [ht]; exact hP, va_K.moved hW.alike hK, hD⟩, hS.F ht⟩) hS.2.2 dX6_readOne_242
  obtain ⟨hc_26, hw⟩ := hw
  by_cases c_26 : (cx_r_token S) = 22
  · have hw := hc_26 c_26
    refine lv_lookup (off := 179) (tgt := 183) hx hb dX6_readOne_4 (by decide) (by rw [c_26]; decide) (by decide) ?_
    refine lv_aload_n hx hb dX6_readOne_183 rfl (lv_at hl 0 rfl) ?_
    refine e_callVi (As := []) (rest := []) clE_stable hs ⟨hx, hb, hml, hown, hts⟩ (cC_X6_opens l D h cy _ _ hw) (cwV 0 hts gX6_readOne_X6_opens rfl rfl rfl (by decide +kernel) ⟨by show 6 + 1 ≤ 7 + (d + 1); omega, by show 8 + (1 + 11) + 131 ≤ 152 + (d + 1) * 22; omega⟩) (va_recv hK hP (ci := 6) (q0 := 5) rfl rfl) hK hP hD hS hA rfl hl.1 rfl (Nat.le_of_ble_eq_true rfl) dX6_readOne_184 ⟨Nat.zero_le _, Nat.zero_le _⟩ (fun r_18 S_19 H locs hw hP hD hS => ?_)
    obtain ⟨hc_20t, hc_20f⟩ := hw
    refine lv_if_eq (tgt := 242) hx hb dX6_readOne_187 (by decide) (fun c_20 => ?_) (fun c_20 => ?_)
    · have hw := hc_20t c_20
      clear hc_20t hc_20f
      exact W.vret hx hb hr (fun t ht hW => ⟨⟨S_19, rfl, hw, by rw [ht]; exact hP, va_K.moved hW.alike hK, hD⟩, hS.F ht⟩) hS.2.2 dX6_readOne_242
    · have hw := hc_20f c_20
      clear hc_20t hc_20f
      refine lv_aload_n hx hb dX6_readOne_190 rfl (lv_at hl 0 rfl) ?_
      refine e_callVv (As := []) (rest := []) clE_stable hs ⟨hx, hb, hml, hown, hts⟩ (hR2 _ _ hw) (cwV 0 hts gX6_readOne_X6_readOne rfl rfl rfl (by decide +kernel) ⟨by show 7 + d + 1 ≤ 7 + (d + 1); omega, by show 8 + (1 + 11) + (152 + d * 22) ≤ 152 + (d + 1) * 22; omega⟩) (va_recv hK hP (ci := 6) (q0 := 5) rfl rfl) hK hP hD hS hA rfl hl.1 rfl (Nat.le_of_ble_eq_true rfl) dX6_readOne_191 ⟨Nat.zero_le _, Nat.zero_le _⟩ (fun S_22 H locs hw hP hD hS => ?_)
      refine lv_aload_n hx hb dX6_readOne_194 rfl (lv_at hl 0 rfl) ?_
      refine lv_bipush (v := 22) hx hb dX6_readOne_195 (by decide) ?_
      refine lv_iconst (v := 0) hx hb dX6_readOne_197 (by decide) ?_
      refine e_callVv (As := [.int 22, .int 0]) (rest := []) clE_stable hs ⟨hx, hb, hml, hown, hts⟩ (cC_X6_emit l D h cy _ _ _ _ hw) (cwV 2 hts gX6_readOne_X6_emit rfl rfl rfl (by decide +kernel) ⟨by show 1 + 1 ≤ 7 + (d + 1); omega, by show 8 + (3 + 11) + 22 ≤ 152 + (d + 1) * 22; omega⟩) (va_recv hK hP (ci := 6) (q0 := 5) rfl rfl) hK hP hD hS hA rfl hl.1 rfl (Nat.le_of_ble_eq_true rfl) dX6_readOne_198 ⟨Nat.zero_le _, Nat.zero_le _⟩ (fun S_24 H locs hw hP hD hS => ?_)
      refine lv_aload_n hx hb dX6_readOne_201 rfl (lv_at hl 0 rfl) ?_
      refine lv_dup hx hb dX6_readOne_202 rfl ?_
      refine va_get (D := D) (ci := 6) (v := .int (cx_r_open S_24)) (C := RX6) (T := TX6) (N := 16) hx hb hts hin6 hown hK hP 5 rfl rfl 15 (by decide) w50 (fun _ h9 => h9) rfl dX6_readOne_203 ?_
      refine lv_iconst (v := 1) hx hb dX6_readOne_206 (by decide) ?_
      refine lv_isub hx hb dX6_readOne_207 ?_
      refine va_put (D := D) (ci := 6) (v := .int ((cx_r_open S_24) - 1)) (ty := .int) (C := RX6) (T := TX6) (N := 16) hx hb hts hin6 tyX6 tyX6_ok nmX6 hown hK hP hD hS 5 rfl rfl 15 (by decide) w50 (fun _ h9 => h9) rfl (tyX6_ok 15 (by decide)) rfl rfl (Nat.le_of_ble_eq_true rfl) dX6_readOne_208 (fun H locs hP hD hS => ?_)
      obtain ⟨S_25, eS_25⟩ : ∃ z : CS, z = (cx_set_r_open S_24 ((cx_r_open S_24) - 1)) := ⟨_, rfl⟩
      replace hw := hw S_25 eS_25
      have hP : va_P D vwCl (wC h cy S_25) H := by rw [eS_25, ← wCp_r_open]; exact hP
      have hD : va_D A (wC h cy S_25) := by rw [eS_25, ← wCp_r_open]; exact hD
      refine lv_goto (tgt := 242) hx hb dX6_readOne_211 (by decide) ?_
      exact W.vret hx hb hr (fun t ht hW => ⟨⟨S_25, rfl, hw, by rw [ht]; exact hP, va_K.moved hW.alike hK, hD⟩, hS.F ht⟩) hS.2.2 dX6_readOne_242
  obtain ⟨hc_33, hw⟩ := hw
  by_cases c_33 : (cx_r_token S) = 23
  · have hw := hc_33 c_33
    refine lv_lookup (off := 210) (tgt := 214) hx hb dX6_readOne_4 (by decide) (by rw [c_33]; decide) (by decide) ?_
    refine lv_aload_n hx hb dX6_readOne_214 rfl (lv_at hl 0 rfl) ?_
    refine e_callVi (As := []) (rest := []) clE_stable hs ⟨hx, hb, hml, hown, hts⟩ (cC_X6_opens l D h cy _ _ hw) (cwV 0 hts gX6_readOne_X6_opens rfl rfl rfl (by decide +kernel) ⟨by show 6 + 1 ≤ 7 + (d + 1); omega, by show 8 + (1 + 11) + 131 ≤ 152 + (d + 1) * 22; omega⟩) (va_recv hK hP (ci := 6) (q0 := 5) rfl rfl) hK hP hD hS hA rfl hl.1 rfl (Nat.le_of_ble_eq_true rfl) dX6_readOne_215 ⟨Nat.zero_le _, Nat.zero_le _⟩ (fun r_27 S_28 H locs hw hP hD hS => ?_)
    obtain ⟨hc_29t, hc_29f⟩ := hw
    refine lv_if_eq (tgt := 242) hx hb dX6_readOne_218 (by decide) (fun c_29 => ?_) (fun c_29 => ?_)
    · have hw := hc_29t c_29
      clear hc_29t hc_29f
      exact W.vret hx hb hr (fun t ht hW => ⟨⟨S_28, rfl, hw, by rw [ht]; exact hP, va_K.moved hW.alike hK, hD⟩, hS.F ht⟩) hS.2.2 dX6_readOne_242
    · have hw := hc_29f c_29
      clear hc_29t hc_29f
      refine lv_aload_n hx hb dX6_readOne_221 rfl (lv_at hl 0 rfl) ?_
      refine e_callVv (As := []) (rest := []) clE_stable hs ⟨hx, hb, hml, hown, hts⟩ (hR3 _ _ hw) (cwV 0 hts gX6_readOne_X6_readChoice rfl rfl rfl (by decide +kernel) ⟨by show 7 + d + 1 ≤ 7 + (d + 1); omega, by show 8 + (1 + 11) + (152 + d * 22) ≤ 152 + (d + 1) * 22; omega⟩) (va_recv hK hP (ci := 6) (q0 := 5) rfl rfl) hK hP hD hS hA rfl hl.1 rfl (Nat.le_of_ble_eq_true rfl) dX6_readOne_222 ⟨Nat.zero_le _, Nat.zero_le _⟩ (fun S_31 H locs hw hP hD hS => ?_)
      refine lv_aload_n hx hb dX6_readOne_225 rfl (lv_at hl 0 rfl) ?_
      refine lv_dup hx hb dX6_readOne_226 rfl ?_
      refine va_get (D := D) (ci := 6) (v := .int (cx_r_open S_31)) (C := RX6) (T := TX6) (N := 16) hx hb hts hin6 hown hK hP 5 rfl rfl 15 (by decide) w50 (fun _ h9 => h9) rfl dX6_readOne_227 ?_
      refine lv_iconst (v := 1) hx hb dX6_readOne_230 (by decide) ?_
      refine lv_isub hx hb dX6_readOne_231 ?_
      refine va_put (D := D) (ci := 6) (v := .int ((cx_r_open S_31) - 1)) (ty := .int) (C := RX6) (T := TX6) (N := 16) hx hb hts hin6 tyX6 tyX6_ok nmX6 hown hK hP hD hS 5 rfl rfl 15 (by decide) w50 (fun _ h9 => h9) rfl (tyX6_ok 15 (by decide)) rfl rfl (Nat.le_of_ble_eq_true rfl) dX6_readOne_232 (fun H locs hP hD hS => ?_)
      obtain ⟨S_32, eS_32⟩ : ∃ z : CS, z = (cx_set_r_open S_31 ((cx_r_open S_31) - 1)) := ⟨_, rfl⟩
      replace hw := hw S_32 eS_32
      have hP : va_P D vwCl (wC h cy S_32) H := by rw [eS_32, ← wCp_r_open]; exact hP
      have hD : va_D A (wC h cy S_32) := by rw [eS_32, ← wCp_r_open]; exact hD
      refine lv_goto (tgt := 242) hx hb dX6_readOne_235 (by decide) ?_
      exact W.vret hx hb hr (fun t ht hW => ⟨⟨S_32, rfl, hw, by rw [ht]; exact hP, va_K.moved hW.alike hK, hD⟩, hS.F ht⟩) hS.2.2 dX6_readOne_242
  obtain ⟨hc_36, hw⟩ := hw
  by_cases c_36 : (cx_r_token S) = 32
  · have hw := hc_36 c_36
    refine lv_lookup (off := 60) (tgt := 64) hx hb dX6_readOne_4 (by decide) (by rw [c_36]; decide) (by decide) ?_
    refine lv_aload_n hx hb dX6_readOne_64 rfl (lv_at hl 0 rfl) ?_
    refine e_callVv (As := []) (rest := []) clE_stable hs ⟨hx, hb, hml, hown, hts⟩ (cC_X6_readPlainNumber l D h cy _ _ hw) (cwV 0 hts gX6_readOne_X6_readPlainNumber rfl rfl rfl (by decide +kernel) ⟨by show 6 + 1 ≤ 7 + (d + 1); omega, by show 8 + (1 + 11) + 131 ≤ 152 + (d + 1) * 22; omega⟩) (va_recv hK hP (ci := 6) (q0 := 5) rfl rfl) hK hP hD hS hA rfl hl.1 rfl (Nat.le_of_ble_eq_true rfl) dX6_readOne_65 ⟨Nat.zero_le _, Nat.zero_le _⟩ (fun S_35 H locs hw hP hD hS => ?_)
    refine lv_goto (tgt := 242) hx hb dX6_readOne_68 (by decide) ?_
    exact W.vret hx hb hr (fun t ht hW => ⟨⟨S_35, rfl, hw, by rw [ht]; exact hP, va_K.moved hW.alike hK, hD⟩, hS.F ht⟩) hS.2.2 dX6_readOne_242
  obtain ⟨hc_45, hw⟩ := hw
  by_cases c_45 : (cx_r_token S) = 40
  · have hw := hc_45 c_45
    refine lv_lookup (off := 97) (tgt := 101) hx hb dX6_readOne_4 (by decide) (by rw [c_45]; decide) (by decide) ?_
    refine lv_aload_n hx hb dX6_readOne_101 rfl (lv_at hl 0 rfl) ?_
    refine e_callVi (As := []) (rest := []) clE_stable hs ⟨hx, hb, hml, hown, hts⟩ (cC_X6_opens l D h cy _ _ hw) (cwV 0 hts gX6_readOne_X6_opens rfl rfl rfl (by decide +kernel) ⟨by show 6 + 1 ≤ 7 + (d + 1); omega, by show 8 + (1 + 11) + 131 ≤ 152 + (d + 1) * 22; omega⟩) (va_recv hK hP (ci := 6) (q0 := 5) rfl rfl) hK hP hD hS hA rfl hl.1 rfl (Nat.le_of_ble_eq_true rfl) dX6_readOne_102 ⟨Nat.zero_le _, Nat.zero_le _⟩ (fun r_37 S_38 H locs hw hP hD hS => ?_)
    obtain ⟨hc_39t, hc_39f⟩ := hw
    refine lv_if_eq (tgt := 242) hx hb dX6_readOne_105 (by decide) (fun c_39 => ?_) (fun c_39 => ?_)
    · have hw := hc_39t c_39
      clear hc_39t hc_39f
      exact W.vret hx hb hr (fun t ht hW => ⟨⟨S_38, rfl, hw, by rw [ht]; exact hP, va_K.moved hW.alike hK, hD⟩, hS.F ht⟩) hS.2.2 dX6_readOne_242
    · have hw := hc_39f c_39
      clear hc_39t hc_39f
      refine lv_aload_n hx hb dX6_readOne_108 rfl (lv_at hl 0 rfl) ?_
      refine e_callVv (As := []) (rest := []) clE_stable hs ⟨hx, hb, hml, hown, hts⟩ (hR2 _ _ hw) (cwV 0 hts gX6_readOne_X6_readOne rfl rfl rfl (by decide +kernel) ⟨by show 7 + d + 1 ≤ 7 + (d + 1); omega, by show 8 + (1 + 11) + (152 + d * 22) ≤ 152 + (d + 1) * 22; omega⟩) (va_recv hK hP (ci := 6) (q0 := 5) rfl rfl) hK hP hD hS hA rfl hl.1 rfl (Nat.le_of_ble_eq_true rfl) dX6_readOne_109 ⟨Nat.zero_le _, Nat.zero_le _⟩ (fun S_41 H locs hw hP hD hS => ?_)
      refine lv_aload_n hx hb dX6_readOne_112 rfl (lv_at hl 0 rfl) ?_
      refine lv_bipush (v := 46) hx hb dX6_readOne_113 (by decide) ?_
      refine lv_iconst (v := 0) hx hb dX6_readOne_115 (by decide) ?_
      refine e_callVv (As := [.int 46, .int 0]) (rest := []) clE_stable hs ⟨hx, hb, hml, hown, hts⟩ (cC_X6_emit l D h cy _ _ _ _ hw) (cwV 2 hts gX6_readOne_X6_emit rfl rfl rfl (by decide +kernel) ⟨by show 1 + 1 ≤ 7 + (d + 1); omega, by show 8 + (3 + 11) + 22 ≤ 152 + (d + 1) * 22; omega⟩) (va_recv hK hP (ci := 6) (q0 := 5) rfl rfl) hK hP hD hS hA rfl hl.1 rfl (Nat.le_of_ble_eq_true rfl) dX6_readOne_116 ⟨Nat.zero_le _, Nat.zero_le _⟩ (fun S_43 H locs hw hP hD hS => ?_)
      refine lv_aload_n hx hb dX6_readOne_119 rfl (lv_at hl 0 rfl) ?_
      refine lv_dup hx hb dX6_readOne_120 rfl ?_
      refine va_get (D := D) (ci := 6) (v := .int (cx_r_open S_43)) (C := RX6) (T := TX6) (N := 16) hx hb hts hin6 hown hK hP 5 rfl rfl 15 (by decide) w50 (fun _ h9 => h9) rfl dX6_readOne_121 ?_
      refine lv_iconst (v := 1) hx hb dX6_readOne_124 (by decide) ?_
      refine lv_isub hx hb dX6_readOne_125 ?_
      refine va_put (D := D) (ci := 6) (v := .int ((cx_r_open S_43) - 1)) (ty := .int) (C := RX6) (T := TX6) (N := 16) hx hb hts hin6 tyX6 tyX6_ok nmX6 hown hK hP hD hS 5 rfl rfl 15 (by decide) w50 (fun _ h9 => h9) rfl (tyX6_ok 15 (by decide)) rfl rfl (Nat.le_of_ble_eq_true rfl) dX6_readOne_126 (fun H locs hP hD hS => ?_)
      obtain ⟨S_44, eS_44⟩ : ∃ z : CS, z = (cx_set_r_open S_43 ((cx_r_open S_43) - 1)) := ⟨_, rfl⟩
      replace hw := hw S_44 eS_44
      have hP : va_P D vwCl (wC h cy S_44) H := by rw [eS_44, ← wCp_r_open]; exact hP
      have hD : va_D A (wC h cy S_44) := by rw [eS_44, ← wCp_r_open]; exact hD
      refine lv_goto (tgt := 242) hx hb dX6_readOne_129 (by decide) ?_
      exact W.vret hx hb hr (fun t ht hW => ⟨⟨S_44, rfl, hw, by rw [ht]; exact hP, va_K.moved hW.alike hK, hD⟩, hS.F ht⟩) hS.2.2 dX6_readOne_242
  obtain ⟨hc_54, hw⟩ := hw
  by_cases c_54 : (cx_r_token S) = 43
  · have hw := hc_54 c_54
    refine lv_lookup (off := 67) (tgt := 71) hx hb dX6_readOne_4 (by decide) (by rw [c_54]; decide) (by decide) ?_
    refine lv_aload_n hx hb dX6_readOne_71 rfl (lv_at hl 0 rfl) ?_
    refine e_callVi (As := []) (rest := []) clE_stable hs ⟨hx, hb, hml, hown, hts⟩ (cC_X6_opens l D h cy _ _ hw) (cwV 0 hts gX6_readOne_X6_opens rfl rfl rfl (by decide +kernel) ⟨by show 6 + 1 ≤ 7 + (d + 1); omega, by show 8 + (1 + 11) + 131 ≤ 152 + (d + 1) * 22; omega⟩) (va_recv hK hP (ci := 6) (q0 := 5) rfl rfl) hK hP hD hS hA rfl hl.1 rfl (Nat.le_of_ble_eq_true rfl) dX6_readOne_72 ⟨Nat.zero_le _, Nat.zero_le _⟩ (fun r_46 S_47 H locs hw hP hD hS => ?_)
    obtain ⟨hc_48t, hc_48f⟩ := hw
    refine lv_if_eq (tgt := 242) hx hb dX6_readOne_75 (by decide) (fun c_48 => ?_) (fun c_48 => ?_)
    · have hw := hc_48t c_48
      clear hc_48t hc_48f
      exact W.vret hx hb hr (fun t ht hW => ⟨⟨S_47, rfl, hw, by rw [ht]; exact hP, va_K.moved hW.alike hK, hD⟩, hS.F ht⟩) hS.2.2 dX6_readOne_242
    · have hw := hc_48f c_48
      clear hc_48t hc_48f
      refine lv_aload_n hx hb dX6_readOne_78 rfl (lv_at hl 0 rfl) ?_
      refine e_callVv (As := []) (rest := []) clE_stable hs ⟨hx, hb, hml, hown, hts⟩ (hR0 _ _ hw) (cwV 0 hts gX6_readOne_X6_readSum rfl rfl rfl (by decide +kernel) ⟨by show 7 + d + 1 ≤ 7 + (d + 1); omega, by show 8 + (3 + 11) + (152 + d * 22) ≤ 152 + (d + 1) * 22; omega⟩) (va_recv hK hP (ci := 6) (q0 := 5) rfl rfl) hK hP hD hS hA rfl hl.1 rfl (Nat.le_of_ble_eq_true rfl) dX6_readOne_79 ⟨Nat.zero_le _, Nat.zero_le _⟩ (fun S_50 H locs hw hP hD hS => ?_)
      refine lv_aload_n hx hb dX6_readOne_82 rfl (lv_at hl 0 rfl) ?_
      refine lv_bipush (v := 44) hx hb dX6_readOne_83 (by decide) ?_
      refine e_callVv (As := [.int 44]) (rest := []) clE_stable hs ⟨hx, hb, hml, hown, hts⟩ (cC_X6_expect l D h cy _ _ _ hw) (cwV 1 hts gX6_readOne_X6_expect rfl rfl rfl (by decide +kernel) ⟨by show 6 + 1 ≤ 7 + (d + 1); omega, by show 8 + (2 + 11) + 131 ≤ 152 + (d + 1) * 22; omega⟩) (va_recv hK hP (ci := 6) (q0 := 5) rfl rfl) hK hP hD hS hA rfl hl.1 rfl (Nat.le_of_ble_eq_true rfl) dX6_readOne_85 ⟨Nat.zero_le _, Nat.zero_le _⟩ (fun S_52 H locs hw hP hD hS => ?_)
      refine lv_aload_n hx hb dX6_readOne_88 rfl (lv_at hl 0 rfl) ?_
      refine lv_dup hx hb dX6_readOne_89 rfl ?_
      refine va_get (D := D) (ci := 6) (v := .int (cx_r_open S_52)) (C := RX6) (T := TX6) (N := 16) hx hb hts hin6 hown hK hP 5 rfl rfl 15 (by decide) w50 (fun _ h9 => h9) rfl dX6_readOne_90 ?_
      refine lv_iconst (v := 1) hx hb dX6_readOne_93 (by decide) ?_
      refine lv_isub hx hb dX6_readOne_94 ?_
      refine va_put (D := D) (ci := 6) (v := .int ((cx_r_open S_52) - 1)) (ty := .int) (C := RX6) (T := TX6) (N := 16) hx hb hts hin6 tyX6 tyX6_ok nmX6 hown hK hP hD hS 5 rfl rfl 15 (by decide) w50 (fun _ h9 => h9) rfl (tyX6_ok 15 (by decide)) rfl rfl (Nat.le_of_ble_eq_true rfl) dX6_readOne_95 (fun H locs hP hD hS => ?_)
      obtain ⟨S_53, eS_53⟩ : ∃ z : CS, z = (cx_set_r_open S_52 ((cx_r_open S_52) - 1)) := ⟨_, rfl⟩
      replace hw := hw S_53 eS_53
      have hP : va_P D vwCl (wC h cy S_53) H := by rw [eS_53, ← wCp_r_open]; exact hP
      have hD : va_D A (wC h cy S_53) := by rw [eS_53, ← wCp_r_open]; exact hD
      refine lv_goto (tgt := 242) hx hb dX6_readOne_98 (by decide) ?_
      exact W.vret hx hb hr (fun t ht hW => ⟨⟨S_53, rfl, hw, by rw [ht]; exact hP, va_K.moved hW.alike hK, hD⟩, hS.F ht⟩) hS.2.2 dX6_readOne_242
  have hw := hw c_17 c_26 c_33 c_36 c_45 c_54
  have c_17n := lv_neT c_17 (a := 20) (by decide)
  have c_26n := lv_neT c_26 (a := 22) (by decide)
  have c_33n := lv_neT c_33 (a := 23) (by decide)
  have c_36n := lv_neT c_36 (a := 32) (by decide)
  have c_45n := lv_neT c_45 (a := 40) (by decide)
  have c_54n := lv_neT c_54 (a := 43) (by decide)
  refine lv_lookup (off := 234) (tgt := 238) hx hb dX6_readOne_4 (by decide) (by simp [Op.lookupswitch.offset, c_17n, Ne.symm c_17n, c_26n, Ne.symm c_26n, c_33n, Ne.symm c_33n, c_36n, Ne.symm c_36n, c_45n, Ne.symm c_45n, c_54n, Ne.symm c_54n]) (by decide) ?_
  refine lv_aload_n hx hb dX6_readOne_238 rfl (lv_at hl 0 rfl) ?_
  refine e_callVv (As := []) (rest := []) clE_stable hs ⟨hx, hb, hml, hown, hts⟩ (cC_X6_readName l D h cy _ _ hw) (cwV 0 hts gX6_readOne_X6_readName rfl rfl rfl (by decide +kernel) ⟨by show 6 + 1 ≤ 7 + (d + 1); omega, by show 8 + (1 + 11) + 131 ≤ 152 + (d + 1) * 22; omega⟩) (va_recv hK hP (ci := 6) (q0 := 5) rfl rfl) hK hP hD hS hA rfl hl.1 rfl (Nat.le_of_ble_eq_true rfl) dX6_readOne_239 ⟨Nat.zero_le _, Nat.zero_le _⟩ (fun S_56 H locs hw hP hD hS => ?_)
  exact W.vret hx hb hr (fun t ht hW => ⟨⟨S_56, rfl, hw, by rw [ht]; exact hP, va_K.moved hW.alike hK, hD⟩, hS.F ht⟩) hS.2.2 dX6_readOne_242
def wB_X6_readChoice (Rc : Nat → CS → (CS → Prop) → Prop) (S : CS) (post : CS → Prop) : Prop := Rc 4 S (fun S_2 => wC_X6_expect 24 S_2 (fun S_4 => Rc 0 S_4 (fun S_6 => wC_X6_expect 25 S_6 (fun S_8 => Rc 0 S_8 (fun S_10 => wC_X6_expect 26 S_10 (fun S_12 => wC_X6_emit 23 0 S_12 (fun S_14 => post S_14)))))))
set_option maxHeartbeats 4000000 in
set_option maxRecDepth 100000 in
theorem cB_X6_readChoice (l : Launch) (D : va_G) (h : Nat → Nat) (cy : Nat → ClassId) (d : Nat) (Rc : Nat → CS → (CS → Prop) → Prop) (hR0 : ∀ (S : CS) (post : CS → Prop), Rc 0 S post → e_Mv clE l yX6_readSum wsX6_readSum { frames := 7 + d, cells := 0, slots := 0, locals := 152 + d * 22 } D (tyC cy) (wC h cy) [.ref (h 5)] S post) (hR1 : ∀ (S : CS) (post : CS → Prop), Rc 1 S post → e_Mv clE l yX6_readProduct wsX6_readProduct { frames := 7 + d, cells := 0, slots := 0, locals := 152 + d * 22 } D (tyC cy) (wC h cy) [.ref (h 5)] S post) (hR2 : ∀ (S : CS) (post : CS → Prop), Rc 2 S post → e_Mv clE l yX6_readOne wsX6_readOne { frames := 7 + d, cells := 0, slots := 0, locals := 152 + d * 22 } D (tyC cy) (wC h cy) [.ref (h 5)] S post) (hR3 : ∀ (S : CS) (post : CS → Prop), Rc 3 S post → e_Mv clE l yX6_readChoice wsX6_readChoice { frames := 7 + d, cells := 0, slots := 0, locals := 152 + d * 22 } D (tyC cy) (wC h cy) [.ref (h 5)] S post) (hR4 : ∀ (S : CS) (post : CS → Prop), Rc 4 S post → e_Mv clE l yX6_readEither wsX6_readEither { frames := 7 + d, cells := 0, slots := 0, locals := 152 + d * 22 } D (tyC cy) (wC h cy) [.ref (h 5)] S post) (hR5 : ∀ (S : CS) (post : CS → Prop), Rc 5 S post → e_Mv clE l yX6_readBoth wsX6_readBoth { frames := 7 + d, cells := 0, slots := 0, locals := 152 + d * 22 } D (tyC cy) (wC h cy) [.ref (h 5)] S post) (hR6 : ∀ (S : CS) (post : CS → Prop), Rc 6 S post → e_Mv clE l yX6_readAsk wsX6_readAsk { frames := 7 + d, cells := 0, slots := 0, locals := 152 + d * 22 } D (tyC cy) (wC h cy) [.ref (h 5)] S post) (S : CS) (post : CS → Prop) (hw : wB_X6_readChoice Rc S post) : e_Mv clE l yX6_readChoice wsX6_readChoice { frames := 7 + (d + 1), cells := 0, slots := 0, locals := 152 + (d + 1) * 22 } D (tyC cy) (wC h cy) [.ref (h 5)] S post := by
  intro sz
  refine Met.ofW (cc := cX6_readChoice) (maxL := 1) (ret := none) (by decide) rfl ?_
  intro p e s m args below meth c s₁ B hml hv
  obtain ⟨rfl, hsz, hP, hK, hD0, hs⟩ := hv
  have hx := B.exec
  have hb := B.bytes
  have hr := B.returns
  have hts := atoms_spec (ws := wsX6_readChoice) B.pre
  have hown : s.vm.findClass RX6 = some m.cls := findClass_of_methodNamed B.named
  have hlocks := B.notSynchronized
  subst hsz
  have hD := hD0.self (sz := s.heap.size)
  generalize hAe : va_A (wC h cy S) s.heap.size = A at hD hs ⊢
  have hA : ∀ q : Nat, s.heap.size ≤ q → A q := fun q h => by rw [← hAe]; exact Or.inr h
  have hS : va_S A s.heap s.heap [] := va_S.rf
  have hl := lv_entry ([.ref (h 5)]) (n := 1) (Nat.le_of_ble_eq_true rfl)
  rw [lg_entry_eq]
  generalize (lg_sl ([.ref (h 5)]) ++ List.replicate (1 - (lg_sl ([.ref (h 5)])).length) Slot.unset).toArray = ls at hl ⊢
  have hl : lv_has ls 1 [(0, .ref (h 5))] := hl
  unfold wB_X6_readChoice at hw
  clear hD0
  refine lv_aload_n hx hb dX6_readChoice_0 rfl (lv_at hl 0 rfl) ?_
  refine e_callVv (As := []) (rest := []) clE_stable hs ⟨hx, hb, hml, hown, hts⟩ (hR4 _ _ hw) (cwV 0 hts gX6_readChoice_X6_readEither rfl rfl rfl (by decide +kernel) ⟨by show 7 + d + 1 ≤ 7 + (d + 1); omega, by show 8 + (2 + 11) + (152 + d * 22) ≤ 152 + (d + 1) * 22; omega⟩) (va_recv hK hP (ci := 6) (q0 := 5) rfl rfl) hK hP hD hS hA rfl hl.1 rfl (Nat.le_of_ble_eq_true rfl) dX6_readChoice_1 ⟨Nat.zero_le _, Nat.zero_le _⟩ (fun S_2 H locs hw hP hD hS => ?_)
  refine lv_aload_n hx hb dX6_readChoice_4 rfl (lv_at hl 0 rfl) ?_
  refine lv_bipush (v := 24) hx hb dX6_readChoice_5 (by decide) ?_
  refine e_callVv (As := [.int 24]) (rest := []) clE_stable hs ⟨hx, hb, hml, hown, hts⟩ (cC_X6_expect l D h cy _ _ _ hw) (cwV 1 hts gX6_readChoice_X6_expect rfl rfl rfl (by decide +kernel) ⟨by show 6 + 1 ≤ 7 + (d + 1); omega, by show 8 + (2 + 11) + 131 ≤ 152 + (d + 1) * 22; omega⟩) (va_recv hK hP (ci := 6) (q0 := 5) rfl rfl) hK hP hD hS hA rfl hl.1 rfl (Nat.le_of_ble_eq_true rfl) dX6_readChoice_7 ⟨Nat.zero_le _, Nat.zero_le _⟩ (fun S_4 H locs hw hP hD hS => ?_)
  refine lv_aload_n hx hb dX6_readChoice_10 rfl (lv_at hl 0 rfl) ?_
  refine e_callVv (As := []) (rest := []) clE_stable hs ⟨hx, hb, hml, hown, hts⟩ (hR0 _ _ hw) (cwV 0 hts gX6_readChoice_X6_readSum rfl rfl rfl (by decide +kernel) ⟨by show 7 + d + 1 ≤ 7 + (d + 1); omega, by show 8 + (3 + 11) + (152 + d * 22) ≤ 152 + (d + 1) * 22; omega⟩) (va_recv hK hP (ci := 6) (q0 := 5) rfl rfl) hK hP hD hS hA rfl hl.1 rfl (Nat.le_of_ble_eq_true rfl) dX6_readChoice_11 ⟨Nat.zero_le _, Nat.zero_le _⟩ (fun S_6 H locs hw hP hD hS => ?_)
  refine lv_aload_n hx hb dX6_readChoice_14 rfl (lv_at hl 0 rfl) ?_
  refine lv_bipush (v := 25) hx hb dX6_readChoice_15 (by decide) ?_
  refine e_callVv (As := [.int 25]) (rest := []) clE_stable hs ⟨hx, hb, hml, hown, hts⟩ (cC_X6_expect l D h cy _ _ _ hw) (cwV 1 hts gX6_readChoice_X6_expect rfl rfl rfl (by decide +kernel) ⟨by show 6 + 1 ≤ 7 + (d + 1); omega, by show 8 + (2 + 11) + 131 ≤ 152 + (d + 1) * 22; omega⟩) (va_recv hK hP (ci := 6) (q0 := 5) rfl rfl) hK hP hD hS hA rfl hl.1 rfl (Nat.le_of_ble_eq_true rfl) dX6_readChoice_17 ⟨Nat.zero_le _, Nat.zero_le _⟩ (fun S_8 H locs hw hP hD hS => ?_)
  refine lv_aload_n hx hb dX6_readChoice_20 rfl (lv_at hl 0 rfl) ?_
  refine e_callVv (As := []) (rest := []) clE_stable hs ⟨hx, hb, hml, hown, hts⟩ (hR0 _ _ hw) (cwV 0 hts gX6_readChoice_X6_readSum rfl rfl rfl (by decide +kernel) ⟨by show 7 + d + 1 ≤ 7 + (d + 1); omega, by show 8 + (3 + 11) + (152 + d * 22) ≤ 152 + (d + 1) * 22; omega⟩) (va_recv hK hP (ci := 6) (q0 := 5) rfl rfl) hK hP hD hS hA rfl hl.1 rfl (Nat.le_of_ble_eq_true rfl) dX6_readChoice_21 ⟨Nat.zero_le _, Nat.zero_le _⟩ (fun S_10 H locs hw hP hD hS => ?_)
  refine lv_aload_n hx hb dX6_readChoice_24 rfl (lv_at hl 0 rfl) ?_
  refine lv_bipush (v := 26) hx hb dX6_readChoice_25 (by decide) ?_
  refine e_callVv (As := [.int 26]) (rest := []) clE_stable hs ⟨hx, hb, hml, hown, hts⟩ (cC_X6_expect l D h cy _ _ _ hw) (cwV 1 hts gX6_readChoice_X6_expect rfl rfl rfl (by decide +kernel) ⟨by show 6 + 1 ≤ 7 + (d + 1); omega, by show 8 + (2 + 11) + 131 ≤ 152 + (d + 1) * 22; omega⟩) (va_recv hK hP (ci := 6) (q0 := 5) rfl rfl) hK hP hD hS hA rfl hl.1 rfl (Nat.le_of_ble_eq_true rfl) dX6_readChoice_27 ⟨Nat.zero_le _, Nat.zero_le _⟩ (fun S_12 H locs hw hP hD hS => ?_)
  refine lv_aload_n hx hb dX6_readChoice_30 rfl (lv_at hl 0 rfl) ?_
  refine lv_bipush (v := 23) hx hb dX6_readChoice_31 (by decide) ?_
  refine lv_iconst (v := 0) hx hb dX6_readChoice_33 (by decide) ?_
  refine e_callVv (As := [.int 23, .int 0]) (rest := []) clE_stable hs ⟨hx, hb, hml, hown, hts⟩ (cC_X6_emit l D h cy _ _ _ _ hw) (cwV 2 hts gX6_readChoice_X6_emit rfl rfl rfl (by decide +kernel) ⟨by show 1 + 1 ≤ 7 + (d + 1); omega, by show 8 + (3 + 11) + 22 ≤ 152 + (d + 1) * 22; omega⟩) (va_recv hK hP (ci := 6) (q0 := 5) rfl rfl) hK hP hD hS hA rfl hl.1 rfl (Nat.le_of_ble_eq_true rfl) dX6_readChoice_34 ⟨Nat.zero_le _, Nat.zero_le _⟩ (fun S_14 H locs hw hP hD hS => ?_)
  exact W.vret hx hb hr (fun t ht hW => ⟨⟨S_14, rfl, hw, by rw [ht]; exact hP, va_K.moved hW.alike hK, hD⟩, hS.F ht⟩) hS.2.2 dX6_readChoice_37
def wC_X6_readEither_6 (Rc : Nat → CS → (CS → Prop) → Prop) (post : CS → Prop) : Nat → Int32 → CS → Prop
  | 0, _, _ => False
  | n + 1, x1, S => ((300 ≤ x1 → post S) ∧ (¬ (300 ≤ x1) → (((cx_r_token S) = 27 → wC_X6_advance S (fun S_4 => Rc 5 S_4 (fun S_6 => wC_X6_emit 27 0 S_6 (fun S_8 => wC_X6_readEither_6 Rc post n (x1 + 1) S_8)))) ∧ (¬ ((cx_r_token S) = 27) → post S))))
def wB_X6_readEither (Rc : Nat → CS → (CS → Prop) → Prop) (S : CS) (post : CS → Prop) : Prop := Rc 5 S (fun S_2 => ∃ k_ : Nat, wC_X6_readEither_6 Rc post k_ 0 S_2)
set_option maxHeartbeats 4000000 in
set_option maxRecDepth 100000 in
theorem cB_X6_readEither (l : Launch) (D : va_G) (h : Nat → Nat) (cy : Nat → ClassId) (d : Nat) (Rc : Nat → CS → (CS → Prop) → Prop) (hR0 : ∀ (S : CS) (post : CS → Prop), Rc 0 S post → e_Mv clE l yX6_readSum wsX6_readSum { frames := 7 + d, cells := 0, slots := 0, locals := 152 + d * 22 } D (tyC cy) (wC h cy) [.ref (h 5)] S post) (hR1 : ∀ (S : CS) (post : CS → Prop), Rc 1 S post → e_Mv clE l yX6_readProduct wsX6_readProduct { frames := 7 + d, cells := 0, slots := 0, locals := 152 + d * 22 } D (tyC cy) (wC h cy) [.ref (h 5)] S post) (hR2 : ∀ (S : CS) (post : CS → Prop), Rc 2 S post → e_Mv clE l yX6_readOne wsX6_readOne { frames := 7 + d, cells := 0, slots := 0, locals := 152 + d * 22 } D (tyC cy) (wC h cy) [.ref (h 5)] S post) (hR3 : ∀ (S : CS) (post : CS → Prop), Rc 3 S post → e_Mv clE l yX6_readChoice wsX6_readChoice { frames := 7 + d, cells := 0, slots := 0, locals := 152 + d * 22 } D (tyC cy) (wC h cy) [.ref (h 5)] S post) (hR4 : ∀ (S : CS) (post : CS → Prop), Rc 4 S post → e_Mv clE l yX6_readEither wsX6_readEither { frames := 7 + d, cells := 0, slots := 0, locals := 152 + d * 22 } D (tyC cy) (wC h cy) [.ref (h 5)] S post) (hR5 : ∀ (S : CS) (post : CS → Prop), Rc 5 S post → e_Mv clE l yX6_readBoth wsX6_readBoth { frames := 7 + d, cells := 0, slots := 0, locals := 152 + d * 22 } D (tyC cy) (wC h cy) [.ref (h 5)] S post) (hR6 : ∀ (S : CS) (post : CS → Prop), Rc 6 S post → e_Mv clE l yX6_readAsk wsX6_readAsk { frames := 7 + d, cells := 0, slots := 0, locals := 152 + d * 22 } D (tyC cy) (wC h cy) [.ref (h 5)] S post) (S : CS) (post : CS → Prop) (hw : wB_X6_readEither Rc S post) : e_Mv clE l yX6_readEither wsX6_readEither { frames := 7 + (d + 1), cells := 0, slots := 0, locals := 152 + (d + 1) * 22 } D (tyC cy) (wC h cy) [.ref (h 5)] S post := by
  intro sz
  refine Met.ofW (cc := cX6_readEither) (maxL := 2) (ret := none) (by decide) rfl ?_
  intro p e s m args below meth c s₁ B hml hv
  obtain ⟨rfl, hsz, hP, hK, hD0, hs⟩ := hv
  have hx := B.exec
  have hb := B.bytes
  have hr := B.returns
  have hts := atoms_spec (ws := wsX6_readEither) B.pre
  have hown : s.vm.findClass RX6 = some m.cls := findClass_of_methodNamed B.named
  have hlocks := B.notSynchronized
  subst hsz
  have hD := hD0.self (sz := s.heap.size)
  generalize hAe : va_A (wC h cy S) s.heap.size = A at hD hs ⊢
  have hA : ∀ q : Nat, s.heap.size ≤ q → A q := fun q h => by rw [← hAe]; exact Or.inr h
  have hS : va_S A s.heap s.heap [] := va_S.rf
  have hin6 : ∀ w ∈ wsX60, w ∈ wsX6_readEither := fun _ h => List.mem_cons_of_mem _ (List.mem_append_right _ h)
  have w62 := hts (.fieldLink RX6 62 "ClownsMourn$Reader" "token" "I") (List.mem_of_getElem? (i := 1) rfl)
  have hl := lv_entry ([.ref (h 5)]) (n := 2) (Nat.le_of_ble_eq_true rfl)
  rw [lg_entry_eq]
  generalize (lg_sl ([.ref (h 5)]) ++ List.replicate (2 - (lg_sl ([.ref (h 5)])).length) Slot.unset).toArray = ls at hl ⊢
  have hl : lv_has ls 2 [(0, .ref (h 5))] := hl
  unfold wB_X6_readEither at hw
  clear hD0
  have L_6 : ∀ (n6 : Nat) (x1 : Int32) (S : CS) (H : Heap) (locs : List Loc) (ls : Array Slot), wC_X6_readEither_6 Rc post n6 x1 S → va_P D vwCl (wC h cy S) H → va_D A (wC h cy S) → va_S A s.heap H locs → lv_has ls 2 [(0, .ref (h 5)), (1, .int x1)] → W p l e (headSpec wsX6_readEither { frames := 7 + (d + 1), cells := 0, slots := 0, locals := 152 + (d + 1) * 22 }).room s m (([.ref (h 5)] : List Value).toArray) below meth c H locs 0 0 (MQ below (va_Qv post (k_Post D (tyC cy) (wC h cy) A) A) (([.ref (h 5)] : List Value).toArray) s 0 0 A) (F0 m 6 ls []) := by
    intro n6
    induction n6 with
    | zero => intro x1 S H locs ls hw; exact False.elim hw
    | succ n6 ih_6 =>
      intro x1 S H locs ls hw hP hD hS hl
      unfold wC_X6_readEither_6 at hw
      refine lv_iload_n hx hb dX6_readEither_6 rfl (lv_at hl 1 rfl) ?_
      refine lv_sipush (v := 300) hx hb dX6_readEither_7 (by decide) ?_
      obtain ⟨hc_1t, hc_1f⟩ := hw
      refine lv_icmp_ge (tgt := 43) hx hb dX6_readEither_10 (by decide) (fun c_1 => ?_) (fun c_1 => ?_)
      · have hw := hc_1t c_1
        clear hc_1t hc_1f
        exact W.vret hx hb hr (fun t ht hW => ⟨⟨S, rfl, hw, by rw [ht]; exact hP, va_K.moved hW.alike hK, hD⟩, hS.F ht⟩) hS.2.2 dX6_readEither_43
      · have hw := hc_1f c_1
        clear hc_1t hc_1f
        refine lv_aload_n hx hb dX6_readEither_13 rfl (lv_at hl 0 rfl) ?_
        refine va_get (D := D) (ci := 6) (v := .int (cx_r_token S)) (C := RX6) (T := TX6) (N := 16) hx hb hts hin6 hown hK hP 5 rfl rfl 11 (by decide) w62 (fun _ h9 => h9) rfl dX6_readEither_14 ?_
        refine lv_bipush (v := 27) hx hb dX6_readEither_17 (by decide) ?_
        obtain ⟨hc_2t, hc_2f⟩ := hw
        refine lv_icmp_ne (tgt := 43) hx hb dX6_readEither_19 (by decide) (fun c_2 => ?_) (fun c_2 => ?_)
        · have hw := hc_2f c_2
          clear hc_2t hc_2f
          exact W.vret hx hb hr (fun t ht hW => ⟨⟨S, rfl, hw, by rw [ht]; exact hP, va_K.moved hW.alike hK, hD⟩, hS.F ht⟩) hS.2.2 dX6_readEither_43
        · have hw := hc_2t c_2
          clear hc_2t hc_2f
          refine lv_aload_n hx hb dX6_readEither_22 rfl (lv_at hl 0 rfl) ?_
          refine e_callVv (As := []) (rest := []) clE_stable hs ⟨hx, hb, hml, hown, hts⟩ (cC_X6_advance l D h cy _ _ hw) (cwV 0 hts gX6_readEither_X6_advance rfl rfl rfl (by decide +kernel) ⟨by show 5 + 1 ≤ 7 + (d + 1); omega, by show 8 + (2 + 11) + 110 ≤ 152 + (d + 1) * 22; omega⟩) (va_recv hK hP (ci := 6) (q0 := 5) rfl rfl) hK hP hD hS hA rfl hl.1 rfl (Nat.le_of_ble_eq_true rfl) dX6_readEither_23 ⟨Nat.zero_le _, Nat.zero_le _⟩ (fun S_4 H locs hw hP hD hS => ?_)
          refine lv_aload_n hx hb dX6_readEither_26 rfl (lv_at hl 0 rfl) ?_
          refine e_callVv (As := []) (rest := []) clE_stable hs ⟨hx, hb, hml, hown, hts⟩ (hR5 _ _ hw) (cwV 0 hts gX6_readEither_X6_readBoth rfl rfl rfl (by decide +kernel) ⟨by show 7 + d + 1 ≤ 7 + (d + 1); omega, by show 8 + (2 + 11) + (152 + d * 22) ≤ 152 + (d + 1) * 22; omega⟩) (va_recv hK hP (ci := 6) (q0 := 5) rfl rfl) hK hP hD hS hA rfl hl.1 rfl (Nat.le_of_ble_eq_true rfl) dX6_readEither_27 ⟨Nat.zero_le _, Nat.zero_le _⟩ (fun S_6 H locs hw hP hD hS => ?_)
          refine lv_aload_n hx hb dX6_readEither_30 rfl (lv_at hl 0 rfl) ?_
          refine lv_bipush (v := 27) hx hb dX6_readEither_31 (by decide) ?_
          refine lv_iconst (v := 0) hx hb dX6_readEither_33 (by decide) ?_
          refine e_callVv (As := [.int 27, .int 0]) (rest := []) clE_stable hs ⟨hx, hb, hml, hown, hts⟩ (cC_X6_emit l D h cy _ _ _ _ hw) (cwV 2 hts gX6_readEither_X6_emit rfl rfl rfl (by decide +kernel) ⟨by show 1 + 1 ≤ 7 + (d + 1); omega, by show 8 + (3 + 11) + 22 ≤ 152 + (d + 1) * 22; omega⟩) (va_recv hK hP (ci := 6) (q0 := 5) rfl rfl) hK hP hD hS hA rfl hl.1 rfl (Nat.le_of_ble_eq_true rfl) dX6_readEither_34 ⟨Nat.zero_le _, Nat.zero_le _⟩ (fun S_8 H locs hw hP hD hS => ?_)
          refine lv_iinc (v := x1 + 1) (lv' := [(1, .int (x1 + 1)), (0, .ref (h 5))]) hx hb dX6_readEither_37 hl (k := 1) rfl (k_inc (by decide)) (by decide) rfl (fun ls hl => ?_)
          refine lv_goto (tgt := 6) hx hb dX6_readEither_40 (by decide) ?_
          exact ih_6 (x1 + 1) S_8 _ _ _ hw hP hD hS (lv_sub hl [1, 0] rfl)
  refine lv_aload_n hx hb dX6_readEither_0 rfl (lv_at hl 0 rfl) ?_
  refine e_callVv (As := []) (rest := []) clE_stable hs ⟨hx, hb, hml, hown, hts⟩ (hR5 _ _ hw) (cwV 0 hts gX6_readEither_X6_readBoth rfl rfl rfl (by decide +kernel) ⟨by show 7 + d + 1 ≤ 7 + (d + 1); omega, by show 8 + (2 + 11) + (152 + d * 22) ≤ 152 + (d + 1) * 22; omega⟩) (va_recv hK hP (ci := 6) (q0 := 5) rfl rfl) hK hP hD hS hA rfl hl.1 rfl (Nat.le_of_ble_eq_true rfl) dX6_readEither_1 ⟨Nat.zero_le _, Nat.zero_le _⟩ (fun S_10 H locs hw hP hD hS => ?_)
  refine lv_iconst (v := 0) hx hb dX6_readEither_4 (by decide) ?_
  refine lv_istore_n (lv' := [(1, .int 0), (0, .ref (h 5))]) hx hb dX6_readEither_5 rfl hl (by decide) rfl (fun ls hl => ?_)
  obtain ⟨n_6, hw⟩ := hw
  exact L_6 n_6 0 S_10 _ _ _ hw hP hD hS (lv_sub hl [1, 0] rfl)
def wC_X6_readBoth_6 (Rc : Nat → CS → (CS → Prop) → Prop) (post : CS → Prop) : Nat → Int32 → CS → Prop
  | 0, _, _ => False
  | n + 1, x1, S => ((300 ≤ x1 → post S) ∧ (¬ (300 ≤ x1) → (((cx_r_token S) = 28 → wC_X6_advance S (fun S_4 => Rc 6 S_4 (fun S_6 => wC_X6_emit 28 0 S_6 (fun S_8 => wC_X6_readBoth_6 Rc post n (x1 + 1) S_8)))) ∧ (¬ ((cx_r_token S) = 28) → post S))))
def wB_X6_readBoth (Rc : Nat → CS → (CS → Prop) → Prop) (S : CS) (post : CS → Prop) : Prop := Rc 6 S (fun S_2 => ∃ k_ : Nat, wC_X6_readBoth_6 Rc post k_ 0 S_2)
set_option maxHeartbeats 4000000 in
set_option maxRecDepth 100000 in
theorem cB_X6_readBoth (l : Launch) (D : va_G) (h : Nat → Nat) (cy : Nat → ClassId) (d : Nat) (Rc : Nat → CS → (CS → Prop) → Prop) (hR0 : ∀ (S : CS) (post : CS → Prop), Rc 0 S post → e_Mv clE l yX6_readSum wsX6_readSum { frames := 7 + d, cells := 0, slots := 0, locals := 152 + d * 22 } D (tyC cy) (wC h cy) [.ref (h 5)] S post) (hR1 : ∀ (S : CS) (post : CS → Prop), Rc 1 S post → e_Mv clE l yX6_readProduct wsX6_readProduct { frames := 7 + d, cells := 0, slots := 0, locals := 152 + d * 22 } D (tyC cy) (wC h cy) [.ref (h 5)] S post) (hR2 : ∀ (S : CS) (post : CS → Prop), Rc 2 S post → e_Mv clE l yX6_readOne wsX6_readOne { frames := 7 + d, cells := 0, slots := 0, locals := 152 + d * 22 } D (tyC cy) (wC h cy) [.ref (h 5)] S post) (hR3 : ∀ (S : CS) (post : CS → Prop), Rc 3 S post → e_Mv clE l yX6_readChoice wsX6_readChoice { frames := 7 + d, cells := 0, slots := 0, locals := 152 + d * 22 } D (tyC cy) (wC h cy) [.ref (h 5)] S post) (hR4 : ∀ (S : CS) (post : CS → Prop), Rc 4 S post → e_Mv clE l yX6_readEither wsX6_readEither { frames := 7 + d, cells := 0, slots := 0, locals := 152 + d * 22 } D (tyC cy) (wC h cy) [.ref (h 5)] S post) (hR5 : ∀ (S : CS) (post : CS → Prop), Rc 5 S post → e_Mv clE l yX6_readBoth wsX6_readBoth { frames := 7 + d, cells := 0, slots := 0, locals := 152 + d * 22 } D (tyC cy) (wC h cy) [.ref (h 5)] S post) (hR6 : ∀ (S : CS) (post : CS → Prop), Rc 6 S post → e_Mv clE l yX6_readAsk wsX6_readAsk { frames := 7 + d, cells := 0, slots := 0, locals := 152 + d * 22 } D (tyC cy) (wC h cy) [.ref (h 5)] S post) (S : CS) (post : CS → Prop) (hw : wB_X6_readBoth Rc S post) : e_Mv clE l yX6_readBoth wsX6_readBoth { frames := 7 + (d + 1), cells := 0, slots := 0, locals := 152 + (d + 1) * 22 } D (tyC cy) (wC h cy) [.ref (h 5)] S post := by
  intro sz
  refine Met.ofW (cc := cX6_readBoth) (maxL := 2) (ret := none) (by decide) rfl ?_
  intro p e s m args below meth c s₁ B hml hv
  obtain ⟨rfl, hsz, hP, hK, hD0, hs⟩ := hv
  have hx := B.exec
  have hb := B.bytes
  have hr := B.returns
  have hts := atoms_spec (ws := wsX6_readBoth) B.pre
  have hown : s.vm.findClass RX6 = some m.cls := findClass_of_methodNamed B.named
  have hlocks := B.notSynchronized
  subst hsz
  have hD := hD0.self (sz := s.heap.size)
  generalize hAe : va_A (wC h cy S) s.heap.size = A at hD hs ⊢
  have hA : ∀ q : Nat, s.heap.size ≤ q → A q := fun q h => by rw [← hAe]; exact Or.inr h
  have hS : va_S A s.heap s.heap [] := va_S.rf
  have hin6 : ∀ w ∈ wsX60, w ∈ wsX6_readBoth := fun _ h => List.mem_cons_of_mem _ (List.mem_append_right _ h)
  have w62 := hts (.fieldLink RX6 62 "ClownsMourn$Reader" "token" "I") (List.mem_of_getElem? (i := 1) rfl)
  have hl := lv_entry ([.ref (h 5)]) (n := 2) (Nat.le_of_ble_eq_true rfl)
  rw [lg_entry_eq]
  generalize (lg_sl ([.ref (h 5)]) ++ List.replicate (2 - (lg_sl ([.ref (h 5)])).length) Slot.unset).toArray = ls at hl ⊢
  have hl : lv_has ls 2 [(0, .ref (h 5))] := hl
  unfold wB_X6_readBoth at hw
  clear hD0
  have L_6 : ∀ (n6 : Nat) (x1 : Int32) (S : CS) (H : Heap) (locs : List Loc) (ls : Array Slot), wC_X6_readBoth_6 Rc post n6 x1 S → va_P D vwCl (wC h cy S) H → va_D A (wC h cy S) → va_S A s.heap H locs → lv_has ls 2 [(0, .ref (h 5)), (1, .int x1)] → W p l e (headSpec wsX6_readBoth { frames := 7 + (d + 1), cells := 0, slots := 0, locals := 152 + (d + 1) * 22 }).room s m (([.ref (h 5)] : List Value).toArray) below meth c H locs 0 0 (MQ below (va_Qv post (k_Post D (tyC cy) (wC h cy) A) A) (([.ref (h 5)] : List Value).toArray) s 0 0 A) (F0 m 6 ls []) := by
    intro n6
    induction n6 with
    | zero => intro x1 S H locs ls hw; exact False.elim hw
    | succ n6 ih_6 =>
      intro x1 S H locs ls hw hP hD hS hl
      unfold wC_X6_readBoth_6 at hw
      refine lv_iload_n hx hb dX6_readBoth_6 rfl (lv_at hl 1 rfl) ?_
      refine lv_sipush (v := 300) hx hb dX6_readBoth_7 (by decide) ?_
      obtain ⟨hc_1t, hc_1f⟩ := hw
      refine lv_icmp_ge (tgt := 43) hx hb dX6_readBoth_10 (by decide) (fun c_1 => ?_) (fun c_1 => ?_)
      · have hw := hc_1t c_1
        clear hc_1t hc_1f
        exact W.vret hx hb hr (fun t ht hW => ⟨⟨S, rfl, hw, by rw [ht]; exact hP, va_K.moved hW.alike hK, hD⟩, hS.F ht⟩) hS.2.2 dX6_readBoth_43
      · have hw := hc_1f c_1
        clear hc_1t hc_1f
        refine lv_aload_n hx hb dX6_readBoth_13 rfl (lv_at hl 0 rfl) ?_
        refine va_get (D := D) (ci := 6) (v := .int (cx_r_token S)) (C := RX6) (T := TX6) (N := 16) hx hb hts hin6 hown hK hP 5 rfl rfl 11 (by decide) w62 (fun _ h9 => h9) rfl dX6_readBoth_14 ?_
        refine lv_bipush (v := 28) hx hb dX6_readBoth_17 (by decide) ?_
        obtain ⟨hc_2t, hc_2f⟩ := hw
        refine lv_icmp_ne (tgt := 43) hx hb dX6_readBoth_19 (by decide) (fun c_2 => ?_) (fun c_2 => ?_)
        · have hw := hc_2f c_2
          clear hc_2t hc_2f
          exact W.vret hx hb hr (fun t ht hW => ⟨⟨S, rfl, hw, by rw [ht]; exact hP, va_K.moved hW.alike hK, hD⟩, hS.F ht⟩) hS.2.2 dX6_readBoth_43
        · have hw := hc_2t c_2
          clear hc_2t hc_2f
          refine lv_aload_n hx hb dX6_readBoth_22 rfl (lv_at hl 0 rfl) ?_
          refine e_callVv (As := []) (rest := []) clE_stable hs ⟨hx, hb, hml, hown, hts⟩ (cC_X6_advance l D h cy _ _ hw) (cwV 0 hts gX6_readBoth_X6_advance rfl rfl rfl (by decide +kernel) ⟨by show 5 + 1 ≤ 7 + (d + 1); omega, by show 8 + (2 + 11) + 110 ≤ 152 + (d + 1) * 22; omega⟩) (va_recv hK hP (ci := 6) (q0 := 5) rfl rfl) hK hP hD hS hA rfl hl.1 rfl (Nat.le_of_ble_eq_true rfl) dX6_readBoth_23 ⟨Nat.zero_le _, Nat.zero_le _⟩ (fun S_4 H locs hw hP hD hS => ?_)
          refine lv_aload_n hx hb dX6_readBoth_26 rfl (lv_at hl 0 rfl) ?_
          refine e_callVv (As := []) (rest := []) clE_stable hs ⟨hx, hb, hml, hown, hts⟩ (hR6 _ _ hw) (cwV 0 hts gX6_readBoth_X6_readAsk rfl rfl rfl (by decide +kernel) ⟨by show 7 + d + 1 ≤ 7 + (d + 1); omega, by show 8 + (2 + 11) + (152 + d * 22) ≤ 152 + (d + 1) * 22; omega⟩) (va_recv hK hP (ci := 6) (q0 := 5) rfl rfl) hK hP hD hS hA rfl hl.1 rfl (Nat.le_of_ble_eq_true rfl) dX6_readBoth_27 ⟨Nat.zero_le _, Nat.zero_le _⟩ (fun S_6 H locs hw hP hD hS => ?_)
          refine lv_aload_n hx hb dX6_readBoth_30 rfl (lv_at hl 0 rfl) ?_
          refine lv_bipush (v := 28) hx hb dX6_readBoth_31 (by decide) ?_
          refine lv_iconst (v := 0) hx hb dX6_readBoth_33 (by decide) ?_
          refine e_callVv (As := [.int 28, .int 0]) (rest := []) clE_stable hs ⟨hx, hb, hml, hown, hts⟩ (cC_X6_emit l D h cy _ _ _ _ hw) (cwV 2 hts gX6_readBoth_X6_emit rfl rfl rfl (by decide +kernel) ⟨by show 1 + 1 ≤ 7 + (d + 1); omega, by show 8 + (3 + 11) + 22 ≤ 152 + (d + 1) * 22; omega⟩) (va_recv hK hP (ci := 6) (q0 := 5) rfl rfl) hK hP hD hS hA rfl hl.1 rfl (Nat.le_of_ble_eq_true rfl) dX6_readBoth_34 ⟨Nat.zero_le _, Nat.zero_le _⟩ (fun S_8 H locs hw hP hD hS => ?_)
          refine lv_iinc (v := x1 + 1) (lv' := [(1, .int (x1 + 1)), (0, .ref (h 5))]) hx hb dX6_readBoth_37 hl (k := 1) rfl (k_inc (by decide)) (by decide) rfl (fun ls hl => ?_)
          refine lv_goto (tgt := 6) hx hb dX6_readBoth_40 (by decide) ?_
          exact ih_6 (x1 + 1) S_8 _ _ _ hw hP hD hS (lv_sub hl [1, 0] rfl)
  refine lv_aload_n hx hb dX6_readBoth_0 rfl (lv_at hl 0 rfl) ?_
  refine e_callVv (As := []) (rest := []) clE_stable hs ⟨hx, hb, hml, hown, hts⟩ (hR6 _ _ hw) (cwV 0 hts gX6_readBoth_X6_readAsk rfl rfl rfl (by decide +kernel) ⟨by show 7 + d + 1 ≤ 7 + (d + 1); omega, by show 8 + (2 + 11) + (152 + d * 22) ≤ 152 + (d + 1) * 22; omega⟩) (va_recv hK hP (ci := 6) (q0 := 5) rfl rfl) hK hP hD hS hA rfl hl.1 rfl (Nat.le_of_ble_eq_true rfl) dX6_readBoth_1 ⟨Nat.zero_le _, Nat.zero_le _⟩ (fun S_10 H locs hw hP hD hS => ?_)
  refine lv_iconst (v := 0) hx hb dX6_readBoth_4 (by decide) ?_
  refine lv_istore_n (lv' := [(1, .int 0), (0, .ref (h 5))]) hx hb dX6_readBoth_5 rfl hl (by decide) rfl (fun ls hl => ?_)
  obtain ⟨n_6, hw⟩ := hw
  exact L_6 n_6 0 S_10 _ _ _ hw hP hD hS (lv_sub hl [1, 0] rfl)
def wB_X6_readAsk (Rc : Nat → CS → (CS → Prop) → Prop) (S : CS) (post : CS → Prop) : Prop := (((cx_r_token S) = 29 → wC_X6_opens S (fun r_16 S_17 => ((r_16 = 0 → post S_17) ∧ (¬ (r_16 = 0) → Rc 6 S_17 (fun S_20 => wC_X6_emit 29 0 S_20 (fun S_22 => (∀ S_23 : CS, S_23 = (cx_set_r_open S_22 ((cx_r_open S_22) - 1)) → post S_23))))))) ∧ (¬ ((cx_r_token S) = 29) → Rc 0 S (fun S_3 => (((cx_r_token S_3) < 33 → wC_X6_fail 1 S_3 (fun S_6 => post S_6)) ∧ (¬ ((cx_r_token S_3) < 33) → (((cx_r_token S_3) ≤ 38 → wC_X6_advance S_3 (fun S_9 => Rc 0 S_9 (fun S_11 => wC_X6_emit (cx_r_token S_3) 0 S_11 (fun S_13 => post S_13)))) ∧ (¬ ((cx_r_token S_3) ≤ 38) → wC_X6_fail 1 S_3 (fun S_15 => post S_15))))))))
set_option maxHeartbeats 4000000 in
set_option maxRecDepth 100000 in
theorem cB_X6_readAsk (l : Launch) (D : va_G) (h : Nat → Nat) (cy : Nat → ClassId) (d : Nat) (Rc : Nat → CS → (CS → Prop) → Prop) (hR0 : ∀ (S : CS) (post : CS → Prop), Rc 0 S post → e_Mv clE l yX6_readSum wsX6_readSum { frames := 7 + d, cells := 0, slots := 0, locals := 152 + d * 22 } D (tyC cy) (wC h cy) [.ref (h 5)] S post) (hR1 : ∀ (S : CS) (post : CS → Prop), Rc 1 S post → e_Mv clE l yX6_readProduct wsX6_readProduct { frames := 7 + d, cells := 0, slots := 0, locals := 152 + d * 22 } D (tyC cy) (wC h cy) [.ref (h 5)] S post) (hR2 : ∀ (S : CS) (post : CS → Prop), Rc 2 S post → e_Mv clE l yX6_readOne wsX6_readOne { frames := 7 + d, cells := 0, slots := 0, locals := 152 + d * 22 } D (tyC cy) (wC h cy) [.ref (h 5)] S post) (hR3 : ∀ (S : CS) (post : CS → Prop), Rc 3 S post → e_Mv clE l yX6_readChoice wsX6_readChoice { frames := 7 + d, cells := 0, slots := 0, locals := 152 + d * 22 } D (tyC cy) (wC h cy) [.ref (h 5)] S post) (hR4 : ∀ (S : CS) (post : CS → Prop), Rc 4 S post → e_Mv clE l yX6_readEither wsX6_readEither { frames := 7 + d, cells := 0, slots := 0, locals := 152 + d * 22 } D (tyC cy) (wC h cy) [.ref (h 5)] S post) (hR5 : ∀ (S : CS) (post : CS → Prop), Rc 5 S post → e_Mv clE l yX6_readBoth wsX6_readBoth { frames := 7 + d, cells := 0, slots := 0, locals := 152 + d * 22 } D (tyC cy) (wC h cy) [.ref (h 5)] S post) (hR6 : ∀ (S : CS) (post : CS → Prop), Rc 6 S post → e_Mv clE l yX6_readAsk wsX6_readAsk { frames := 7 + d, cells := 0, slots := 0, locals := 152 + d * 22 } D (tyC cy) (wC h cy) [.ref (h 5)] S post) (S : CS) (post : CS → Prop) (hw : wB_X6_readAsk Rc S post) : e_Mv clE l yX6_readAsk wsX6_readAsk { frames := 7 + (d + 1), cells := 0, slots := 0, locals := 152 + (d + 1) * 22 } D (tyC cy) (wC h cy) [.ref (h 5)] S post := by
  intro sz
  refine Met.ofW (cc := cX6_readAsk) (maxL := 2) (ret := none) (by decide) rfl ?_
  intro p e s m args below meth c s₁ B hml hv
  obtain ⟨rfl, hsz, hP, hK, hD0, hs⟩ := hv
  have hx := B.exec
  have hb := B.bytes
  have hr := B.returns
  have hts := atoms_spec (ws := wsX6_readAsk) B.pre
  have hown : s.vm.findClass RX6 = some m.cls := findClass_of_methodNamed B.named
  have hlocks := B.notSynchronized
  subst hsz
  have hD := hD0.self (sz := s.heap.size)
  generalize hAe : va_A (wC h cy S) s.heap.size = A at hD hs ⊢
  have hA : ∀ q : Nat, s.heap.size ≤ q → A q := fun q h => by rw [← hAe]; exact Or.inr h
  have hS : va_S A s.heap s.heap [] := va_S.rf
  have hin6 : ∀ w ∈ wsX60, w ∈ wsX6_readAsk := fun _ h => List.mem_cons_of_mem _ (List.mem_append_right _ h)
  have w50 := hts (.fieldLink RX6 50 "ClownsMourn$Reader" "open" "I") (List.mem_of_getElem? (i := 2) rfl)
  have w62 := hts (.fieldLink RX6 62 "ClownsMourn$Reader" "token" "I") (List.mem_of_getElem? (i := 1) rfl)
  have hl := lv_entry ([.ref (h 5)]) (n := 2) (Nat.le_of_ble_eq_true rfl)
  rw [lg_entry_eq]
  generalize (lg_sl ([.ref (h 5)]) ++ List.replicate (2 - (lg_sl ([.ref (h 5)])).length) Slot.unset).toArray = ls at hl ⊢
  have hl : lv_has ls 2 [(0, .ref (h 5))] := hl
  unfold wB_X6_readAsk at hw
  clear hD0
  refine lv_aload_n hx hb dX6_readAsk_0 rfl (lv_at hl 0 rfl) ?_
  refine va_get (D := D) (ci := 6) (v := .int (cx_r_token S)) (C := RX6) (T := TX6) (N := 16) hx hb hts hin6 hown hK hP 5 rfl rfl 11 (by decide) w62 (fun _ h9 => h9) rfl dX6_readAsk_1 ?_
  refine lv_bipush (v := 29) hx hb dX6_readAsk_4 (by decide) ?_
  obtain ⟨hc_1t, hc_1f⟩ := hw
  refine lv_icmp_ne (tgt := 38) hx hb dX6_readAsk_6 (by decide) (fun c_1 => ?_) (fun c_1 => ?_)
  · have hw := hc_1f c_1
    clear hc_1t hc_1f
    refine lv_aload_n hx hb dX6_readAsk_38 rfl (lv_at hl 0 rfl) ?_
    refine e_callVv (As := []) (rest := []) clE_stable hs ⟨hx, hb, hml, hown, hts⟩ (hR0 _ _ hw) (cwV 0 hts gX6_readAsk_X6_readSum rfl rfl rfl (by decide +kernel) ⟨by show 7 + d + 1 ≤ 7 + (d + 1); omega, by show 8 + (3 + 11) + (152 + d * 22) ≤ 152 + (d + 1) * 22; omega⟩) (va_recv hK hP (ci := 6) (q0 := 5) rfl rfl) hK hP hD hS hA rfl hl.1 rfl (Nat.le_of_ble_eq_true rfl) dX6_readAsk_39 ⟨Nat.zero_le _, Nat.zero_le _⟩ (fun S_3 H locs hw hP hD hS => ?_)
    refine lv_aload_n hx hb dX6_readAsk_42 rfl (lv_at hl 0 rfl) ?_
    refine va_get (D := D) (ci := 6) (v := .int (cx_r_token S_3)) (C := RX6) (T := TX6) (N := 16) hx hb hts hin6 hown hK hP 5 rfl rfl 11 (by decide) w62 (fun _ h9 => h9) rfl dX6_readAsk_43 ?_
    refine lv_istore_n (lv' := [(1, .int (cx_r_token S_3)), (0, .ref (h 5))]) hx hb dX6_readAsk_46 rfl hl (by decide) rfl (fun ls hl => ?_)
    refine lv_iload_n hx hb dX6_readAsk_47 rfl (lv_at hl 0 rfl) ?_
    refine lv_bipush (v := 33) hx hb dX6_readAsk_48 (by decide) ?_
    obtain ⟨hc_4t, hc_4f⟩ := hw
    refine lv_icmp_lt (tgt := 59) hx hb dX6_readAsk_50 (by decide) (fun c_4 => ?_) (fun c_4 => ?_)
    · have hw := hc_4t c_4
      clear hc_4t hc_4f
      refine lv_aload_n hx hb dX6_readAsk_59 rfl (lv_at hl 1 rfl) ?_
      refine lv_iconst (v := 1) hx hb dX6_readAsk_60 (by decide) ?_
      refine e_callVv (As := [.int 1]) (rest := []) clE_stable hs ⟨hx, hb, hml, hown, hts⟩ (cC_X6_fail l D h cy _ _ _ hw) (cwV 1 hts gX6_readAsk_X6_fail rfl rfl rfl (by decide +kernel) ⟨by show 0 + 1 ≤ 7 + (d + 1); omega, by show 8 + (2 + 11) + 0 ≤ 152 + (d + 1) * 22; omega⟩) (va_recv hK hP (ci := 6) (q0 := 5) rfl rfl) hK hP hD hS hA rfl hl.1 rfl (Nat.le_of_ble_eq_true rfl) dX6_readAsk_61 ⟨Nat.zero_le _, Nat.zero_le _⟩ (fun S_6 H locs hw hP hD hS => ?_)
      exact W.vret hx hb hr (fun t ht hW => ⟨⟨S_6, rfl, hw, by rw [ht]; exact hP, va_K.moved hW.alike hK, hD⟩, hS.F ht⟩) hS.2.2 dX6_readAsk_64
    · have hw := hc_4f c_4
      clear hc_4t hc_4f
      refine lv_iload_n hx hb dX6_readAsk_53 rfl (lv_at hl 0 rfl) ?_
      refine lv_bipush (v := 38) hx hb dX6_readAsk_54 (by decide) ?_
      obtain ⟨hc_7t, hc_7f⟩ := hw
      refine lv_icmp_le (tgt := 65) hx hb dX6_readAsk_56 (by decide) (fun c_7 => ?_) (fun c_7 => ?_)
      · have hw := hc_7t c_7
        clear hc_7t hc_7f
        refine lv_aload_n hx hb dX6_readAsk_65 rfl (lv_at hl 1 rfl) ?_
        refine e_callVv (As := []) (rest := []) clE_stable hs ⟨hx, hb, hml, hown, hts⟩ (cC_X6_advance l D h cy _ _ hw) (cwV 0 hts gX6_readAsk_X6_advance rfl rfl rfl (by decide +kernel) ⟨by show 5 + 1 ≤ 7 + (d + 1); omega, by show 8 + (2 + 11) + 110 ≤ 152 + (d + 1) * 22; omega⟩) (va_recv hK hP (ci := 6) (q0 := 5) rfl rfl) hK hP hD hS hA rfl hl.1 rfl (Nat.le_of_ble_eq_true rfl) dX6_readAsk_66 ⟨Nat.zero_le _, Nat.zero_le _⟩ (fun S_9 H locs hw hP hD hS => ?_)
        refine lv_aload_n hx hb dX6_readAsk_69 rfl (lv_at hl 1 rfl) ?_
        refine e_callVv (As := []) (rest := []) clE_stable hs ⟨hx, hb, hml, hown, hts⟩ (hR0 _ _ hw) (cwV 0 hts gX6_readAsk_X6_readSum rfl rfl rfl (by decide +kernel) ⟨by show 7 + d + 1 ≤ 7 + (d + 1); omega, by show 8 + (3 + 11) + (152 + d * 22) ≤ 152 + (d + 1) * 22; omega⟩) (va_recv hK hP (ci := 6) (q0 := 5) rfl rfl) hK hP hD hS hA rfl hl.1 rfl (Nat.le_of_ble_eq_true rfl) dX6_readAsk_70 ⟨Nat.zero_le _, Nat.zero_le _⟩ (fun S_11 H locs hw hP hD hS => ?_)
        refine lv_aload_n hx hb dX6_readAsk_73 rfl (lv_at hl 1 rfl) ?_
        refine lv_iload_n hx hb dX6_readAsk_74 rfl (lv_at hl 0 rfl) ?_
        refine lv_iconst (v := 0) hx hb dX6_readAsk_75 (by decide) ?_
        refine e_callVv (As := [.int (cx_r_token S_3), .int 0]) (rest := []) clE_stable hs ⟨hx, hb, hml, hown, hts⟩ (cC_X6_emit l D h cy _ _ _ _ hw) (cwV 2 hts gX6_readAsk_X6_emit rfl rfl rfl (by decide +kernel) ⟨by show 1 + 1 ≤ 7 + (d + 1); omega, by show 8 + (3 + 11) + 22 ≤ 152 + (d + 1) * 22; omega⟩) (va_recv hK hP (ci := 6) (q0 := 5) rfl rfl) hK hP hD hS hA rfl hl.1 rfl (Nat.le_of_ble_eq_true rfl) dX6_readAsk_76 ⟨Nat.zero_le _, Nat.zero_le _⟩ (fun S_13 H locs hw hP hD hS => ?_)
        exact W.vret hx hb hr (fun t ht hW => ⟨⟨S_13, rfl, hw, by rw [ht]; exact hP, va_K.moved hW.alike hK, hD⟩, hS.F ht⟩) hS.2.2 dX6_readAsk_79
      · have hw := hc_7f c_7
        clear hc_7t hc_7f
        refine lv_aload_n hx hb dX6_readAsk_59 rfl (lv_at hl 1 rfl) ?_
        refine lv_iconst (v := 1) hx hb dX6_readAsk_60 (by decide) ?_
        refine e_callVv (As := [.int 1]) (rest := []) clE_stable hs ⟨hx, hb, hml, hown, hts⟩ (cC_X6_fail l D h cy _ _ _ hw) (cwV 1 hts gX6_readAsk_X6_fail rfl rfl rfl (by decide +kernel) ⟨by show 0 + 1 ≤ 7 + (d + 1); omega, by show 8 + (2 + 11) + 0 ≤ 152 + (d + 1) * 22; omega⟩) (va_recv hK hP (ci := 6) (q0 := 5) rfl rfl) hK hP hD hS hA rfl hl.1 rfl (Nat.le_of_ble_eq_true rfl) dX6_readAsk_61 ⟨Nat.zero_le _, Nat.zero_le _⟩ (fun S_15 H locs hw hP hD hS => ?_)
        exact W.vret hx hb hr (fun t ht hW => ⟨⟨S_15, rfl, hw, by rw [ht]; exact hP, va_K.moved hW.alike hK, hD⟩, hS.F ht⟩) hS.2.2 dX6_readAsk_64
  · have hw := hc_1t c_1
    clear hc_1t hc_1f
    refine lv_aload_n hx hb dX6_readAsk_9 rfl (lv_at hl 0 rfl) ?_
    refine e_callVi (As := []) (rest := []) clE_stable hs ⟨hx, hb, hml, hown, hts⟩ (cC_X6_opens l D h cy _ _ hw) (cwV 0 hts gX6_readAsk_X6_opens rfl rfl rfl (by decide +kernel) ⟨by show 6 + 1 ≤ 7 + (d + 1); omega, by show 8 + (1 + 11) + 131 ≤ 152 + (d + 1) * 22; omega⟩) (va_recv hK hP (ci := 6) (q0 := 5) rfl rfl) hK hP hD hS hA rfl hl.1 rfl (Nat.le_of_ble_eq_true rfl) dX6_readAsk_10 ⟨Nat.zero_le _, Nat.zero_le _⟩ (fun r_16 S_17 H locs hw hP hD hS => ?_)
    obtain ⟨hc_18t, hc_18f⟩ := hw
    refine lv_if_eq (tgt := 37) hx hb dX6_readAsk_13 (by decide) (fun c_18 => ?_) (fun c_18 => ?_)
    · have hw := hc_18t c_18
      clear hc_18t hc_18f
      exact W.vret hx hb hr (fun t ht hW => ⟨⟨S_17, rfl, hw, by rw [ht]; exact hP, va_K.moved hW.alike hK, hD⟩, hS.F ht⟩) hS.2.2 dX6_readAsk_37
    · have hw := hc_18f c_18
      clear hc_18t hc_18f
      refine lv_aload_n hx hb dX6_readAsk_16 rfl (lv_at hl 0 rfl) ?_
      refine e_callVv (As := []) (rest := []) clE_stable hs ⟨hx, hb, hml, hown, hts⟩ (hR6 _ _ hw) (cwV 0 hts gX6_readAsk_X6_readAsk rfl rfl rfl (by decide +kernel) ⟨by show 7 + d + 1 ≤ 7 + (d + 1); omega, by show 8 + (2 + 11) + (152 + d * 22) ≤ 152 + (d + 1) * 22; omega⟩) (va_recv hK hP (ci := 6) (q0 := 5) rfl rfl) hK hP hD hS hA rfl hl.1 rfl (Nat.le_of_ble_eq_true rfl) dX6_readAsk_17 ⟨Nat.zero_le _, Nat.zero_le _⟩ (fun S_20 H locs hw hP hD hS => ?_)
      refine lv_aload_n hx hb dX6_readAsk_20 rfl (lv_at hl 0 rfl) ?_
      refine lv_bipush (v := 29) hx hb dX6_readAsk_21 (by decide) ?_
      refine lv_iconst (v := 0) hx hb dX6_readAsk_23 (by decide) ?_
      refine e_callVv (As := [.int 29, .int 0]) (rest := []) clE_stable hs ⟨hx, hb, hml, hown, hts⟩ (cC_X6_emit l D h cy _ _ _ _ hw) (cwV 2 hts gX6_readAsk_X6_emit rfl rfl rfl (by decide +kernel) ⟨by show 1 + 1 ≤ 7 + (d + 1); omega, by show 8 + (3 + 11) + 22 ≤ 152 + (d + 1) * 22; omega⟩) (va_recv hK hP (ci := 6) (q0 := 5) rfl rfl) hK hP hD hS hA rfl hl.1 rfl (Nat.le_of_ble_eq_true rfl) dX6_readAsk_24 ⟨Nat.zero_le _, Nat.zero_le _⟩ (fun S_22 H locs hw hP hD hS => ?_)
      refine lv_aload_n hx hb dX6_readAsk_27 rfl (lv_at hl 0 rfl) ?_
      refine lv_dup hx hb dX6_readAsk_28 rfl ?_
      refine va_get (D := D) (ci := 6) (v := .int (cx_r_open S_22)) (C := RX6) (T := TX6) (N := 16) hx hb hts hin6 hown hK hP 5 rfl rfl 15 (by decide) w50 (fun _ h9 => h9) rfl dX6_readAsk_29 ?_
      refine lv_iconst (v := 1) hx hb dX6_readAsk_32 (by decide) ?_
      refine lv_isub hx hb dX6_readAsk_33 ?_
      refine va_put (D := D) (ci := 6) (v := .int ((cx_r_open S_22) - 1)) (ty := .int) (C := RX6) (T := TX6) (N := 16) hx hb hts hin6 tyX6 tyX6_ok nmX6 hown hK hP hD hS 5 rfl rfl 15 (by decide) w50 (fun _ h9 => h9) rfl (tyX6_ok 15 (by decide)) rfl rfl (Nat.le_of_ble_eq_true rfl) dX6_readAsk_34 (fun H locs hP hD hS => ?_)
      obtain ⟨S_23, eS_23⟩ : ∃ z : CS, z = (cx_set_r_open S_22 ((cx_r_open S_22) - 1)) := ⟨_, rfl⟩
      replace hw := hw S_23 eS_23
      have hP : va_P D vwCl (wC h cy S_23) H := by rw [eS_23, ← wCp_r_open]; exact hP
      have hD : va_D A (wC h cy S_23) := by rw [eS_23, ← wCp_r_open]; exact hD
      exact W.vret hx hb hr (fun t ht hW => ⟨⟨S_23, rfl, hw, by rw [ht]; exact hP, va_K.moved hW.alike hK, hD⟩, hS.F ht⟩) hS.2.2 dX6_readAsk_37
def wC_rd : Nat → Nat → CS → (CS → Prop) → Prop
  | 0, _, _, _ => False
  | d + 1, k, S, post => (if k = 0 then wB_X6_readSum (wC_rd d) S post else (if k = 1 then wB_X6_readProduct (wC_rd d) S post else (if k = 2 then wB_X6_readOne (wC_rd d) S post else (if k = 3 then wB_X6_readChoice (wC_rd d) S post else (if k = 4 then wB_X6_readEither (wC_rd d) S post else (if k = 5 then wB_X6_readBoth (wC_rd d) S post else (if k = 6 then wB_X6_readAsk (wC_rd d) S post else False)))))))
theorem c_wC_rd (l : Launch) (D : va_G) (h : Nat → Nat) (cy : Nat → ClassId) (d : Nat) : (∀ (S : CS) (post : CS → Prop), wC_rd d 0 S post → e_Mv clE l yX6_readSum wsX6_readSum { frames := 7 + d, cells := 0, slots := 0, locals := 152 + d * 22 } D (tyC cy) (wC h cy) [.ref (h 5)] S post) ∧ (∀ (S : CS) (post : CS → Prop), wC_rd d 1 S post → e_Mv clE l yX6_readProduct wsX6_readProduct { frames := 7 + d, cells := 0, slots := 0, locals := 152 + d * 22 } D (tyC cy) (wC h cy) [.ref (h 5)] S post) ∧ (∀ (S : CS) (post : CS → Prop), wC_rd d 2 S post → e_Mv clE l yX6_readOne wsX6_readOne { frames := 7 + d, cells := 0, slots := 0, locals := 152 + d * 22 } D (tyC cy) (wC h cy) [.ref (h 5)] S post) ∧ (∀ (S : CS) (post : CS → Prop), wC_rd d 3 S post → e_Mv clE l yX6_readChoice wsX6_readChoice { frames := 7 + d, cells := 0, slots := 0, locals := 152 + d * 22 } D (tyC cy) (wC h cy) [.ref (h 5)] S post) ∧ (∀ (S : CS) (post : CS → Prop), wC_rd d 4 S post → e_Mv clE l yX6_readEither wsX6_readEither { frames := 7 + d, cells := 0, slots := 0, locals := 152 + d * 22 } D (tyC cy) (wC h cy) [.ref (h 5)] S post) ∧ (∀ (S : CS) (post : CS → Prop), wC_rd d 5 S post → e_Mv clE l yX6_readBoth wsX6_readBoth { frames := 7 + d, cells := 0, slots := 0, locals := 152 + d * 22 } D (tyC cy) (wC h cy) [.ref (h 5)] S post) ∧ (∀ (S : CS) (post : CS → Prop), wC_rd d 6 S post → e_Mv clE l yX6_readAsk wsX6_readAsk { frames := 7 + d, cells := 0, slots := 0, locals := 152 + d * 22 } D (tyC cy) (wC h cy) [.ref (h 5)] S post) := by
  induction d with
  | zero => exact ⟨fun S post hw => False.elim hw, fun S post hw => False.elim hw, fun S post hw => False.elim hw, fun S post hw => False.elim hw, fun S post hw => False.elim hw, fun S post hw => False.elim hw, fun S post hw => False.elim hw⟩
  | succ d ih =>
    obtain ⟨i0, i1, i2, i3, i4, i5, i6⟩ := ih
    exact ⟨fun S post hw => cB_X6_readSum l D h cy d (wC_rd d) i0 i1 i2 i3 i4 i5 i6 S post (by simpa [wC_rd] using hw), fun S post hw => cB_X6_readProduct l D h cy d (wC_rd d) i0 i1 i2 i3 i4 i5 i6 S post (by simpa [wC_rd] using hw), fun S post hw => cB_X6_readOne l D h cy d (wC_rd d) i0 i1 i2 i3 i4 i5 i6 S post (by simpa [wC_rd] using hw), fun S post hw => cB_X6_readChoice l D h cy d (wC_rd d) i0 i1 i2 i3 i4 i5 i6 S post (by simpa [wC_rd] using hw), fun S post hw => cB_X6_readEither l D h cy d (wC_rd d) i0 i1 i2 i3 i4 i5 i6 S post (by simpa [wC_rd] using hw), fun S post hw => cB_X6_readBoth l D h cy d (wC_rd d) i0 i1 i2 i3 i4 i5 i6 S post (by simpa [wC_rd] using hw), fun S post hw => cB_X6_readAsk l D h cy d (wC_rd d) i0 i1 i2 i3 i4 i5 i6 S post (by simpa [wC_rd] using hw)⟩
def wC_X6_readSum (S : CS) (post : CS → Prop) : Prop := wC_rd 64 0 S post
theorem cC_X6_readSum (l : Launch) (D : va_G) (h : Nat → Nat) (cy : Nat → ClassId) (S : CS) (post : CS → Prop) (hw : wC_X6_readSum S post) : e_Mv clE l yX6_readSum wsX6_readSum { frames := 71, cells := 0, slots := 0, locals := 1560 } D (tyC cy) (wC h cy) [.ref (h 5)] S post := (c_wC_rd l D h cy 64).1 S post hw
def wC_X6_readProduct (S : CS) (post : CS → Prop) : Prop := wC_rd 64 1 S post
theorem cC_X6_readProduct (l : Launch) (D : va_G) (h : Nat → Nat) (cy : Nat → ClassId) (S : CS) (post : CS → Prop) (hw : wC_X6_readProduct S post) : e_Mv clE l yX6_readProduct wsX6_readProduct { frames := 71, cells := 0, slots := 0, locals := 1560 } D (tyC cy) (wC h cy) [.ref (h 5)] S post := (c_wC_rd l D h cy 64).2.1 S post hw
def wC_X6_readOne (S : CS) (post : CS → Prop) : Prop := wC_rd 64 2 S post
theorem cC_X6_readOne (l : Launch) (D : va_G) (h : Nat → Nat) (cy : Nat → ClassId) (S : CS) (post : CS → Prop) (hw : wC_X6_readOne S post) : e_Mv clE l yX6_readOne wsX6_readOne { frames := 71, cells := 0, slots := 0, locals := 1560 } D (tyC cy) (wC h cy) [.ref (h 5)] S post := (c_wC_rd l D h cy 64).2.2.1 S post hw
def wC_X6_readChoice (S : CS) (post : CS → Prop) : Prop := wC_rd 64 3 S post
theorem cC_X6_readChoice (l : Launch) (D : va_G) (h : Nat → Nat) (cy : Nat → ClassId) (S : CS) (post : CS → Prop) (hw : wC_X6_readChoice S post) : e_Mv clE l yX6_readChoice wsX6_readChoice { frames := 71, cells := 0, slots := 0, locals := 1560 } D (tyC cy) (wC h cy) [.ref (h 5)] S post := (c_wC_rd l D h cy 64).2.2.2.1 S post hw
def wC_X6_readEither (S : CS) (post : CS → Prop) : Prop := wC_rd 64 4 S post
theorem cC_X6_readEither (l : Launch) (D : va_G) (h : Nat → Nat) (cy : Nat → ClassId) (S : CS) (post : CS → Prop) (hw : wC_X6_readEither S post) : e_Mv clE l yX6_readEither wsX6_readEither { frames := 71, cells := 0, slots := 0, locals := 1560 } D (tyC cy) (wC h cy) [.ref (h 5)] S post := (c_wC_rd l D h cy 64).2.2.2.2.1 S post hw
def wC_X6_readBoth (S : CS) (post : CS → Prop) : Prop := wC_rd 64 5 S post
theorem cC_X6_readBoth (l : Launch) (D : va_G) (h : Nat → Nat) (cy : Nat → ClassId) (S : CS) (post : CS → Prop) (hw : wC_X6_readBoth S post) : e_Mv clE l yX6_readBoth wsX6_readBoth { frames := 71, cells := 0, slots := 0, locals := 1560 } D (tyC cy) (wC h cy) [.ref (h 5)] S post := (c_wC_rd l D h cy 64).2.2.2.2.2.1 S post hw
def wC_X6_readAsk (S : CS) (post : CS → Prop) : Prop := wC_rd 64 6 S post
theorem cC_X6_readAsk (l : Launch) (D : va_G) (h : Nat → Nat) (cy : Nat → ClassId) (S : CS) (post : CS → Prop) (hw : wC_X6_readAsk S post) : e_Mv clE l yX6_readAsk wsX6_readAsk { frames := 71, cells := 0, slots := 0, locals := 1560 } D (tyC cy) (wC h cy) [.ref (h 5)] S post := (c_wC_rd l D h cy 64).2.2.2.2.2.2 S post hw
def wC_X6_readClause_149 (post : CS → Prop) (S : CS) : Prop := wC_X6_expect 45 S (fun S_2 => (∀ S_3 : CS, S_3 = (cx_set_r_clauseCount S_2 ((cx_r_clauseCount S_2) + 1)) → post S_3))
def wC_X6_readClause_53 (post : CS → Prop) (x1 : Int32) (S : CS) : Prop := (((cx_r_clauseCount S) < 24 → (∀ S_2 : CS, S_2 = (cx_set_r_clauses S (k_put 96 (cx_r_clauses S) ((cx_r_clauseCount S) * 4) x1)) → wC_X6_advance S_2 (fun S_4 => wC_X6_isLaw x1 S_4 (fun r_5 S_6 => ((r_5 = 0 → wC_X6_readDeed x1 S_6 (fun S_9 => wC_X6_readClause_149 post S_9)) ∧ (¬ (r_5 = 0) → (∀ S_10 : CS, S_10 = (cx_set_r_law S_6 x1) → (∀ S_11 : CS, S_11 = (cx_set_r_bounds S_10 (k_put 6 (cx_r_bounds S_10) ((x1 - 12) * 2) (cx_r_codeLength S_10))) → wC_X6_readSum S_11 (fun S_13 => (∀ S_14 : CS, S_14 = (cx_set_r_bounds S_13 (k_put 6 (cx_r_bounds S_13) (((x1 - 12) * 2) + 1) (cx_r_codeLength S_13))) → wC_X6_readClause_149 post S_14)))))))))) ∧ (¬ ((cx_r_clauseCount S) < 24) → wC_X6_fail 6 S (fun S_16 => post S_16)))
def wC_X6_readClause (S : CS) (post : CS → Prop) : Prop := wC_X6_beginsClause (cx_r_token S) S (fun r_1 S_2 => ((r_1 = 0 → wC_X6_fail 1 S_2 (fun S_11 => post S_11)) ∧ (¬ (r_1 = 0) → wC_X6_isLaw (cx_r_token S) S_2 (fun r_4 S_5 => ((r_4 = 0 → wC_X6_readClause_53 post (cx_r_token S) S_5) ∧ (¬ (r_4 = 0) → (((k_at 6 (cx_r_bounds S_5) ((((cx_r_token S) - 12) * 2) + 1)) ≤ 0 → wC_X6_readClause_53 post (cx_r_token S) S_5) ∧ (¬ ((k_at 6 (cx_r_bounds S_5) ((((cx_r_token S) - 12) * 2) + 1)) ≤ 0) → wC_X6_fail 4 S_5 (fun S_9 => post S_9)))))))))
set_option maxHeartbeats 4000000 in
set_option maxRecDepth 100000 in
theorem cC_X6_readClause (l : Launch) (D : va_G) (h : Nat → Nat) (cy : Nat → ClassId) (S : CS) (post : CS → Prop) (hw : wC_X6_readClause S post) : e_Mv clE l yX6_readClause wsX6_readClause { frames := 72, cells := 0, slots := 0, locals := 1582 } D (tyC cy) (wC h cy) [.ref (h 5)] S post := by
  intro sz
  refine Met.ofW (cc := cX6_readClause) (maxL := 2) (ret := none) (by decide) rfl ?_
  intro p e s m args below meth c s₁ B hml hv
  obtain ⟨rfl, hsz, hP, hK, hD0, hs⟩ := hv
  have hx := B.exec
  have hb := B.bytes
  have hr := B.returns
  have hts := atoms_spec (ws := wsX6_readClause) B.pre
  have hown : s.vm.findClass RX6 = some m.cls := findClass_of_methodNamed B.named
  have hlocks := B.notSynchronized
  subst hsz
  have hD := hD0.self (sz := s.heap.size)
  generalize hAe : va_A (wC h cy S) s.heap.size = A at hD hs ⊢
  have hA : ∀ q : Nat, s.heap.size ≤ q → A q := fun q h => by rw [← hAe]; exact Or.inr h
  have hS : va_S A s.heap s.heap [] := va_S.rf
  have hin6 : ∀ w ∈ wsX60, w ∈ wsX6_readClause := fun _ h => List.mem_cons_of_mem _ (List.mem_append_right _ h)
  have w104 := hts (.fieldLink RX6 104 "ClownsMourn$Reader" "law" "I") (List.mem_of_getElem? (i := 5) rfl)
  have w25 := hts (.fieldLink RX6 25 "ClownsMourn$Reader" "clauses" "[I") (List.mem_of_getElem? (i := 4) rfl)
  have w31 := hts (.fieldLink RX6 31 "ClownsMourn$Reader" "bounds" "[I") (List.mem_of_getElem? (i := 2) rfl)
  have w44 := hts (.fieldLink RX6 44 "ClownsMourn$Reader" "clauseCount" "I") (List.mem_of_getElem? (i := 3) rfl)
  have w47 := hts (.fieldLink RX6 47 "ClownsMourn$Reader" "codeLength" "I") (List.mem_of_getElem? (i := 6) rfl)
  have w62 := hts (.fieldLink RX6 62 "ClownsMourn$Reader" "token" "I") (List.mem_of_getElem? (i := 1) rfl)
  have wiX11 := hts (.initialized RX11) (List.mem_of_getElem? (i := 20) rfl)
  have wstat := hts (.static yX11_at) (List.mem_of_getElem? (i := 19) rfl)
  have wstput := hts (.static yX11_put) (List.mem_of_getElem? (i := 22) rfl)
  have hl := lv_entry ([.ref (h 5)]) (n := 2) (Nat.le_of_ble_eq_true rfl)
  rw [lg_entry_eq]
  generalize (lg_sl ([.ref (h 5)]) ++ List.replicate (2 - (lg_sl ([.ref (h 5)])).length) Slot.unset).toArray = ls at hl ⊢
  have hl : lv_has ls 2 [(0, .ref (h 5))] := hl
  unfold wC_X6_readClause at hw
  clear hD0
  have J_149 : ∀ (S : CS) (H : Heap) (locs : List Loc) (ls : Array Slot), wC_X6_readClause_149 post S → va_P D vwCl (wC h cy S) H → va_D A (wC h cy S) → va_S A s.heap H locs → lv_has ls 2 [(0, .ref (h 5))] → W p l e (headSpec wsX6_readClause { frames := 72, cells := 0, slots := 0, locals := 1582 }).room s m (([.ref (h 5)] : List Value).toArray) below meth c H locs 0 0 (MQ below (va_Qv post (k_Post D (tyC cy) (wC h cy) A) A) (([.ref (h 5)] : List Value).toArray) s 0 0 A) (F0 m 149 ls []) := by
    intro S H locs ls hw hP hD hS hl
    unfold wC_X6_readClause_149 at hw
    refine lv_aload_n hx hb dX6_readClause_149 rfl (lv_at hl 0 rfl) ?_
    refine lv_bipush (v := 45) hx hb dX6_readClause_150 (by decide) ?_
    refine e_callVv (As := [.int 45]) (rest := []) clE_stable hs ⟨hx, hb, hml, hown, hts⟩ (cC_X6_expect l D h cy _ _ _ hw) (cwV 1 hts gX6_readClause_X6_expect rfl rfl rfl (by decide +kernel) ⟨Nat.le_of_ble_eq_true rfl, Nat.le_of_ble_eq_true rfl⟩) (va_recv hK hP (ci := 6) (q0 := 5) rfl rfl) hK hP hD hS hA rfl hl.1 rfl (Nat.le_of_ble_eq_true rfl) dX6_readClause_152 ⟨Nat.zero_le _, Nat.zero_le _⟩ (fun S_2 H locs hw hP hD hS => ?_)
    refine lv_aload_n hx hb dX6_readClause_155 rfl (lv_at hl 0 rfl) ?_
    refine lv_dup hx hb dX6_readClause_156 rfl ?_
    refine va_get (D := D) (ci := 6) (v := .int (cx_r_clauseCount S_2)) (C := RX6) (T := TX6) (N := 16) hx hb hts hin6 hown hK hP 5 rfl rfl 7 (by decide) w44 (fun _ h9 => h9) rfl dX6_readClause_157 ?_
    refine lv_iconst (v := 1) hx hb dX6_readClause_160 (by decide) ?_
    refine lv_iadd hx hb dX6_readClause_161 ?_
    refine va_put (D := D) (ci := 6) (v := .int ((cx_r_clauseCount S_2) + 1)) (ty := .int) (C := RX6) (T := TX6) (N := 16) hx hb hts hin6 tyX6 tyX6_ok nmX6 hown hK hP hD hS 5 rfl rfl 7 (by decide) w44 (fun _ h9 => h9) rfl (tyX6_ok 7 (by decide)) rfl rfl (Nat.le_of_ble_eq_true rfl) dX6_readClause_162 (fun H locs hP hD hS => ?_)
    obtain ⟨S_3, eS_3⟩ : ∃ z : CS, z = (cx_set_r_clauseCount S_2 ((cx_r_clauseCount S_2) + 1)) := ⟨_, rfl⟩
    replace hw := hw S_3 eS_3
    have hP : va_P D vwCl (wC h cy S_3) H := by rw [eS_3, ← wCp_r_clauseCount]; exact hP
    have hD : va_D A (wC h cy S_3) := by rw [eS_3, ← wCp_r_clauseCount]; exact hD
    exact W.vret hx hb hr (fun t ht hW => ⟨⟨S_3, rfl, hw, by rw [ht]; exact hP, va_K.moved hW.alike hK, hD⟩, hS.F ht⟩) hS.2.2 dX6_readClause_165
  have J_53 : ∀ (x1 : Int32) (S : CS) (H : Heap) (locs : List Loc) (ls : Array Slot), wC_X6_readClause_53 post x1 S → va_P D vwCl (wC h cy S) H → va_D A (wC h cy S) → va_S A s.heap H locs → lv_has ls 2 [(0, .ref (h 5)), (1, .int x1)] → W p l e (headSpec wsX6_readClause { frames := 72, cells := 0, slots := 0, locals := 1582 }).room s m (([.ref (h 5)] : List Value).toArray) below meth c H locs 0 0 (MQ below (va_Qv post (k_Post D (tyC cy) (wC h cy) A) A) (([.ref (h 5)] : List Value).toArray) s 0 0 A) (F0 m 53 ls []) := by
    intro x1 S H locs ls hw hP hD hS hl
    unfold wC_X6_readClause_53 at hw
    refine lv_aload_n hx hb dX6_readClause_53 rfl (lv_at hl 0 rfl) ?_
    refine va_get (D := D) (ci := 6) (v := .int (cx_r_clauseCount S)) (C := RX6) (T := TX6) (N := 16) hx hb hts hin6 hown hK hP 5 rfl rfl 7 (by decide) w44 (fun _ h9 => h9) rfl dX6_readClause_54 ?_
    refine lv_bipush (v := 24) hx hb dX6_readClause_57 (by decide) ?_
    obtain ⟨hc_4t, hc_4f⟩ := hw
    refine lv_icmp_lt (tgt := 71) hx hb dX6_readClause_59 (by decide) (fun c_4 => ?_) (fun c_4 => ?_)
    · have hw := hc_4t c_4
      clear hc_4t hc_4f
      refine lv_aload_n hx hb dX6_readClause_71 rfl (lv_at hl 0 rfl) ?_
      refine va_get (D := D) (ci := 6) (v := .ref (h 37)) (C := RX6) (T := TX6) (N := 16) hx hb hts hin6 hown hK hP 5 rfl rfl 4 (by decide) w25 (fun _ h9 => h9) rfl dX6_readClause_72 ?_
      refine lv_aload_n hx hb dX6_readClause_75 rfl (lv_at hl 0 rfl) ?_
      refine va_get (D := D) (ci := 6) (v := .int (cx_r_clauseCount S)) (C := RX6) (T := TX6) (N := 16) hx hb hts hin6 hown hK hP 5 rfl rfl 7 (by decide) w44 (fun _ h9 => h9) rfl dX6_readClause_76 ?_
      refine lv_iconst (v := 4) hx hb dX6_readClause_79 (by decide) ?_
      refine lv_imul hx hb dX6_readClause_80 ?_
      refine lv_iload_n hx hb dX6_readClause_81 rfl (lv_at hl 1 rfl) ?_
      refine e_callNv (As := [.ref (h 37), .int ((cx_r_clauseCount S) * 4), .int x1]) (rest := []) clE_stable hs ⟨hx, hb, hml, hown, hts⟩ (cA_put l D clE (tyC cy) (wC h cy) cx_r_clauses cx_set_r_clauses S 37 25 _ _ 96 rfl (wCs_r_clauses h cy S) rfl (by decide) _ _ (fun S0 => S0 = (cx_set_r_clauses S (k_put 96 (cx_r_clauses S) ((cx_r_clauseCount S) * 4) x1))) rfl) ⟨va_cnB 3 hts gX6_readClause_X11_put_n34 rfl rfl rfl hs.1.2.2.2.2.2.2.2.1 wiX11 (by decide +kernel) ⟨Nat.le_of_ble_eq_true rfl, Nat.le_of_ble_eq_true rfl⟩, wstput, trivial⟩ hK hP hD hS hA rfl hl.1 rfl (Nat.le_of_ble_eq_true rfl) dX6_readClause_82 ⟨Nat.zero_le _, Nat.zero_le _⟩ (fun S_5 H locs eS_5 hP hD hS => ?_)
      replace hw := hw S_5 eS_5
      refine lv_aload_n hx hb dX6_readClause_85 rfl (lv_at hl 0 rfl) ?_
      refine e_callVv (As := []) (rest := []) clE_stable hs ⟨hx, hb, hml, hown, hts⟩ (cC_X6_advance l D h cy _ _ hw) (cwV 0 hts gX6_readClause_X6_advance rfl rfl rfl (by decide +kernel) ⟨Nat.le_of_ble_eq_true rfl, Nat.le_of_ble_eq_true rfl⟩) (va_recv hK hP (ci := 6) (q0 := 5) rfl rfl) hK hP hD hS hA rfl hl.1 rfl (Nat.le_of_ble_eq_true rfl) dX6_readClause_86 ⟨Nat.zero_le _, Nat.zero_le _⟩ (fun S_7 H locs hw hP hD hS => ?_)
      refine lv_iload_n hx hb dX6_readClause_89 rfl (lv_at hl 1 rfl) ?_
      refine e_callSi (As := [.int x1]) (rest := []) clE_stable hs ⟨hx, hb, hml, hown, hts⟩ (cC_X6_isLaw l D h cy _ _ _ hw) (va_cwS 1 hts gX6_readClause_X6_isLaw rfl rfl rfl (by decide +kernel) ⟨Nat.le_of_ble_eq_true rfl, Nat.le_of_ble_eq_true rfl⟩) hK hP hD hS hA rfl hl.1 rfl (Nat.le_of_ble_eq_true rfl) dX6_readClause_90 ⟨Nat.zero_le _, Nat.zero_le _⟩ (fun r_8 S_9 H locs hw hP hD hS => ?_)
      obtain ⟨hc_10t, hc_10f⟩ := hw
      refine lv_if_eq (tgt := 144) hx hb dX6_readClause_93 (by decide) (fun c_10 => ?_) (fun c_10 => ?_)
      · have hw := hc_10t c_10
        clear hc_10t hc_10f
        refine lv_aload_n hx hb dX6_readClause_144 rfl (lv_at hl 0 rfl) ?_
        refine lv_iload_n hx hb dX6_readClause_145 rfl (lv_at hl 1 rfl) ?_
        refine e_callVv (As := [.int x1]) (rest := []) clE_stable hs ⟨hx, hb, hml, hown, hts⟩ (cC_X6_readDeed l D h cy _ _ _ hw) (cwV 1 hts gX6_readClause_X6_readDeed rfl rfl rfl (by decide +kernel) ⟨Nat.le_of_ble_eq_true rfl, Nat.le_of_ble_eq_true rfl⟩) (va_recv hK hP (ci := 6) (q0 := 5) rfl rfl) hK hP hD hS hA rfl hl.1 rfl (Nat.le_of_ble_eq_true rfl) dX6_readClause_146 ⟨Nat.zero_le _, Nat.zero_le _⟩ (fun S_12 H locs hw hP hD hS => ?_)
        exact J_149 S_12 _ _ _ hw hP hD hS (lv_sub hl [0] rfl)
      · have hw := hc_10f c_10
        clear hc_10t hc_10f
        refine lv_aload_n hx hb dX6_readClause_96 rfl (lv_at hl 0 rfl) ?_
        refine lv_iload_n hx hb dX6_readClause_97 rfl (lv_at hl 1 rfl) ?_
        refine va_put (D := D) (ci := 6) (v := .int x1) (ty := .int) (C := RX6) (T := TX6) (N := 16) hx hb hts hin6 tyX6 tyX6_ok nmX6 hown hK hP hD hS 5 rfl rfl 14 (by decide) w104 (fun _ h9 => h9) rfl (tyX6_ok 14 (by decide)) rfl rfl (Nat.le_of_ble_eq_true rfl) dX6_readClause_98 (fun H locs hP hD hS => ?_)
        obtain ⟨S_13, eS_13⟩ : ∃ z : CS, z = (cx_set_r_law S_9 x1) := ⟨_, rfl⟩
        replace hw := hw S_13 eS_13
        have hP : va_P D vwCl (wC h cy S_13) H := by rw [eS_13, ← wCp_r_law]; exact hP
        have hD : va_D A (wC h cy S_13) := by rw [eS_13, ← wCp_r_law]; exact hD
        refine lv_aload_n hx hb dX6_readClause_101 rfl (lv_at hl 0 rfl) ?_
        refine va_get (D := D) (ci := 6) (v := .ref (h 39)) (C := RX6) (T := TX6) (N := 16) hx hb hts hin6 hown hK hP 5 rfl rfl 6 (by decide) w31 (fun _ h9 => h9) rfl dX6_readClause_102 ?_
        refine lv_iload_n hx hb dX6_readClause_105 rfl (lv_at hl 1 rfl) ?_
        refine lv_bipush (v := 12) hx hb dX6_readClause_106 (by decide) ?_
        refine lv_isub hx hb dX6_readClause_108 ?_
        refine lv_iconst (v := 2) hx hb dX6_readClause_109 (by decide) ?_
        refine lv_imul hx hb dX6_readClause_110 ?_
        refine lv_aload_n hx hb dX6_readClause_111 rfl (lv_at hl 0 rfl) ?_
        refine va_get (D := D) (ci := 6) (v := .int (cx_r_codeLength S_13)) (C := RX6) (T := TX6) (N := 16) hx hb hts hin6 hown hK hP 5 rfl rfl 8 (by decide) w47 (fun _ h9 => h9) rfl dX6_readClause_112 ?_
        refine e_callNv (As := [.ref (h 39), .int ((x1 - 12) * 2), .int (cx_r_codeLength S_13)]) (rest := []) clE_stable hs ⟨hx, hb, hml, hown, hts⟩ (cA_put l D clE (tyC cy) (wC h cy) cx_r_bounds cx_set_r_bounds S_13 39 27 _ _ 6 rfl (wCs_r_bounds h cy S_13) rfl (by decide) _ _ (fun S0 => S0 = (cx_set_r_bounds S_13 (k_put 6 (cx_r_bounds S_13) ((x1 - 12) * 2) (cx_r_codeLength S_13)))) rfl) ⟨va_cnB 3 hts gX6_readClause_X11_put_n34 rfl rfl rfl hs.1.2.2.2.2.2.2.2.1 wiX11 (by decide +kernel) ⟨Nat.le_of_ble_eq_true rfl, Nat.le_of_ble_eq_true rfl⟩, wstput, trivial⟩ hK hP hD hS hA rfl hl.1 rfl (Nat.le_of_ble_eq_true rfl) dX6_readClause_115 ⟨Nat.zero_le _, Nat.zero_le _⟩ (fun S_14 H locs eS_14 hP hD hS => ?_)
        replace hw := hw S_14 eS_14
        refine lv_aload_n hx hb dX6_readClause_118 rfl (lv_at hl 0 rfl) ?_
        refine e_callVv (As := []) (rest := []) clE_stable hs ⟨hx, hb, hml, hown, hts⟩ (cC_X6_readSum l D h cy _ _ hw) (cwV 0 hts gX6_readClause_X6_readSum rfl rfl rfl (by decide +kernel) ⟨Nat.le_of_ble_eq_true rfl, Nat.le_of_ble_eq_true rfl⟩) (va_recv hK hP (ci := 6) (q0 := 5) rfl rfl) hK hP hD hS hA rfl hl.1 rfl (Nat.le_of_ble_eq_true rfl) dX6_readClause_119 ⟨Nat.zero_le _, Nat.zero_le _⟩ (fun S_16 H locs hw hP hD hS => ?_)
        refine lv_aload_n hx hb dX6_readClause_122 rfl (lv_at hl 0 rfl) ?_
        refine va_get (D := D) (ci := 6) (v := .ref (h 39)) (C := RX6) (T := TX6) (N := 16) hx hb hts hin6 hown hK hP 5 rfl rfl 6 (by decide) w31 (fun _ h9 => h9) rfl dX6_readClause_123 ?_
        refine lv_iload_n hx hb dX6_readClause_126 rfl (lv_at hl 1 rfl) ?_
        refine lv_bipush (v := 12) hx hb dX6_readClause_127 (by decide) ?_
        refine lv_isub hx hb dX6_readClause_129 ?_
        refine lv_iconst (v := 2) hx hb dX6_readClause_130 (by decide) ?_
        refine lv_imul hx hb dX6_readClause_131 ?_
        refine lv_iconst (v := 1) hx hb dX6_readClause_132 (by decide) ?_
        refine lv_iadd hx hb dX6_readClause_133 ?_
        refine lv_aload_n hx hb dX6_readClause_134 rfl (lv_at hl 0 rfl) ?_
        refine va_get (D := D) (ci := 6) (v := .int (cx_r_codeLength S_16)) (C := RX6) (T := TX6) (N := 16) hx hb hts hin6 hown hK hP 5 rfl rfl 8 (by decide) w47 (fun _ h9 => h9) rfl dX6_readClause_135 ?_
        refine e_callNv (As := [.ref (h 39), .int (((x1 - 12) * 2) + 1), .int (cx_r_codeLength S_16)]) (rest := []) clE_stable hs ⟨hx, hb, hml, hown, hts⟩ (cA_put l D clE (tyC cy) (wC h cy) cx_r_bounds cx_set_r_bounds S_16 39 27 _ _ 6 rfl (wCs_r_bounds h cy S_16) rfl (by decide) _ _ (fun S0 => S0 = (cx_set_r_bounds S_16 (k_put 6 (cx_r_bounds S_16) (((x1 - 12) * 2) + 1) (cx_r_codeLength S_16)))) rfl) ⟨va_cnB 3 hts gX6_readClause_X11_put_n34 rfl rfl rfl hs.1.2.2.2.2.2.2.2.1 wiX11 (by decide +kernel) ⟨Nat.le_of_ble_eq_true rfl, Nat.le_of_ble_eq_true rfl⟩, wstput, trivial⟩ hK hP hD hS hA rfl hl.1 rfl (Nat.le_of_ble_eq_true rfl) dX6_readClause_138 ⟨Nat.zero_le _, Nat.zero_le _⟩ (fun S_17 H locs eS_17 hP hD hS => ?_)
        replace hw := hw S_17 eS_17
        refine lv_goto (tgt := 149) hx hb dX6_readClause_141 (by decide) ?_
        exact J_149 S_17 _ _ _ hw hP hD hS (lv_sub hl [0] rfl)
    · have hw := hc_4f c_4
      clear hc_4t hc_4f
      refine lv_aload_n hx hb dX6_readClause_62 rfl (lv_at hl 0 rfl) ?_
      refine lv_bipush (v := 6) hx hb dX6_readClause_63 (by decide) ?_
      refine e_callVv (As := [.int 6]) (rest := []) clE_stable hs ⟨hx, hb, hml, hown, hts⟩ (cC_X6_fail l D h cy _ _ _ hw) (cwV 1 hts gX6_readClause_X6_fail rfl rfl rfl (by decide +kernel) ⟨Nat.le_of_ble_eq_true rfl, Nat.le_of_ble_eq_true rfl⟩) (va_recv hK hP (ci := 6) (q0 := 5) rfl rfl) hK hP hD hS hA rfl hl.1 rfl (Nat.le_of_ble_eq_true rfl) dX6_readClause_65 ⟨Nat.zero_le _, Nat.zero_le _⟩ (fun S_19 H locs hw hP hD hS => ?_)
      refine lv_goto (tgt := 165) hx hb dX6_readClause_68 (by decide) ?_
      exact W.vret hx hb hr (fun t ht hW => ⟨⟨S_19, rfl, hw, by rw [ht]; exact hP, va_K.moved hW.alike hK, hD⟩, hS.F ht⟩) hS.2.2 dX6_readClause_165
  refine lv_aload_n hx hb dX6_readClause_0 rfl (lv_at hl 0 rfl) ?_
  refine va_get (D := D) (ci := 6) (v := .int (cx_r_token S)) (C := RX6) (T := TX6) (N := 16) hx hb hts hin6 hown hK hP 5 rfl rfl 11 (by decide) w62 (fun _ h9 => h9) rfl dX6_readClause_1 ?_
  refine lv_istore_n (lv' := [(1, .int (cx_r_token S)), (0, .ref (h 5))]) hx hb dX6_readClause_4 rfl hl (by decide) rfl (fun ls hl => ?_)
  refine lv_iload_n hx hb dX6_readClause_5 rfl (lv_at hl 0 rfl) ?_
  refine e_callSi (As := [.int (cx_r_token S)]) (rest := []) clE_stable hs ⟨hx, hb, hml, hown, hts⟩ (cC_X6_beginsClause l D h cy _ _ _ hw) (va_cwS 1 hts gX6_readClause_X6_beginsClause rfl rfl rfl (by decide +kernel) ⟨Nat.le_of_ble_eq_true rfl, Nat.le_of_ble_eq_true rfl⟩) hK hP hD hS hA rfl hl.1 rfl (Nat.le_of_ble_eq_true rfl) dX6_readClause_6 ⟨Nat.zero_le _, Nat.zero_le _⟩ (fun r_20 S_21 H locs hw hP hD hS => ?_)
  obtain ⟨hc_22t, hc_22f⟩ := hw
  refine lv_if_ne (tgt := 20) hx hb dX6_readClause_9 (by decide) (fun c_22 => ?_) (fun c_22 => ?_)
  · have hw := hc_22f c_22
    clear hc_22t hc_22f
    refine lv_iload_n hx hb dX6_readClause_20 rfl (lv_at hl 0 rfl) ?_
    refine e_callSi (As := [.int (cx_r_token S)]) (rest := []) clE_stable hs ⟨hx, hb, hml, hown, hts⟩ (cC_X6_isLaw l D h cy _ _ _ hw) (va_cwS 1 hts gX6_readClause_X6_isLaw rfl rfl rfl (by decide +kernel) ⟨Nat.le_of_ble_eq_true rfl, Nat.le_of_ble_eq_true rfl⟩) hK hP hD hS hA rfl hl.1 rfl (Nat.le_of_ble_eq_true rfl) dX6_readClause_21 ⟨Nat.zero_le _, Nat.zero_le _⟩ (fun r_23 S_24 H locs hw hP hD hS => ?_)
    obtain ⟨hc_25t, hc_25f⟩ := hw
    refine lv_if_eq (tgt := 53) hx hb dX6_readClause_24 (by decide) (fun c_25 => ?_) (fun c_25 => ?_)
    · have hw := hc_25t c_25
      clear hc_25t hc_25f
      exact J_53 (cx_r_token S) S_24 _ _ _ hw hP hD hS (lv_sub hl [1, 0] rfl)
    · have hw := hc_25f c_25
      clear hc_25t hc_25f
      refine lv_aload_n hx hb dX6_readClause_27 rfl (lv_at hl 1 rfl) ?_
      refine va_get (D := D) (ci := 6) (v := .ref (h 39)) (C := RX6) (T := TX6) (N := 16) hx hb hts hin6 hown hK hP 5 rfl rfl 6 (by decide) w31 (fun _ h9 => h9) rfl dX6_readClause_28 ?_
      refine lv_iload_n hx hb dX6_readClause_31 rfl (lv_at hl 0 rfl) ?_
      refine lv_bipush (v := 12) hx hb dX6_readClause_32 (by decide) ?_
      refine lv_isub hx hb dX6_readClause_34 ?_
      refine lv_iconst (v := 2) hx hb dX6_readClause_35 (by decide) ?_
      refine lv_imul hx hb dX6_readClause_36 ?_
      refine lv_iconst (v := 1) hx hb dX6_readClause_37 (by decide) ?_
      refine lv_iadd hx hb dX6_readClause_38 ?_
      refine e_callNi (As := [.ref (h 39), .int ((((cx_r_token S) - 12) * 2) + 1)]) (rest := []) clE_stable hs ⟨hx, hb, hml, hown, hts⟩ (cA_at l D clE (tyC cy) (wC h cy) S_24 39 27 _ _ 6 (cx_r_bounds S_24) rfl rfl (by decide) _ (fun r S0 => r = k_at 6 (cx_r_bounds S_24) ((((cx_r_token S) - 12) * 2) + 1) ∧ S_24 = S0) ⟨rfl, rfl⟩) ⟨va_cnB 2 hts gX6_readClause_X11_at_n100 rfl rfl rfl hs.1.2.2.2.2.2.2.2.2.1 wiX11 (by decide +kernel) ⟨Nat.le_of_ble_eq_true rfl, Nat.le_of_ble_eq_true rfl⟩, wstat, trivial⟩ hK hP hD hS hA rfl hl.1 rfl (Nat.le_of_ble_eq_true rfl) dX6_readClause_39 ⟨Nat.zero_le _, Nat.zero_le _⟩ (fun r_ S_ H locs hq hP hD hS => ?_)
      obtain ⟨rfl, rfl⟩ := hq
      obtain ⟨hc_26t, hc_26f⟩ := hw
      refine lv_if_le (tgt := 53) hx hb dX6_readClause_42 (by decide) (fun c_26 => ?_) (fun c_26 => ?_)
      · have hw := hc_26t c_26
        clear hc_26t hc_26f
        exact J_53 (cx_r_token S) S_24 _ _ _ hw hP hD hS (lv_sub hl [1, 0] rfl)
      · have hw := hc_26f c_26
        clear hc_26t hc_26f
        refine lv_aload_n hx hb dX6_readClause_45 rfl (lv_at hl 1 rfl) ?_
        refine lv_iconst (v := 4) hx hb dX6_readClause_46 (by decide) ?_
        refine e_callVv (As := [.int 4]) (rest := []) clE_stable hs ⟨hx, hb, hml, hown, hts⟩ (cC_X6_fail l D h cy _ _ _ hw) (cwV 1 hts gX6_readClause_X6_fail rfl rfl rfl (by decide +kernel) ⟨Nat.le_of_ble_eq_true rfl, Nat.le_of_ble_eq_true rfl⟩) (va_recv hK hP (ci := 6) (q0 := 5) rfl rfl) hK hP hD hS hA rfl hl.1 rfl (Nat.le_of_ble_eq_true rfl) dX6_readClause_47 ⟨Nat.zero_le _, Nat.zero_le _⟩ (fun S_28 H locs hw hP hD hS => ?_)
        refine lv_goto (tgt := 165) hx hb dX6_readClause_50 (by decide) ?_
        exact W.vret hx hb hr (fun t ht hW => ⟨⟨S_28, rfl, hw, by rw [ht]; exact hP, va_K.moved hW.alike hK, hD⟩, hS.F ht⟩) hS.2.2 dX6_readClause_165
  · have hw := hc_22t c_22
    clear hc_22t hc_22f
    refine lv_aload_n hx hb dX6_readClause_12 rfl (lv_at hl 1 rfl) ?_
    refine lv_iconst (v := 1) hx hb dX6_readClause_13 (by decide) ?_
    refine e_callVv (As := [.int 1]) (rest := []) clE_stable hs ⟨hx, hb, hml, hown, hts⟩ (cC_X6_fail l D h cy _ _ _ hw) (cwV 1 hts gX6_readClause_X6_fail rfl rfl rfl (by decide +kernel) ⟨Nat.le_of_ble_eq_true rfl, Nat.le_of_ble_eq_true rfl⟩) (va_recv hK hP (ci := 6) (q0 := 5) rfl rfl) hK hP hD hS hA rfl hl.1 rfl (Nat.le_of_ble_eq_true rfl) dX6_readClause_14 ⟨Nat.zero_le _, Nat.zero_le _⟩ (fun S_30 H locs hw hP hD hS => ?_)
    refine lv_goto (tgt := 165) hx hb dX6_readClause_17 (by decide) ?_
    exact W.vret hx hb hr (fun t ht hW => ⟨⟨S_30, rfl, hw, by rw [ht]; exact hP, va_K.moved hW.alike hK, hD⟩, hS.F ht⟩) hS.2.2 dX6_readClause_165
