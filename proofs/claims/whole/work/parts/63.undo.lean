/-! PURE LAYER: undo, both sides; send, rest -/
def cpI (s t i : Nat) : Prop := (i < 24 ∧ i % 6 < s) ∨ (24 ≤ i ∧ i < 39 ∧ (i - 24) % 5 < t) ∨ (39 ≤ i ∧ i < 72)
theorem cpy_in {f g : Nat → Int32} {sp dp n k : Nat} (h : dp ≤ k ∧ k < dp + n) : va_cpy f g sp dp n k = f (sp + (k - dp)) := if_pos h
theorem cpy_out {f g : Nat → Int32} {sp dp n k : Nat} (h : k < dp ∨ dp + n ≤ k) : va_cpy f g sp dp n k = g k := if_neg (by omega)
/-- what is taken back of the class's row -/
def tbN (rows now : Nat → Int32) (st s t : Nat) : Nat → Int32 := va_cpy rows (va_cpy rows (va_cpy rows (va_cpy rows (va_cpy rows (va_cpy rows (va_cpy rows (va_cpy rows now (st + 0) 0 s) (st + 6) 6 s) (st + 12) 12 s) (st + 18) 18 s) (st + 24) 24 t) (st + 29) 29 t) (st + 34) 34 t) (st + 39) 39 33
theorem tbN_at (rows now : Nat → Int32) (st : Nat) {s t : Nat} (hs : s ≤ 6) (ht : t ≤ 5) (i : Nat) (hi : i < 74) : (cpI s t i → tbN rows now st s t i = rows (st + i)) ∧ (¬ cpI s t i → tbN rows now st s t i = now i) := by
  unfold tbN cpI
  by_cases c8 : 39 ≤ i ∧ i < 72
  · rw [cpy_in (by omega)]
    exact ⟨fun _ => by congr 1; omega, fun n => absurd (Or.inr (Or.inr c8)) n⟩
  rw [cpy_out (by omega)]
  by_cases c7 : 34 ≤ i ∧ i < 34 + t
  · rw [cpy_in (by omega)]
    exact ⟨fun _ => by congr 1; omega, fun n => absurd (Or.inr (Or.inl (by omega))) n⟩
  rw [cpy_out (by omega)]
  by_cases c6 : 29 ≤ i ∧ i < 29 + t
  · rw [cpy_in (by omega)]
    exact ⟨fun _ => by congr 1; omega, fun n => absurd (Or.inr (Or.inl (by omega))) n⟩
  rw [cpy_out (by omega)]
  by_cases c5 : 24 ≤ i ∧ i < 24 + t
  · rw [cpy_in (by omega)]
    exact ⟨fun _ => by congr 1; omega, fun n => absurd (Or.inr (Or.inl (by omega))) n⟩
  rw [cpy_out (by omega)]
  by_cases c4 : 18 ≤ i ∧ i < 18 + s
  · rw [cpy_in (by omega)]
    exact ⟨fun _ => by congr 1; omega, fun n => absurd (Or.inl (by omega)) n⟩
  rw [cpy_out (by omega)]
  by_cases c3 : 12 ≤ i ∧ i < 12 + s
  · rw [cpy_in (by omega)]
    exact ⟨fun _ => by congr 1; omega, fun n => absurd (Or.inl (by omega)) n⟩
  rw [cpy_out (by omega)]
  by_cases c2 : 6 ≤ i ∧ i < 6 + s
  · rw [cpy_in (by omega)]
    exact ⟨fun _ => by congr 1; omega, fun n => absurd (Or.inl (by omega)) n⟩
  rw [cpy_out (by omega)]
  by_cases c1 : 0 ≤ i ∧ i < 0 + s
  · rw [cpy_in (by omega)]
    exact ⟨fun _ => rfl, fun n => absurd (Or.inl (by omega)) n⟩
  rw [cpy_out (by omega)]
  exact ⟨fun h => absurd h (by omega), fun _ => rfl⟩
theorem q_copyBack {st part len : Nat} (h1 : st + 74 ≤ 2220) (h2 : part + len ≤ 74) (S : CS) (post : CS → Prop) : wC_X8_copyBack_city_now (nI st) (nI part) (nI len) S post = post (cx_set_c_now S (va_cpy (cx_cs_rows S) (cx_c_now S) (st + part) part len)) := by
  unfold wC_X8_copyBack_city_now
  rw [p_all, nI_add]
  have s1 : nI 2220 - nI (st + part) = nI (2220 - (st + part)) := nI_sub (by omega)
  have s2 : nI 74 - nI part = nI (74 - part) := nI_sub (by omega)
  unfold k_copyP
  rw [if_neg (nI_pos (by omega)), if_neg (nI_pos (by omega)), if_neg (nI_pos (by omega)), s1, s2, if_neg (nI_nlt (by omega) (by omega)), if_neg (nI_nlt (by omega) (by omega)), nI_clamp (by omega), nI_clamp (by omega), nI_clamp (by omega)]
theorem gs_rows_now (S : CS) (v : Nat → Int32) : cx_cs_rows (cx_set_c_now S v) = cx_cs_rows S := by
  simp only [cx_cs_rows, cx_set_c_now]
theorem q_takeBack {S : CS} {p m s t : Nat} (hp : p < 30) (hm : m < 30) (hs : s ≤ 6) (ht : t ≤ 5) (e1 : cx_cs_first S = nI p) (e2 : cx_cs_count S = nI (m + 1)) (e3 : cx_cs_rows S (74 * ((p + m) % 30) + 72) = nI s) (e4 : cx_cs_rows S (74 * ((p + m) % 30) + 73) = nI t) (post : CS → Prop) (h : post (cx_set_c_now (cx_set_cs_count S (nI m)) (tbN (cx_cs_rows S) (cx_c_now S) (74 * ((p + m) % 30)) s t))) : wC_X8_takeBack_city_now S post := by
  have hmm : (p + m) % 30 < 30 := Nat.mod_lt _ (by decide)
  have r30 : k_rem (nI (p + m)) 30 = nI ((p + m) % 30) := p_rem (d := 30) (by omega) (by decide)
  unfold wC_X8_takeBack_city_now wC_X8_startOf
  rw [e2, nI_pred]
  refine p_yes (nI_lt (a := 0) (by omega) (by omega)) ?_
  intro S2 eS
  have f1 : cx_cs_first S2 = nI p := by
    rw [eS, gs_first_count]
    exact e1
  have f2 : cx_cs_count S2 = nI m := by
    rw [eS, gs_count_count]
  have f3 : cx_cs_rows S2 = cx_cs_rows S := by
    rw [eS, gs_rows_count]
  have f4 : cx_c_now S2 = cx_c_now S := by
    rw [eS, gs_now_count]
  rw [f1, f2, nI_add, r30, nI_ml 74 ((p + m) % 30), Nat.mul_comm]
  simp only [f3]
  rw [nI_al 72 (74 * ((p + m) % 30)), nI_al 73 (74 * ((p + m) % 30)), p_at (by decide) _ (show 74 * ((p + m) % 30) + 72 < 2220 by omega), p_at (by decide) _ (show 74 * ((p + m) % 30) + 73 < 2220 by omega), e3, e4]
  have hst : 74 * ((p + m) % 30) + 74 ≤ 2220 := by omega
  have c1 := fun (T : CS) (po : CS → Prop) => q_copyBack (part := 0) (len := s) hst (by omega) T po
  have c2 := fun (T : CS) (po : CS → Prop) => q_copyBack (part := 6) (len := s) hst (by omega) T po
  have c3 := fun (T : CS) (po : CS → Prop) => q_copyBack (part := 12) (len := s) hst (by omega) T po
  have c4 := fun (T : CS) (po : CS → Prop) => q_copyBack (part := 18) (len := s) hst (by omega) T po
  have c5 := fun (T : CS) (po : CS → Prop) => q_copyBack (part := 24) (len := t) hst (by omega) T po
  have c6 := fun (T : CS) (po : CS → Prop) => q_copyBack (part := 29) (len := t) hst (by omega) T po
  have c7 := fun (T : CS) (po : CS → Prop) => q_copyBack (part := 34) (len := t) hst (by omega) T po
  have c8 := fun (T : CS) (po : CS → Prop) => q_copyBack (part := 39) (len := 33) hst (by omega) T po
  have h' : post (cx_set_c_now S2 (tbN (cx_cs_rows S) (cx_c_now S) (74 * ((p + m) % 30)) s t)) := by
    rw [eS]
    exact h
  unfold tbN at h'
  refine (c1 S2 _).mpr ?_
  refine (c2 _ _).mpr ?_
  refine (c3 _ _).mpr ?_
  refine (c4 _ _).mpr ?_
  refine (c5 _ _).mpr ?_
  refine (c6 _ _).mpr ?_
  refine (c7 _ _).mpr ?_
  refine (c8 _ _).mpr ?_
  simp only [gs_rows_now, gs_now_now, s_nn, f3, f4]
  exact h'
/-- what undoing makes of the reference's row -/
def Undone (m s t : Nat) (a a' : Nat → Int32) : Prop := (∀ i, i < 74 → (cpI s t i → a' (ix i) = a (204 + 74 * m + jx i)) ∧ (¬ cpI s t i → a' (ix i) = a (ix i))) ∧ a' 4 = nI m ∧ ∀ k, k ≠ 4 → (∀ i, i < 72 → ix i ≠ k) → a' k = a k
theorem ijx1 : ∀ i, i < 24 → ix i = 10 + 6 * (i % 6) + i / 6 ∧ jx i = 5 + 4 * (i % 6) + i / 6 := by decide +kernel
theorem ijx2 : ∀ i, i < 15 → ix (24 + i) = 46 + 5 * (i % 5) + i / 5 ∧ jx (24 + i) = 29 + 3 * (i % 5) + i / 5 := by decide +kernel
theorem ijx3 : ∀ i, i < 3 → ix (39 + i) = 7 + i ∧ jx (39 + i) = 2 + i := by decide +kernel
theorem ijx4 : ∀ i, i < 30 → ix (42 + i) = 2424 + i ∧ jx (42 + i) = 44 + i := by decide +kernel
theorem ijx5 : ∀ i, i < 2 → ix (72 + i) = i := by decide +kernel
theorem ijx (i : Nat) (hi : i < 74) : (i < 24 → ix i = 10 + 6 * (i % 6) + i / 6 ∧ jx i = 5 + 4 * (i % 6) + i / 6) ∧ (24 ≤ i → i < 39 → ix i = 46 + 5 * ((i - 24) % 5) + (i - 24) / 5 ∧ jx i = 29 + 3 * ((i - 24) % 5) + (i - 24) / 5) ∧ (39 ≤ i → i < 42 → ix i = 7 + (i - 39) ∧ jx i = 2 + (i - 39)) ∧ (42 ≤ i → i < 72 → ix i = 2424 + (i - 42) ∧ jx i = 44 + (i - 42)) ∧ (72 ≤ i → ix i = i - 72) := by
  refine ⟨fun h => ijx1 i h, fun h g => ?_, fun h g => ?_, fun h g => ?_, fun h => ?_⟩
  · have := ijx2 (i - 24) (by omega)
    rw [show 24 + (i - 24) = i by omega] at this
    exact this
  · have := ijx3 (i - 39) (by omega)
    rw [show 39 + (i - 39) = i by omega] at this
    exact this
  · have := ijx4 (i - 42) (by omega)
    rw [show 42 + (i - 42) = i by omega] at this
    exact this
  · have := ijx5 (i - 72) (by omega)
    rw [show 72 + (i - 72) = i by omega] at this
    exact this
theorem m_undo {ms : MS} {m s t H C : Nat} (hm : m < 30) (hs : s ≤ H) (hH : H ≤ 6) (ht : t ≤ C) (hC : C ≤ 5) (e4 : ms_a ms 4 = nI (m + 1)) (es : ms_a ms (204 + 74 * m) = nI s) (et : ms_a ms (205 + 74 * m) = nI t) (eH : ms_a ms 0 = nI H) (eC : ms_a ms 1 = nI C) (th : ∀ h, s ≤ h → h < H → ms_a ms (10 + 6 * h) = ms_a ms (15 + 6 * h) ∧ ms_a ms (11 + 6 * h) = 0 ∧ ms_a ms (12 + 6 * h) = -1 ∧ ms_a ms (13 + 6 * h) = 0) (tc : ∀ h, t ≤ h → h < C → ms_a ms (46 + 5 * h) = 0 ∧ ms_a ms (47 + 5 * h) = -1 ∧ ms_a ms (48 + 5 * h) = 0) : ∃ a' : Nat → Int32, Undone m s t (ms_a ms) a' ∧ rt (wM_undo ms) (nI m) (ms_set_a ms a') := by
  obtain ⟨X, hX⟩ : ∃ X, X = 204 + 74 * m := ⟨_, rfl⟩
  have hX1 : 204 ≤ X := by omega
  have hX2 : X + 74 ≤ 2424 := by omega
  obtain ⟨f1, e1⟩ : ∃ f, f = upd (ms_a ms) 4 (nI m) := ⟨_, rfl⟩
  obtain ⟨f2, e2⟩ : ∃ f, f = cpf f1 7 (X + 2) 3 := ⟨_, rfl⟩
  obtain ⟨f3, e3⟩ : ∃ f, f = uf69 X s H f2 := ⟨_, rfl⟩
  obtain ⟨f5, e5⟩ : ∃ f, f = uf145 X t C f3 := ⟨_, rfl⟩
  obtain ⟨f6, e6⟩ : ∃ f, f = cpf f5 2424 (X + 44) 30 := ⟨_, rfl⟩
  have b1 : ∀ j, j ≠ 4 → f1 j = ms_a ms j := by
    intro j h
    rw [e1, upd_ne _ _ h]
  have b2 : ∀ j, j ≠ 4 → (j < 7 ∨ 10 ≤ j) → f2 j = ms_a ms j := by
    intro j h h2
    rw [e2, cpf_out _ _ _ _ (by omega)]
    exact b1 j h
  have b3 : ∀ j, j ≠ 4 → (j < 7 ∨ 46 ≤ j) → f3 j = ms_a ms j := by
    intro j h h2
    rw [e3, uf69_out f2 (by intro h k hh hk; omega)]
    exact b2 j h (by omega)
  have b5 : ∀ j, j ≠ 4 → (j < 7 ∨ 71 ≤ j) → f5 j = ms_a ms j := by
    intro j h h2
    rw [e5, uf145_out f3 (by intro h k hh hk; omega)]
    exact b3 j h (by omega)
  refine ⟨f6, ⟨?_, ?_, ?_⟩, ?_⟩
  · intro i hi
    obtain ⟨i1, i2, i3, i4, i5⟩ := ijx i hi
    rw [← hX]
    by_cases c1 : i < 24
    · obtain ⟨x1, x2⟩ := i1 c1
      rw [x1, x2, e6, cpf_out _ _ _ _ (by omega), e5, uf145_out f3 (by intro h k hh hk; omega), e3]
      unfold cpI
      refine ⟨fun h => ?_, fun h => ?_⟩
      · have hh : i % 6 < s := by omega
        rw [uf69_in hX1 (by omega) hs f2 hh (by omega), show X + (5 + 4 * (i % 6) + i / 6) = X + 5 + 4 * (i % 6) + i / 6 by omega]
        exact b2 _ (by omega) (by omega)
      · have hh : ¬ i % 6 < s := fun q => h (Or.inl ⟨c1, q⟩)
        rw [uf69_out f2 (by intro h k hh hk; omega)]
        exact b2 _ (by omega) (by omega)
    · by_cases c2 : i < 39
      · obtain ⟨x1, x2⟩ := i2 (by omega) c2
        rw [x1, x2, e6, cpf_out _ _ _ _ (by omega), e5]
        unfold cpI
        refine ⟨fun h => ?_, fun h => ?_⟩
        · have hh : (i - 24) % 5 < t := by omega
          rw [uf145_in hX1 (by omega) ht f3 hh (by omega), show X + (29 + 3 * ((i - 24) % 5) + (i - 24) / 5) = X + 29 + 3 * ((i - 24) % 5) + (i - 24) / 5 by omega]
          exact b3 _ (by omega) (by omega)
        · have hh : ¬ (i - 24) % 5 < t := fun q => h (Or.inr (Or.inl ⟨by omega, c2, q⟩))
          rw [uf145_out f3 (by intro h k hh hk; omega)]
          exact b3 _ (by omega) (by omega)
      · by_cases c3 : i < 42
        · obtain ⟨x1, x2⟩ := i3 (by omega) c3
          rw [x1, x2, e6, cpf_out _ _ _ _ (by omega), e5, uf145_out f3 (by intro h k hh hk; omega), e3, uf69_out f2 (by intro h k hh hk; omega), e2, cpf_in _ _ _ (by omega)]
          refine ⟨fun _ => ?_, fun h => absurd (Or.inr (Or.inr ⟨by omega, by omega⟩)) h⟩
          rw [show X + (2 + (i - 39)) = X + 2 + (i - 39) by omega]
          exact b1 _ (by omega)
        · by_cases c4 : i < 72
          · obtain ⟨x1, x2⟩ := i4 (by omega) c4
            rw [x1, x2, e6, cpf_in _ _ _ (by omega)]
            refine ⟨fun _ => ?_, fun h => absurd (Or.inr (Or.inr ⟨by omega, by omega⟩)) h⟩
            rw [show X + (44 + (i - 42)) = X + 44 + (i - 42) by omega]
            exact b5 _ (by omega) (by omega)
          · rw [i5 (by omega), e6, cpf_out _ _ _ _ (by omega), b5 _ (by omega) (by omega)]
            exact ⟨fun h => absurd h (by unfold cpI; omega), fun _ => rfl⟩
  · rw [e6, cpf_out _ _ _ _ (by omega), e5, uf145_out f3 (by intro h k hh hk; omega), e3, uf69_out f2 (by intro h k hh hk; omega), e2, cpf_out _ _ _ _ (by omega), e1, upd_eq]
  · intro k h4 hk
    have n1 : ∀ h r, h < 6 → r < 4 → k ≠ 10 + 6 * h + r := by
      intro h r hh hr e
      have := (ijx (6 * r + h) (by omega)).1 (by omega)
      refine hk (6 * r + h) (by omega) ?_
      rw [this.1, e]
      omega
    have n2 : ∀ h r, h < 5 → r < 3 → k ≠ 46 + 5 * h + r := by
      intro h r hh hr e
      have := (ijx (24 + 5 * r + h) (by omega)).2.1 (by omega) (by omega)
      refine hk (24 + 5 * r + h) (by omega) ?_
      rw [this.1, e]
      omega
    have n3 : k < 7 ∨ 10 ≤ k := by
      by_cases c : k < 7 ∨ 10 ≤ k
      · exact c
      · have := (ijx (32 + k) (by omega)).2.2.1 (by omega) (by omega)
        exact absurd (by rw [this.1]; omega) (hk (32 + k) (by omega))
    have n4 : k < 2424 ∨ 2454 ≤ k := by
      by_cases c : k < 2424 ∨ 2454 ≤ k
      · exact c
      · have := (ijx (k - 2382) (by omega)).2.2.2.1 (by omega) (by omega)
        exact absurd (by rw [this.1]; omega) (hk (k - 2382) (by omega))
    rw [e6, cpf_out _ _ _ _ (by omega), e5, uf145_out f3 (fun h r hh hr => n2 h r (by omega) hr), e3, uf69_out f2 (fun h r hh hr => n1 h r (by omega) hr), e2, cpf_out _ _ _ _ (by omega)]
    exact b1 k h4
  · intro post hp
    unfold wM_undo
    rw [e4, nI_pred]
    refine p_no (nI_ne0 (by omega) (by omega)) ?_
    intro S2 eS
    have g4 : ms_a S2 4 = nI m := by
      rw [eS, g_aa, upd_eq]
    rw [g4, nI_lm 74 m, nI_la 204 (74 * m), ← hX]
    rw [← e1] at eS
    subst eS
    refine m_undo_37 hX1 hX2 _ post ?_
    simp only [g_aa, s_aa]
    rw [← e2]
    have hh1 : f2 X = nI s := (b2 X (by omega) (by omega)).trans (by rw [hX]; exact es)
    have hh2 : f2 0 = nI H := (b2 0 (by omega) (by omega)).trans eH
    refine m_undo_69 hX1 hX2 (by omega) hH ms f2 hh1 hh2 ?_ post ?_
    · intro h h1 h2
      rw [b2 _ (by omega) (by omega), b2 _ (by omega) (by omega), b2 _ (by omega) (by omega), b2 _ (by omega) (by omega), b2 _ (by omega) (by omega)]
      exact th h h1 h2
    rw [← e3]
    have hh3 : f3 (X + 1) = nI t := (b3 (X + 1) (by omega) (by omega)).trans (by rw [hX, show 204 + 74 * m + 1 = 205 + 74 * m by omega]; exact et)
    have hh4 : f3 1 = nI C := (b3 1 (by omega) (by omega)).trans eC
    refine m_undo_145 hX1 hX2 (by omega) hC ms f3 hh3 hh4 ?_ post ?_
    · intro h h1 h2
      rw [b3 _ (by omega) (by omega), b3 _ (by omega) (by omega), b3 _ (by omega) (by omega)]
      exact tc h h1 h2
    rw [← e5]
    refine m_undo_226 hX1 hX2 _ post ?_
    simp only [g_aa, s_aa]
    have z4 : f5 4 = nI m := by
      rw [e5, uf145_out f3 (by intro h k hh hk; omega), e3, uf69_out f2 (by intro h k hh hk; omega), e2, cpf_out _ _ _ _ (by omega), e1, upd_eq]
    rw [z4, ← e6]
    exact hp
