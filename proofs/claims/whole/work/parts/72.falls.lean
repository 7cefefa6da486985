/-! PURE LAYER: falls -/
def pl (a a' : Nat → Int32) : Prop := ∀ c, c < 5 → a' (47 + 5 * c) = a (47 + 5 * c)
def tl (a a' : Nat → Int32) : Prop := ∀ c, c < 5 → a' (46 + 5 * c) = a (46 + 5 * c)
/-- a deed that leaves every clown where it is -/
def Df (cs : CS) (ms : MS) (cs' : CS) (ms' : MS) : Prop := dC cs cs' ∧ dM ms ms' ∧ RN (cx_c_now cs') (ms_a ms') ∧ fr (ms_a ms) (ms_a ms') ∧ pl (ms_a ms) (ms_a ms')
theorem Df_Rel {cs cs' : CS} {ms ms' : MS} (R : Rel0 cs ms) (D : Df cs ms cs' ms') : Rel0 cs' ms' := Rel0_d R D.1 D.2.1 D.2.2.1 D.2.2.2.1
theorem Df_trans {cs cs1 cs2 : CS} {ms ms1 ms2 : MS} (D : Df cs ms cs1 ms1) (E : Df cs1 ms1 cs2 ms2) : Df cs ms cs2 ms2 := ⟨dC_trans D.1 E.1, dM_trans D.2.1 E.2.1, E.2.2.1, fr_trans D.2.2.2.1 E.2.2.2.1, fun c hc => (E.2.2.2.2 c hc).trans (D.2.2.2.2 c hc)⟩
/-- one cell of now written on both sides -/
theorem Df_cell {cs : CS} {ms : MS} (R : Rel0 cs ms) {i : Nat} (hi72 : i < 72) (hp : ¬ (29 ≤ i ∧ i < 34)) {v : Int32} (h0 : lo i ≤ v) (h1 : v ≤ hi i) : Df cs ms (cx_set_c_now cs (upd (cx_c_now cs) i v)) (ms_set_a ms (upd (ms_a ms) (ix i) v)) := by
  refine ⟨dC_now _ _, dM_a _ _, ?_, ?_, ?_⟩
  · rw [gs_now_now, g_aa]
    exact RN_upd R.1.1 (by omega) h0 h1
  · rw [g_aa]
    exact fr_upd _ hi72 _
  · rw [g_aa]
    intro c hc
    refine upd_ne _ _ ?_
    rw [← ix_place hc]
    intro e
    have := ix_inj (29 + c) (by omega) i (by omega) e
    omega
theorem bk_C {d h c : Nat} (hd : d ≤ 9999) (hh : h < 8) (hc : c < 8) : (k_shl (nI d) 6 ||| k_shl (nI h) 3) ||| nI c = nI (64 * d + 8 * h + c) := by
  have e1 : k_shl (nI d) 6 = nI (d * 2 ^ 6) := pk_shlN _ 6 (by decide) (by omega)
  have e2 : k_shl (nI h) 3 = nI (h * 2 ^ 3) := pk_shlN _ 3 (by decide) (by omega)
  rw [e1, e2, nI_or, nI_or]
  have o1 := Nat.two_pow_add_eq_or_of_lt (i := 6) (b := h * 2 ^ 3) (by omega) d
  have o2 := Nat.two_pow_add_eq_or_of_lt (i := 3) (b := c) (by omega) (8 * d + h)
  rw [Nat.mul_comm d, ← o1, show 2 ^ 6 * d + h * 2 ^ 3 = 2 ^ 3 * (8 * d + h) by omega, ← o2]
  congr 1
  omega
theorem bk_M {d h c : Nat} : (nI d * 8 + nI h) * 8 + nI c = nI (64 * d + 8 * h + c) := by
  rw [nI_ml 8 d, nI_add, nI_ml 8 (d * 8 + h), nI_add]
  congr 1
  omega
/-- room in the book -/
def shN (f : Nat → Int32) : Nat → Int32 := upd (va_cpy f f 43 42 29) 41 29
def shA (a : Nat → Int32) : Nat → Int32 := upd (cpf a 2424 2425 29) 9 29
theorem RN_shift {f a : Nat → Int32} (N : RN f a) : RN (shN f) (shA a) := by
  have q : RN (va_cpy f f 43 42 29) (cpf a 2424 2425 29) := by
    intro i hi
    by_cases c : 42 ≤ i ∧ i < 71
    · obtain ⟨k, rfl⟩ : ∃ k, i = 42 + k := ⟨i - 42, by omega⟩
      rw [cpy_in (by omega), ix_book (by omega), cpf_in _ _ _ (by omega), lo_book (by omega), hi_book (by omega)]
      have q := N (42 + (k + 1)) (by omega)
      rw [ix_book (by omega), lo_book (by omega), hi_book (by omega)] at q
      rw [show 43 + (42 + k - 42) = 42 + (k + 1) by omega, show 2425 + k = 2424 + (k + 1) by omega]
      exact q
    · rw [cpy_out (by omega), cpf_out _ _ _ _ ?_]
      · exact N i hi
      · by_cases c2 : 2424 ≤ ix i ∧ ix i < 2453
        · exfalso
          have e : ix (42 + (ix i - 2424)) = ix i := by
            rw [ix_book (by omega)]
            omega
          have := ix_inj (42 + (ix i - 2424)) (by omega) i (by omega) e
          omega
        · omega
  exact RN_upd q (i := 41) (by decide) (v := 29) (by decide) (by decide)
theorem fr_shift (a : Nat → Int32) : fr a (shA a) ∧ pl a (shA a) := by
  have o : ∀ k, k ≠ 9 → (k < 2424 ∨ 2453 ≤ k) → shA a k = a k := by
    intro k h1 h2
    unfold shA
    rw [upd_ne _ _ h1, cpf_out _ _ _ _ (by omega)]
  refine ⟨?_, ?_⟩
  · intro k hk
    refine o k ?_ ?_
    · intro e
      exact hk 41 (by decide) (by rw [e]; rfl)
    · by_cases c : k < 2424 ∨ 2453 ≤ k
      · exact c
      · exact absurd (by rw [ix_book (by omega)]; omega) (hk (42 + (k - 2424)) (by omega))
  · intro c hc
    exact o _ (by omega) (by omega)
theorem m_write_14 {S : MS} (e : ms_a S 9 = nI 30) (x1 x2 : Int32) (post : MS → Prop) (hp : wM_write_59 post x1 x2 (ms_set_a S (shA (ms_a S)))) : ∃ k : Nat, wM_write_14 post k x1 x2 1 S := by
  have q : wM_write_14 post 30 x1 x2 (nI 1) (ms_set_a S (ms_a S)) := by
    refine up_loopI (fun n g i => wM_write_14 post n x1 x2 i (ms_set_a S g)) (fun i g => upd g (2423 + i) (g (2424 + i))) (fun g => wM_write_59 post x1 x2 (ms_set_a S (upd g 9 (g 9 - 1)))) (fun i _ => 1 ≤ i) 30 (fun i _ _ h => by omega) ?_ ?_ 29 1 (ms_a S) (by omega) (by omega) ?_
    · intro n g _ q
      show wM_write_14 post (n + 1) x1 x2 (nI 30) (ms_set_a S g)
      rw [wM_write_14]
      simp only [p_all, g_aa, s_aa]
      exact p_yes (by decide) q
    · intro n i g hi h1 q
      show wM_write_14 post (n + 1) x1 x2 (nI i) (ms_set_a S g)
      rw [wM_write_14]
      simp only [p_all, g_aa, s_aa]
      rw [nI_la 2424 i, show 2424 + i = 2423 + i + 1 by omega, nI_pred, nI_clamp (by omega), nI_clamp (by omega), nI_1]
      refine p_no (nI_ge (b := 30) hi (by decide)) ⟨vp_in_nI (by omega) (by decide), vp_in_nI (by omega) (by decide), ?_⟩
      rw [show 2423 + i + 1 = 2424 + i by omega]
      exact q
    · have u := upf_I (fun i g => upd g (2423 + i) (g (2424 + i))) (fun i g => 1 ≤ i ∧ g = cpf (ms_a S) 2424 2425 (i - 1)) 30 (by
        intro i g hi I
        obtain ⟨i1, rfl⟩ := I
        refine ⟨by omega, ?_⟩
        have := cpf_step (ms_a S) (D := 2424) (s := 2425) (i := i - 1) (by omega)
        rw [show 2424 + (i - 1) = 2423 + i by omega, show 2425 + (i - 1) = 2424 + i by omega, show i - 1 + 1 = i by omega] at this
        exact this) 29 1 (ms_a S) (by omega) ⟨by omega, by
          funext j
          exact (cpf_out _ _ _ _ (by omega)).symm⟩
      rw [u.2, cpf_out _ _ _ _ (by omega), e]
      exact hp
  rw [s_id] at q
  exact ⟨30, q⟩
theorem sim_write {cs : CS} {ms : MS} (R : Rel0 cs ms) {h c : Nat} (hh : h < 6) (hc : c < 5) : ∃ (cs' : CS) (ms' : MS), Df cs ms cs' ms' ∧ tl (ms_a ms) (ms_a ms') ∧ rv (wC_X0_writeDown (nI h) (nI c) cs) cs' ∧ rv (wM_write (nI h) (nI c) ms) ms' := by
  have hW := bd_written R.1
  have eW := rd_written R.1
  have e0 : k_at 74 (cx_c_now cs) 41 = cx_c_now cs 41 := p_atL _ (by decide) 41 (by decide)
  obtain ⟨n, hn, en⟩ := p_rng2 (n := 30) (by decide) hW.1 hW.2
  -- with room
  have room : ∀ (cs : CS) (ms : MS) (n : Nat), n < 30 → Rel0 cs ms → ms_a ms 9 = nI n → ∃ (cs' : CS) (ms' : MS), Df cs ms cs' ms' ∧ tl (ms_a ms) (ms_a ms') ∧ (∀ post : CS → Prop, post cs' → wC_X0_writeDown_36 post (nI h) (nI c) (nI n) cs) ∧ (∀ post : MS → Prop, post ms' → wM_write_59 post (nI h) (nI c) ms) := by
    intro cs ms n hn R en
    have bD := bd_day R.1
    obtain ⟨d, hd, ed⟩ := p_rng2 (n := 9999) (by decide) bD.1 bD.2
    have D1 := Df_cell R (i := 42 + n) (by omega) (by omega) (v := nI (64 * d + 8 * h + c)) (by rw [lo_book hn]; exact nI_pos' (by omega)) (by rw [hi_book hn]; exact nI_le (b := 639999) (by omega) (by decide))
    rw [ix_book hn] at D1
    have D2 := Df_cell (Df_Rel R D1) (i := 41) (by omega) (by omega) (v := nI (n + 1)) (nI_pos' (by omega)) (nI_le (b := 30) (by omega) (by decide))
    have e41 : ix 41 = 9 := rfl
    rw [e41] at D2
    refine ⟨_, _, Df_trans D1 D2, ?_, ?_, ?_⟩
    · intro k hk
      rw [g_aa, upd_ne _ _ (by omega), g_aa, upd_ne _ _ (by omega)]
    · intro post hp
      unfold wC_X0_writeDown_36
      rw [q_today, rd_day R.1, ed, bk_C hd (by omega) (by omega), q_set_book hn]
      intro S5 e5
      rw [nI_1, p_putL _ (by decide) 41 (by decide)] at e5
      rw [e5]
      exact hp
    · intro post hp
      unfold wM_write_59
      rw [en, nI_la 2424 n, nI_clamp (by omega), ed, bk_M]
      refine ⟨vp_in_nI (by omega) (by decide), ?_⟩
      intro S1 e1 S2 e2
      have z : ms_a S1 9 = nI n := by
        rw [e1, g_aa, upd_ne _ _ (by omega)]
        exact en
      rw [z, nI_1, e1] at e2
      rw [e2]
      exact hp
  by_cases c30 : n < 30
  · obtain ⟨cs', ms', D, tD, hC, hM⟩ := room cs ms n c30 R en
    refine ⟨cs', ms', D, tD, ?_, ?_⟩
    · intro post hp
      unfold wC_X0_writeDown
      rw [e0, eW, en]
      exact p_yes (nI_lt (b := 30) c30 (by decide)) (hC post hp)
    · intro post hp
      unfold wM_write
      refine p_no ?_ (hM post hp)
      rw [en]
      intro q
      have := (nI_eq (b := 30) (by omega) (by decide)).mp q
      omega
  · have e30 : n = 30 := by omega
    subst e30
    have D0 : Df cs ms (cx_set_c_now cs (shN (cx_c_now cs))) (ms_set_a ms (shA (ms_a ms))) := by
      refine ⟨dC_now _ _, dM_a _ _, ?_, ?_, ?_⟩
      · rw [gs_now_now, g_aa]
        exact RN_shift R.1.1
      · rw [g_aa]
        exact (fr_shift _).1
      · rw [g_aa]
        exact (fr_shift _).2
    have bD := bd_day R.1
    obtain ⟨d, hd, ed⟩ := p_rng2 (n := 9999) (by decide) bD.1 bD.2
    -- the class does not lay 29 in between: the same state behind
    obtain ⟨cs1, ms1, D', tD', hC1, hM1⟩ : ∃ (cs1 : CS) (ms1 : MS), Df cs ms cs1 ms1 ∧ tl (ms_a ms) (ms_a ms1) ∧ (∀ post : CS → Prop, post cs1 → wC_X0_writeDown_36 post (nI h) (nI c) (nI 29) (cx_set_c_now cs (va_cpy (cx_c_now cs) (cx_c_now cs) 43 42 29))) ∧ (∀ post : MS → Prop, post ms1 → wM_write_59 post (nI h) (nI c) (ms_set_a ms (shA (ms_a ms)))) := by
      have R0 := Df_Rel R D0
      have ea7 : ms_a (ms_set_a ms (shA (ms_a ms))) 7 = nI d := by
        rw [g_aa]
        unfold shA
        rw [upd_ne _ _ (by omega), cpf_out _ _ _ _ (by omega)]
        exact ed
      have D1 := Df_cell R0 (i := 42 + 29) (by omega) (by omega) (v := nI (64 * d + 8 * h + c)) (by rw [lo_book (by omega)]; exact nI_pos' (by omega)) (by rw [hi_book (by omega)]; exact nI_le (b := 639999) (by omega) (by decide))
      rw [ix_book (by omega)] at D1
      have D2 := Df_cell (Df_Rel R0 D1) (i := 41) (by omega) (by omega) (v := nI (29 + 1)) (nI_pos' (by omega)) (nI_le (b := 30) (by omega) (by decide))
      have e41 : ix 41 = 9 := rfl
      rw [e41] at D2
      refine ⟨_, _, Df_trans D0 (Df_trans D1 D2), ?_, ?_, ?_⟩
      · intro k hk
        rw [g_aa, upd_ne _ _ (by omega), g_aa, upd_ne _ _ (by omega), g_aa]
        unfold shA
        rw [upd_ne _ _ (by omega), cpf_out _ _ _ _ (by omega)]
      · intro post hp
        unfold wC_X0_writeDown_36
        have f39 : cx_c_now (cx_set_c_now cs (va_cpy (cx_c_now cs) (cx_c_now cs) 43 42 29)) 39 = nI d := by
          rw [gs_now_now, cpy_out (by omega), rd_day R.1]
          exact ed
        rw [q_today, f39, bk_C hd (by omega) (by omega), q_set_book (by decide)]
        intro S5 e5
        rw [nI_1, p_putL _ (by decide) 41 (by decide)] at e5
        rw [e5]
        simp only [gs_now_now, s_nn] at hp ⊢
        have eq : upd (upd (va_cpy (cx_c_now cs) (cx_c_now cs) 43 42 29) (42 + 29) (nI (64 * d + 8 * h + c))) 41 (nI (29 + 1)) = upd (upd (shN (cx_c_now cs)) (42 + 29) (nI (64 * d + 8 * h + c))) 41 (nI (29 + 1)) := by
          funext j
          by_cases j1 : j = 41
          · rw [j1, upd_eq, upd_eq]
          · rw [upd_ne _ _ j1, upd_ne _ _ j1]
            by_cases j2 : j = 42 + 29
            · rw [j2, upd_eq, upd_eq]
            · rw [upd_ne _ _ j2, upd_ne _ _ j2]
              unfold shN
              rw [upd_ne _ _ j1]
        rw [eq]
        exact hp
      · intro post hp
        unfold wM_write_59
        have e9 : ms_a (ms_set_a ms (shA (ms_a ms))) 9 = nI 29 := by
          rw [g_aa]
          exact upd_eq _ _ _
        rw [e9, nI_la 2424 29, nI_clamp (by omega), ea7, bk_M]
        refine ⟨vp_in_nI (by omega) (by decide), ?_⟩
        intro S1 e1 S2 e2
        have z : ms_a S1 9 = nI 29 := by
          rw [e1, g_aa, upd_ne _ _ (by omega)]
          exact e9
        rw [z, nI_1, e1] at e2
        rw [e2]
        exact hp
    refine ⟨cs1, ms1, D', tD', ?_, ?_⟩
    · intro post hp
      unfold wC_X0_writeDown
      rw [e0, eW, en]
      refine p_no (by decide) ?_
      intro S2 e2
      have cp : k_copyP 74 74 (cx_c_now cs) 43 (cx_c_now cs) 42 29 = va_cpy (cx_c_now cs) (cx_c_now cs) 43 42 29 := by
        unfold k_copyP
        rw [if_neg (by decide), if_neg (by decide), if_neg (by decide), if_neg (by decide), if_neg (by decide)]
        rfl
      rw [cp] at e2
      rw [e2]
      exact hC1 post hp
    · intro post hp
      unfold wM_write
      refine p_yes en (m_write_14 en _ _ post (hM1 post hp))
