/-! PURE LAYER, methods without loops, last -/
theorem sim_about {cs : CS} {ms : MS} (R : Rel cs ms) (p1 : Int32) : ∃ (r : Int32) (cs' : CS) (ms' : MS), rt (wC_X11_about p1 cs) r cs' ∧ rt (wM_about p1 ms) r ms' ∧ Rel cs' ms' := by
  have hH := bd_houses R.1.1
  have eH := rd_houses R.1.1
  have hC := bd_clowns R.1.1
  have eC := rd_clowns R.1.1
  have eL : cx_r_length cs = ms_taped ms := R.1.2.2.2.2.1
  have hC : ∀ (post : Int32 → CS → Prop), ((p1 = 0 → post (ms_a ms 0) cs) ∧ (p1 = 1 → post (ms_a ms 1) cs) ∧ (p1 = 2 → post (ms_a ms 2) cs) ∧ (p1 = 3 → post (ms_a ms 3) cs) ∧ (p1 = 4 → post (ms_a ms 4) cs) ∧ (p1 = 5 → post (ms_a ms 5) cs) ∧ (p1 = 6 → post (ms_a ms 6) cs) ∧ (p1 = 7 → post (ms_taped ms) cs) ∧ (¬ p1 = 0 → ¬ p1 = 1 → ¬ p1 = 2 → ¬ p1 = 3 → ¬ p1 = 4 → ¬ p1 = 5 → ¬ p1 = 6 → ¬ p1 = 7 → post (-2) cs)) → wC_X11_about p1 cs post := by
    intro post hp
    unfold wC_X11_about
    rw [q_houseCount (by rw [eH]; exact hH.2), q_clownCount (by rw [eC]; exact hC.2), eH, eC, rd_textCount R.1.1, rd_ruling R.1.1, rd_count R.1.1, rd_trialCount R.1.1, rd_grownCount R.1.1, eL]
    exact hp
  by_cases c : 0 ≤ p1 ∧ p1 ≤ 6
  · obtain ⟨k, hk, rfl⟩ := p_rng2 (n := 6) (by decide) c.1 c.2
    refine ⟨ms_a ms k, cs, ms, ?_, ?_, R⟩
    · intro post hp
      refine hC post ?_
      have h : ∀ m : Nat, m < 7 → nI k = nI m → post (ms_a ms m) cs := by
        intro m hm e
        have := (nI_eq (by omega) (by omega)).mp e
        subst this
        exact hp
      have h7 : ∀ m : Nat, m = 7 → nI k = nI m → False := by
        intro m hm e
        have := (nI_eq (by omega) (by omega)).mp e
        omega
      refine ⟨h 0 (by decide), h 1 (by decide), h 2 (by decide), h 3 (by decide), h 4 (by decide), h 5 (by decide), h 6 (by decide), fun e => (h7 7 rfl e).elim, ?_⟩
      intro n0 n1 n2 n3 n4 n5 n6 _
      exfalso
      have : k = 0 ∨ k = 1 ∨ k = 2 ∨ k = 3 ∨ k = 4 ∨ k = 5 ∨ k = 6 := by omega
      rcases this with e | e | e | e | e | e | e <;> subst e
      · exact n0 rfl
      · exact n1 rfl
      · exact n2 rfl
      · exact n3 rfl
      · exact n4 rfl
      · exact n5 rfl
      · exact n6 rfl
    · intro post hp
      unfold wM_about
      simp only [m_isIn, p_b0]
      refine p_val c ?_
      rw [nI_clamp (by omega)]
      exact ⟨vp_in_nI (by omega) (by decide), hp⟩
  · have d : ∀ m : Nat, m ≤ 6 → p1 = nI m → False := by
      intro m hm e
      rw [e] at c
      exact c ⟨nI_pos' (by omega), nI_le (b := 6) hm (by decide)⟩
    by_cases c7 : p1 = 7
    · refine ⟨ms_taped ms, cs, ms, ?_, ?_, R⟩
      · intro post hp
        refine hC post ⟨fun e => (d 0 (by decide) e).elim, fun e => (d 1 (by decide) e).elim, fun e => (d 2 (by decide) e).elim, fun e => (d 3 (by decide) e).elim, fun e => (d 4 (by decide) e).elim, fun e => (d 5 (by decide) e).elim, fun e => (d 6 (by decide) e).elim, fun _ => hp, fun _ _ _ _ _ _ _ h => absurd c7 h⟩
      · intro post hp
        unfold wM_about
        simp only [m_isIn, p_b0]
        exact ⟨fun _ => p_yes c7 hp, fun h => absurd c h⟩
    · refine ⟨-2, cs, ms, ?_, ?_, R⟩
      · intro post hp
        refine hC post ⟨fun e => (d 0 (by decide) e).elim, fun e => (d 1 (by decide) e).elim, fun e => (d 2 (by decide) e).elim, fun e => (d 3 (by decide) e).elim, fun e => (d 4 (by decide) e).elim, fun e => (d 5 (by decide) e).elim, fun e => (d 6 (by decide) e).elim, fun h => absurd h c7, fun _ _ _ _ _ _ _ _ => hp⟩
      · intro post hp
        unfold wM_about
        simp only [m_isIn, p_b0]
        exact ⟨fun _ => p_no c7 hp, fun h => absurd c h⟩
theorem p_shr {n k : Nat} (h : n < 2 ^ 31) (hk : k < 32) (e : ((nI k &&& 31 : Int32).toBitVec.smod 32).toNat = k) : k_shr (nI n) (nI k) = nI (n / 2 ^ k) := pk_shrN h _ k e
theorem p_nat {n : Nat} (h : n < 2 ^ 31) : (nI n).toBitVec.toNat = n := by
  unfold nI
  have : (Int32.ofNat n).toBitVec.toNat = n % 2 ^ 32 := by simp
  omega
theorem p_div {n d : Nat} (hn : n < 2 ^ 31) (hd : d < 2 ^ 31) : nI n / nI d = nI (n / d) := by
  have h1 : (nI n).toInt = n := nI_toInt hn
  have h2 : (nI d).toInt = d := nI_toInt hd
  apply Int32.toInt.inj
  have h3 : n / d < 2 ^ 31 := Nat.lt_of_le_of_lt (Nat.div_le_self n d) hn
  rw [nI_toInt h3, Int32.toInt_div, h1, h2, Int.tdiv_eq_ediv_of_nonneg (by omega)]
  have e4 : (n : Int) / (d : Int) = ((n / d : Nat) : Int) := (Int.natCast_ediv n d).symm
  rw [e4]
  generalize n / d = q at h3
  rw [Int.bmod_eq_of_le (by omega) (by omega)]
theorem p_rem {n d : Nat} (hn : n < 2 ^ 31) (hd : d < 2 ^ 31) : k_rem (nI n) (nI d) = nI (n % d) := by
  unfold k_rem
  rw [p_div hn hd, nI_mul]
  have h := Nat.div_add_mod n d
  have e : n = n % d + n / d * d := by rw [Nat.mul_comm]; omega
  have : nI n = nI (n % d) + nI (n / d * d) := by rw [nI_add, ← e]
  rw [this, Int32.add_sub_cancel]
theorem sim_book {cs : CS} {ms : MS} (R : Rel cs ms) (p1 p2 : Int32) : ∃ (r : Int32) (cs' : CS) (ms' : MS), rt (wC_X11_book p1 p2 cs) r cs' ∧ rt (wM_book p1 p2 ms) r ms' ∧ Rel cs' ms' := by
  have hH := bd_written R.1.1
  have eH := rd_written R.1.1
  by_cases c0 : p1 = -1
  · refine ⟨ms_a ms 9, cs, ms, ?_, ?_, R⟩
    · intro post hp
      unfold wC_X11_book
      rw [q_see_written, eH]
      exact p_yes c0 hp
    · intro post hp
      unfold wM_book
      exact p_yes c0 hp
  · by_cases c : (0 ≤ p1 ∧ p1 < ms_a ms 9) ∧ (0 ≤ p2 ∧ p2 ≤ 2)
    · obtain ⟨c1, c2⟩ := c
      obtain ⟨i, hi, rfl⟩ := p_rng (n := 30) (by decide) c1.1 (Int32.lt_of_lt_of_le c1.2 hH.2)
      have hb := bd_book R.1.1 (h := i) (by omega)
      obtain ⟨x, hx, ex⟩ := p_rng2 (n := 639999) (by decide) hb.1 hb.2
      have eB : cx_c_now cs (42 + i) = nI x := (rd_book R.1.1 (by omega)).trans ex
      obtain ⟨q, hq, rfl⟩ := p_rng2 (n := 2) (by decide) c2.1 c2.2
      have hC : ∀ (post : Int32 → CS → Prop), ((nI q = 0 → post (nI (x / 64)) cs) ∧ (nI q = 1 → post (nI (x / 8 % 8)) cs) ∧ (nI q = 2 → post (nI (x % 8)) cs) ∧ (¬ nI q = 0 → ¬ nI q = 1 → ¬ nI q = 2 → post (-2) cs)) → wC_X11_book (nI i) (nI q) cs post := by
        intro post hp
        unfold wC_X11_book
        rw [q_see_written, eH]
        simp only [q_within, p_b0, q_see_book hi]
        rw [p_lt1 ⟨hH.1, Int32.le_trans hH.2 (by decide)⟩, eB]
        refine p_no c0 (p_val c1 ?_)
        have s6 : k_shr (nI x) 6 = nI (x / 64) := p_shr (k := 6) (by omega) (by decide) (by decide)
        have s3 : k_shr (nI x) 3 = nI (x / 8) := p_shr (k := 3) (by omega) (by decide) (by decide)
        have a3 : ∀ y : Nat, y < 2 ^ 31 → nI y &&& 7 = nI (y % 8) := by
          intro y hy
          rw [pk_and (nI y) (m := 7) 3 (by decide), p_nat hy]
        rw [s6, s3, a3 _ (by omega), a3 _ (by omega)]
        exact hp
      have hM : ∀ (post : Int32 → MS → Prop), ((nI q = 0 → post (nI (x / 64)) ms) ∧ (¬ nI q = 0 → ((nI q = 1 → post (nI (x / 8 % 8)) ms) ∧ (¬ nI q = 1 → post (nI (x % 8)) ms)))) → wM_book (nI i) (nI q) ms post := by
        intro post hp
        unfold wM_book wM_entry
        simp only [m_isIn, p_b0]
        rw [p_lt1 ⟨hH.1, Int32.le_trans hH.2 (by decide)⟩]
        refine p_no c0 (p_val c1 (p_val c2 ?_))
        rw [nI_la 2424 i, nI_clamp (by omega), ex, p_vp (by omega) (by decide), p_vp (by omega) (by decide), p_vp (by omega) (by decide)]
        have d6 : nI x / 64 = nI (x / 64) := p_div (d := 64) (by omega) (by decide)
        have d3 : nI x / 8 = nI (x / 8) := p_div (d := 8) (by omega) (by decide)
        have r8 : ∀ y : Nat, y < 2 ^ 31 → k_rem (nI y) 8 = nI (y % 8) := fun y hy => p_rem (d := 8) hy (by decide)
        rw [d6, d3, r8 _ (by omega), r8 _ (by omega)]
        exact hp
      have : q = 0 ∨ q = 1 ∨ q = 2 := by omega
      rcases this with e | e | e <;> subst e
      · exact ⟨nI (x / 64), cs, ms, fun post hp => hC post ⟨fun _ => hp, fun h => absurd h (by decide), fun h => absurd h (by decide), fun h => absurd rfl h⟩, fun post hp => hM post (p_yes rfl hp), R⟩
      · exact ⟨nI (x / 8 % 8), cs, ms, fun post hp => hC post ⟨fun h => absurd h (by decide), fun _ => hp, fun h => absurd h (by decide), fun _ h => absurd rfl h⟩, fun post hp => hM post (p_no (by decide) (p_yes rfl hp)), R⟩
      · exact ⟨nI (x % 8), cs, ms, fun post hp => hC post ⟨fun h => absurd h (by decide), fun h => absurd h (by decide), fun _ => hp, fun _ _ h => absurd rfl h⟩, fun post hp => hM post (p_no (by decide) (p_no (by decide) hp)), R⟩
    · refine ⟨-2, cs, ms, ?_, ?_, R⟩
      · intro post hp
        unfold wC_X11_book
        rw [q_see_written, eH]
        simp only [q_within, p_b0]
        rw [p_lt1 ⟨hH.1, Int32.le_trans hH.2 (by decide)⟩]
        refine p_no c0 (p_inv hp (fun c1 => ?_))
        unfold wC_X0_see
        have n2 : ¬ (0 ≤ p2 ∧ p2 ≤ 2) := fun c2 => c ⟨c1, c2⟩
        refine ⟨fun h => absurd ?_ n2, fun h => absurd ?_ n2, fun h => absurd ?_ n2, fun _ _ _ => hp⟩ <;> (subst h; decide)
      · intro post hp
        unfold wM_book
        simp only [m_isIn, p_b0]
        rw [p_lt1 ⟨hH.1, Int32.le_trans hH.2 (by decide)⟩]
        exact p_no c0 (p_inv hp (fun c1 => p_inv hp (fun c2 => absurd ⟨c1, c2⟩ c)))
theorem sim_end {cs : CS} {ms : MS} (R : Rel cs ms) (p1 : Int32) : ∃ (r : Int32) (cs' : CS) (ms' : MS), rt (wC_X11_end p1 cs) r cs' ∧ rt (wM_end p1 ms) r ms' ∧ Rel cs' ms' := by
  obtain ⟨e1, e2, e3, e4, e5, e6⟩ := R.1.2.2.2.2
  have eL : cx_r_length cs = ms_taped ms := e1
  have e3' : ms_taped ms ≤ 300 := by rw [← eL]; exact e3
  by_cases c : 0 ≤ p1 ∧ p1 ≤ ms_taped ms
  · refine ⟨p1, cx_set_r_length cs p1, ms_set_taped ms p1, ?_, ?_, ?_⟩
    · intro post hp
      unfold wC_X11_end
      simp only [q_within, p_b0, p_all]
      rw [eL]
      exact p_val c hp
    · intro post hp
      unfold wM_end
      simp only [m_isIn, p_b0, p_all]
      exact p_val c hp
    · refine ⟨⟨R.1.1, R.1.2.1, R.1.2.2.1, R.1.2.2.2.1, ?_⟩, R.2⟩
      refine ⟨rfl, c.1, Int32.le_trans c.2 e3', ?_, e5, e6⟩
      intro i hi h
      refine e4 i hi ?_
      have h' : nI i < p1 := h
      have e1' : cs.2.2.1.1 = ms_taped ms := e1
      rw [e1']
      exact Int32.lt_of_lt_of_le h' c.2
  · refine ⟨-1, cs, ms, ?_, ?_, R⟩
    · intro post hp
      unfold wC_X11_end
      simp only [q_within, p_b0, p_all]
      rw [eL]
      exact p_inv hp (fun c1 => absurd c1 c)
    · intro post hp
      unfold wM_end
      simp only [m_isIn, p_b0, p_all]
      exact p_inv hp (fun c1 => absurd c1 c)
