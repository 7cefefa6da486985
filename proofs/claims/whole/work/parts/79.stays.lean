/-! PURE LAYER: stays -/
def stB (p j : Nat) : Nat := (10 - p) ^ j * 10 ^ (5 - j)
def stA (p : Nat) : Nat → Nat
  | 0 => 0
  | j + 1 => stA p j + stB p j * p
def stC (p : Nat) : Nat → Nat
  | 0 => 0
  | j + 1 => stC p j + stB p j * (10 * (j + 1))
theorem st_bd : ∀ p, p < 11 → ∀ j, j < 7 → stA p j ≤ 1000000 ∧ stC p j ≤ 21000000 := by decide +kernel
theorem st_next : ∀ p, p < 11 → ∀ j, j < 5 → (nI (stB p j) * (10 - nI p)) / 10 = nI (stB p (j + 1)) := by decide +kernel
theorem st_left : ∀ p, p < 11 → ∀ j, j < 6 → lN ((10 - p) ^ j) * Int32.toInt64 (10 - nI p) = lN ((10 - p) ^ (j + 1)) := by decide +kernel
theorem st_tens : ∀ j, j < 5 → lN (10 ^ (5 - j)) / 10 = lN (10 ^ (5 - (j + 1))) := by decide +kernel
def stV (p q c j : Nat) : Int32 := nI (stA p j * q) - nI (stC p j * c)
def stL (p q c j : Nat) : Int64 := lN (stA p j * q) - lN (stC p j * c)
theorem stV_L {p q c j : Nat} (hp : p < 11) (hq : q ≤ 999) (hc : c ≤ 99) (hj : j < 7) : Int32.toInt64 (stV p q c j) = stL p q c j ∧ -2147483647 ≤ (stV p q c j).toInt := by
  obtain ⟨b1, b2⟩ := st_bd p hp j hj
  have m1 : stA p j * q ≤ 1000000 * 999 := Nat.mul_le_mul b1 hq
  have m2 : stC p j * c ≤ 21000000 * 99 := Nat.mul_le_mul b2 hc
  unfold stV stL
  generalize stA p j * q = x at m1
  generalize stC p j * c = y at m2
  have e : (nI x - nI y).toInt = (x : Int) - y := by
    rw [Int32.toInt_sub, nI_toInt (by omega), nI_toInt (by omega), Int.bmod_eq_of_le (by omega) (by omega)]
  refine ⟨?_, by omega⟩
  apply Int64.toInt.inj
  rw [Int32.toInt_toInt64, e, Int64.toInt_sub, lN_toInt (by omega), lN_toInt (by omega), Int.bmod_eq_of_le (by omega) (by omega)]
theorem stV_step (p q c j : Nat) : stV p q c j + nI (stB p j) * ((nI p * nI q) - ((10 * nI (j + 1)) * nI c)) = stV p q c (j + 1) := by
  have e10 : (10 : Int32) = nI 10 := rfl
  unfold stV
  rw [e10]
  show _ = nI ((stA p j + stB p j * p) * q) - nI ((stC p j + stB p j * (10 * (j + 1))) * c)
  generalize stA p j = A
  generalize stC p j = C
  generalize stB p j = B
  generalize j + 1 = k
  simp only [← nI_mul, ← nI_add]
  generalize nI A = a
  generalize nI C = d
  generalize nI B = b
  generalize nI k = k
  generalize nI p = p
  generalize nI q = q
  generalize nI c = c
  generalize nI 10 = t
  grind
theorem stL_step (p q c j : Nat) : stL p q c j + (lN ((10 - p) ^ j) * (lN (p * q) - (10 * lN (j + 1)) * lN c)) * lN (10 ^ (5 - j)) = stL p q c (j + 1) := by
  have e10 : (10 : Int64) = lN 10 := rfl
  unfold stL
  rw [e10]
  show _ = lN ((stA p j + ((10 - p) ^ j * 10 ^ (5 - j)) * p) * q) - lN ((stC p j + ((10 - p) ^ j * 10 ^ (5 - j)) * (10 * (j + 1))) * c)
  generalize stA p j = A
  generalize stC p j = C
  generalize (10 - p) ^ j = B
  generalize 10 ^ (5 - j) = T
  generalize j + 1 = k
  simp only [← lN_mul, ← lN_add]
  generalize lN A = a
  generalize lN C = d
  generalize lN B = b
  generalize lN T = u
  generalize lN k = k
  generalize lN p = p
  generalize lN q = q
  generalize lN c = c
  generalize lN 10 = t
  grind
theorem st_L0 (p q c : Nat) : stL p q c 0 = 0 := by
  unfold stL stA stC
  rw [Nat.zero_mul, Nat.zero_mul]
  rfl
theorem st_V0 (p q c : Nat) : stV p q c 0 = 0 := by
  unfold stV stA stC
  rw [Nat.zero_mul, Nat.zero_mul]
  rfl
theorem m_mean {p q c h : Nat} (hp : p < 11) (hq : q ≤ 999) (hc : c ≤ 99) (hh : h < 7) (S : MS) (post : Int64 → MS → Prop) (hq2 : post (stL p q c h) S) : ∀ (d j : Nat) (x6 x8 : Int64), j + d = h → (j < 6 → x6 = lN ((10 - p) ^ j)) → (j < 6 → x8 = lN (10 ^ (5 - j))) → wM_meanOf_14 post (d + 1) (nI p) (nI q) (nI c) (nI h) (stL p q c j) x6 x8 (nI (j + 1)) S := by
  intro d
  induction d with
  | zero =>
    intro j x6 x8 e h6 h8
    have ej : j = h := by omega
    subst ej
    rw [wM_meanOf_14]
    exact p_yes (nI_lt (by omega) (by omega)) hq2
  | succ d ih =>
    intro j x6 x8 e h6 h8
    have pq : p * q ≤ 10 * 999 := Nat.mul_le_mul (by omega) hq
    rw [wM_meanOf_14, h6 (by omega), h8 (by omega), nI_mul, nI_l (n := p * q) (by omega), nI_l (n := j + 1) (by omega), nI_l (n := c) (by omega), stL_step, st_left p hp j (by omega), nI_1]
    refine p_no (nI_nlt (by omega) (by omega)) (ih (j + 1) _ _ (by omega) (fun _ => rfl) (fun h => ?_))
    exact st_tens j (by omega)
theorem st_loop {p q c : Nat} (hp : p < 11) (hq : q ≤ 999) (hc : c ≤ 99) (x4 : Int32) (cs : CS) (ms : MS) : ∀ (d j : Nat) (x5 x6 x8 : Int32), j + d = 6 → 0 ≤ x6 → (j < 6 → x8 = nI (stB p j)) → ∃ (u : Int32) (a : Nat), a < 2 ^ 31 ∧ (∀ post : Int32 → CS → Prop, ((x4 = 0 → post u cs) ∧ (¬ (x4 = 0) → ((x4 = 2 → wC_X11_inLowestTerms (nI a) 1000000 1 cs (fun r_6 S_7 => post r_6 S_7)) ∧ (¬ (x4 = 2) → wC_X11_inLowestTerms (nI a) 1000000 0 cs (fun r_4 S_5 => post r_4 S_5))))) → wC_X11_stays_62 post (d + 1) (nI p) (nI q) (nI c) x4 x5 x6 (stV p q c j) x8 (nI (j + 1)) cs) ∧ (∀ post : Int32 → MS → Prop, wM_common (lN a) 1000000 ms (fun r_2 S_3 => ((x4 = 0 → post u S_3) ∧ (¬ (x4 = 0) → ((x4 = 1 → (¬ r_2 = 0 ∧ post (Int64.toInt32 ((lN a) / r_2)) S_3)) ∧ (¬ (x4 = 1) → (¬ r_2 = 0 ∧ post (Int64.toInt32 (1000000 / r_2)) S_3)))))) → wM_stays_54 post (d + 1) (nI p) (nI q) (nI c) x4 x5 (Int32.toInt64 x6) (nI (j + 1)) ms) := by
  intro d
  induction d with
  | zero =>
    intro j x5 x6 x8 e h0 h8
    have ej : j = 6 := by omega
    subst ej
    obtain ⟨a, ha, rfl⟩ := nI_of (Int32.not_lt.mpr h0)
    refine ⟨x5, a, ha, ?_, ?_⟩
    · intro post hpp
      rw [wC_X11_stays_62]
      exact p_yes (by decide) hpp
    · intro post hpp
      rw [wM_stays_54, nI_l ha]
      exact p_yes (by decide) hpp
  | succ d ih =>
    intro j x5 x6 x8 e h0 h8
    obtain ⟨e1, e2⟩ := stV_L hp hq hc (j := j + 1) (by omega)
    have n6 : ¬ (6 : Int32) < nI (j + 1) := by
      intro hlt
      have := (nI_ltI (a := 6) (b := j + 1) (by decide) (by omega)).mp hlt
      omega
    have n7 : ¬ (7 : Int32) ≤ nI (j + 1) := nI_ge (b := 7) (by omega) (by decide)
    have x8' : j + 1 < 6 → (x8 * (10 - nI p)) / 10 = nI (stB p (j + 1)) := by
      intro h
      rw [h8 (by omega)]
      exact st_next p hp j (by omega)
    by_cases le : stV p q c (j + 1) ≤ x6
    · obtain ⟨u, a, ha, hC, hM⟩ := ih (j + 1) x5 x6 ((x8 * (10 - nI p)) / 10) (by omega) h0 x8'
      refine ⟨u, a, ha, ?_, ?_⟩
      · intro post hpp
        rw [wC_X11_stays_62, h8 (by omega), stV_step]
        refine p_no n6 (p_yes le ?_)
        unfold wC_X11_stays_103
        rw [nI_1]
        have q := hC post hpp
        rw [h8 (by omega)] at q
        exact q
      · intro post hpp
        rw [wM_stays_54]
        refine p_no n7 ⟨j + 1 + 1, ?_⟩
        have m := m_mean hp hq hc (h := j + 1) (by omega) ms (fun r_8 S_9 => ((Int32.toInt64 x6 < r_8 → wM_stays_54 post (d + 1) (nI p) (nI q) (nI c) x4 (nI (j + 1)) r_8 (nI (j + 1) + 1) S_9) ∧ (¬ (Int32.toInt64 x6 < r_8) → wM_stays_54 post (d + 1) (nI p) (nI q) (nI c) x4 x5 (Int32.toInt64 x6) (nI (j + 1) + 1) S_9))) (by
          rw [← e1, L_lt, nI_1]
          exact p_no (Int32.not_lt.mpr le) (hM post hpp)) (j + 1) 0 1 100000 (by omega) (fun _ => rfl) (fun _ => rfl)
        rw [st_L0] at m
        exact m
    · have pos : 0 ≤ stV p q c (j + 1) := Int32.le_trans h0 (Int32.le_of_lt (Int32.not_le.mp le))
      obtain ⟨u, a, ha, hC, hM⟩ := ih (j + 1) (nI (j + 1)) (stV p q c (j + 1)) ((x8 * (10 - nI p)) / 10) (by omega) pos x8'
      refine ⟨u, a, ha, ?_, ?_⟩
      · intro post hpp
        rw [wC_X11_stays_62, h8 (by omega), stV_step]
        refine p_no n6 (p_no le ?_)
        unfold wC_X11_stays_103
        rw [nI_1]
        have q := hC post hpp
        rw [h8 (by omega)] at q
        exact q
      · intro post hpp
        rw [wM_stays_54]
        refine p_no n7 ⟨j + 1 + 1, ?_⟩
        have m := m_mean hp hq hc (h := j + 1) (by omega) ms (fun r_8 S_9 => ((Int32.toInt64 x6 < r_8 → wM_stays_54 post (d + 1) (nI p) (nI q) (nI c) x4 (nI (j + 1)) r_8 (nI (j + 1) + 1) S_9) ∧ (¬ (Int32.toInt64 x6 < r_8) → wM_stays_54 post (d + 1) (nI p) (nI q) (nI c) x4 x5 (Int32.toInt64 x6) (nI (j + 1) + 1) S_9))) (by
          rw [← e1, L_lt, nI_1]
          exact p_yes (Int32.not_le.mp le) (hM post hpp)) (j + 1) 0 1 100000 (by omega) (fun _ => rfl) (fun _ => rfl)
        rw [st_L0] at m
        exact m
theorem sim_stays {cs : CS} {ms : MS} (R : Rel cs ms) (p1 p2 p3 p4 : Int32) : ∃ (r : Int32) (cs' : CS) (ms' : MS), rt (wC_X11_stays p1 p2 p3 p4 cs) r cs' ∧ rt (wM_stays p1 p2 p3 p4 ms) r ms' ∧ Rel cs' ms' := by
  by_cases c : (0 ≤ p1 ∧ p1 ≤ 10) ∧ (0 ≤ p2 ∧ p2 ≤ 999) ∧ (0 ≤ p3 ∧ p3 ≤ 99) ∧ (0 ≤ p4 ∧ p4 ≤ 2)
  · obtain ⟨c1, c2, c3, c4⟩ := c
    obtain ⟨p, hp, rfl⟩ := p_rng2 (n := 10) (by decide) c1.1 c1.2
    obtain ⟨q, hq, rfl⟩ := p_rng2 (n := 999) (by decide) c2.1 c2.2
    obtain ⟨c, hc, rfl⟩ := p_rng2 (n := 99) (by decide) c3.1 c3.2
    obtain ⟨v, hv, rfl⟩ := p_rng2 (n := 2) (by decide) c4.1 c4.2
    obtain ⟨u, a, ha, hC, hM⟩ := st_loop (p := p) (by omega) hq hc (nI v) cs ms 6 0 0 0 100000 (by omega) (by decide) (fun _ => by
      unfold stB
      rw [Nat.pow_zero]
      rfl)
    obtain ⟨g, hg, hg2, g1, g2⟩ := lowest (x := nI a) (by rw [nI_toInt ha]; omega) (b := 1000000) (by decide) (by decide)
    have g1' : ∀ (x2 : Int32) (post : Int32 → CS → Prop), ((x2 = 0 → post (nI a / nI g) cs) ∧ (¬ x2 = 0 → post (1000000 / nI g) cs)) → wC_X11_inLowestTerms (nI a) 1000000 x2 cs post := fun x2 post h => g1 x2 cs post h
    have g2' : ∀ (post : Int64 → MS → Prop), post (lN g) ms → wM_common (lN a) 1000000 ms post := by
      intro post h
      have q := g2 ms post h
      rw [nI_l ha] at q
      exact q
    have nz : ¬ lN g = 0 := by
      intro h
      have := (lN_eq (b := 0) hg2 (by decide)).mp h
      omega
    have d1 : Int64.toInt32 (lN a / lN g) = nI a / nI g := by
      rw [lN_div ha hg2, lN_i, p_div ha hg2]
    have d2 : Int64.toInt32 (1000000 / lN g) = 1000000 / nI g := by
      have e1 : (1000000 : Int64) = lN 1000000 := rfl
      have e2 : (1000000 : Int32) = nI 1000000 := rfl
      rw [e1, e2, lN_div (by decide) hg2, lN_i, p_div (by decide) hg2]
    have fin : ∃ r : Int32, (∀ post : Int32 → CS → Prop, post r cs → ((nI v = 0 → post u cs) ∧ (¬ (nI v = 0) → ((nI v = 2 → wC_X11_inLowestTerms (nI a) 1000000 1 cs (fun r_6 S_7 => post r_6 S_7)) ∧ (¬ (nI v = 2) → wC_X11_inLowestTerms (nI a) 1000000 0 cs (fun r_4 S_5 => post r_4 S_5)))))) ∧ (∀ post : Int32 → MS → Prop, post r ms → ((nI v = 0 → post u ms) ∧ (¬ (nI v = 0) → ((nI v = 1 → (¬ lN g = 0 ∧ post (Int64.toInt32 ((lN a) / lN g)) ms)) ∧ (¬ (nI v = 1) → (¬ lN g = 0 ∧ post (Int64.toInt32 (1000000 / lN g)) ms)))))) := by
      have : v = 0 ∨ v = 1 ∨ v = 2 := by omega
      rcases this with e | e | e <;> subst e
      · exact ⟨u, fun post h => p_yes rfl h, fun post h => p_yes rfl h⟩
      · refine ⟨nI a / nI g, fun post h => p_no (by decide) (p_no (by decide) (g1' 0 _ (p_yes rfl h))), fun post h => p_no (by decide) (p_yes rfl ⟨nz, ?_⟩)⟩
        rw [d1]
        exact h
      · refine ⟨1000000 / nI g, fun post h => p_no (by decide) (p_yes rfl (g1' 1 _ (p_no (by decide) h))), fun post h => p_no (by decide) (p_no (by decide) ⟨nz, ?_⟩)⟩
        rw [d2]
        exact h
    obtain ⟨r, f1, f2⟩ := fin
    refine ⟨r, cs, ms, ?_, ?_, R⟩
    · intro post h
      unfold wC_X11_stays
      simp only [q_within, p_b0]
      have q := hC post (f1 post h)
      rw [st_V0] at q
      exact p_val c1 (p_val c2 (p_val c3 (p_val c4 ⟨7, q⟩)))
    · intro post h
      unfold wM_stays
      simp only [m_isIn, p_b0]
      have q := hM post (g2' _ (f2 post h))
      exact p_val c1 (p_val c2 (p_val c3 (p_val c4 ⟨7, q⟩)))
  · refine ⟨-100000, cs, ms, ?_, ?_, R⟩
    · intro post hp
      unfold wC_X11_stays
      simp only [q_within, p_b0]
      exact p_inv hp (fun c1 => p_inv hp (fun c2 => p_inv hp (fun c3 => p_inv hp (fun c4 => absurd ⟨c1, c2, c3, c4⟩ c))))
    · intro post hp
      unfold wM_stays
      simp only [m_isIn, p_b0]
      exact p_inv hp (fun c1 => p_inv hp (fun c2 => p_inv hp (fun c3 => p_inv hp (fun c4 => absurd ⟨c1, c2, c3, c4⟩ c))))
