/-! PURE LAYER: Euclid's steps, share -/
theorem lN_div {n d : Nat} (hn : n < 2 ^ 31) (hd : d < 2 ^ 31) : lN n / lN d = lN (n / d) := by
  have h1 : (lN n).toInt = n := lN_toInt hn
  have h2 : (lN d).toInt = d := lN_toInt hd
  apply Int64.toInt.inj
  have h3 : n / d < 2 ^ 31 := Nat.lt_of_le_of_lt (Nat.div_le_self n d) hn
  rw [lN_toInt h3, Int64.toInt_div, h1, h2, Int.tdiv_eq_ediv_of_nonneg (by omega)]
  have e4 : (n : Int) / (d : Int) = ((n / d : Nat) : Int) := (Int.natCast_ediv n d).symm
  rw [e4]
  generalize n / d = q at h3
  rw [Int.bmod_eq_of_le (by omega) (by omega)]
theorem lN_rem {n d : Nat} (hn : n < 2 ^ 31) (hd : d < 2 ^ 31) : k_remL (lN n) (lN d) = lN (n % d) := by
  unfold k_remL
  rw [lN_div hn hd, lN_mul]
  have h := Nat.div_add_mod n d
  have e : n = n % d + n / d * d := by rw [Nat.mul_comm]; omega
  have : lN n = lN (n % d) + lN (n / d * d) := by rw [lN_add, ← e]
  rw [this, Int64.add_sub_cancel]
theorem eu_half {b r : Nat} (h0 : 0 < r) (h1 : r < b) : 2 * (b % r) < b := by
  have h2 := Nat.div_add_mod b r
  have h3 := Nat.mod_lt b h0
  have h4 : 1 ≤ b / r := Nat.div_pos (Nat.le_of_lt h1) h0
  have h5 : r * 1 ≤ r * (b / r) := Nat.mul_le_mul_left r h4
  omega
theorem eu_gcd (a b : Nat) : Nat.gcd a b = Nat.gcd b (a % b) := by
  rw [Nat.gcd_comm a b, Nat.gcd_rec b a, Nat.gcd_comm]
theorem q_eu (x0 x1 x2 : Int32) (S : CS) (post : Int32 → CS → Prop) : ∀ (k a b i n : Nat), a < 2 ^ 31 → b < 2 ^ 31 → b < 2 ^ k → i + 2 * k ≤ 98 → 2 * k + 1 ≤ n → wC_X11_inLowestTerms_42 post x0 x1 x2 (nI (Nat.gcd a b)) S → wC_X11_inLowestTerms_11 post n x0 x1 x2 (nI a) (nI b) (nI i) S := by
  have base : ∀ (a i n : Nat), i ≤ 99 → 1 ≤ n → wC_X11_inLowestTerms_42 post x0 x1 x2 (nI a) S → wC_X11_inLowestTerms_11 post n x0 x1 x2 (nI a) (nI 0) (nI i) S := by
    intro a i n hi hn hp
    obtain ⟨n', rfl⟩ : ∃ n', n = n' + 1 := ⟨n - 1, by omega⟩
    rw [wC_X11_inLowestTerms_11]
    exact p_no (nI_ge (b := 100) (by omega) (by decide)) (p_yes rfl hp)
  have step : ∀ (a b i n : Nat), a < 2 ^ 31 → b < 2 ^ 31 → 0 < b → i ≤ 99 → wC_X11_inLowestTerms_11 post n x0 x1 x2 (nI b) (nI (a % b)) (nI (i + 1)) S → wC_X11_inLowestTerms_11 post (n + 1) x0 x1 x2 (nI a) (nI b) (nI i) S := by
    intro a b i n ha hb h0 hi hp
    have nz : ¬ nI b = 0 := nI_ne0 h0 hb
    rw [wC_X11_inLowestTerms_11, p_rem ha hb, nI_1]
    exact p_no (nI_ge (b := 100) (by omega) (by decide)) (p_no nz ⟨nz, hp⟩)
  intro k
  induction k with
  | zero =>
    intro a b i n ha hb hk hi hn hp
    have e : b = 0 := by
      have : (2 : Nat) ^ 0 = 1 := rfl
      omega
    subst e
    rw [Nat.gcd_zero_right] at hp
    exact base a i n (by omega) (by omega) hp
  | succ k ih =>
    intro a b i n ha hb hk hi hn hp
    by_cases e : b = 0
    · subst e
      rw [Nat.gcd_zero_right] at hp
      exact base a i n (by omega) (by omega) hp
    · obtain ⟨n', rfl⟩ : ∃ n', n = n' + 1 + 1 := ⟨n - 2, by omega⟩
      have hr := Nat.mod_lt a (show b > 0 by omega)
      refine step a b i (n' + 1) ha hb (by omega) (by omega) ?_
      rw [eu_gcd] at hp
      generalize a % b = r at hr hp
      by_cases e2 : r = 0
      · subst e2
        rw [Nat.gcd_zero_right] at hp
        exact base b (i + 1) (n' + 1) (by omega) (by omega) hp
      · refine step b r (i + 1) n' hb (by omega) (by omega) (by omega) ?_
        have h2 := eu_half (show 0 < r by omega) hr
        rw [eu_gcd] at hp
        rw [Nat.pow_succ] at hk
        exact ih r (b % r) (i + 1 + 1) n' (by omega) (by omega) (by omega) (by omega) (by omega) hp
theorem m_eu (S : MS) (post : Int64 → MS → Prop) : ∀ (k a b n : Nat), a < 2 ^ 31 → b < 2 ^ 31 → b < 2 ^ k → 2 * k + 1 ≤ n → post (lN (Nat.gcd a b)) S → wM_common_17 post n (lN a) (lN b) S := by
  have base : ∀ (a n : Nat), 1 ≤ n → post (lN a) S → wM_common_17 post n (lN a) (lN 0) S := by
    intro a n hn hp
    obtain ⟨n', rfl⟩ : ∃ n', n = n' + 1 := ⟨n - 1, by omega⟩
    rw [wM_common_17]
    exact p_yes rfl hp
  have step : ∀ (a b n : Nat), a < 2 ^ 31 → b < 2 ^ 31 → 0 < b → wM_common_17 post n (lN b) (lN (a % b)) S → wM_common_17 post (n + 1) (lN a) (lN b) S := by
    intro a b n ha hb h0 hp
    have nz : ¬ lN b = 0 := by
      intro h
      have := (lN_eq (b := 0) hb (by decide)).mp h
      omega
    rw [wM_common_17, lN_rem ha hb]
    exact p_no nz ⟨nz, hp⟩
  intro k
  induction k with
  | zero =>
    intro a b n ha hb hk hn hp
    have e : b = 0 := by
      have : (2 : Nat) ^ 0 = 1 := rfl
      omega
    subst e
    rw [Nat.gcd_zero_right] at hp
    exact base a n (by omega) hp
  | succ k ih =>
    intro a b n ha hb hk hn hp
    by_cases e : b = 0
    · subst e
      rw [Nat.gcd_zero_right] at hp
      exact base a n (by omega) hp
    · obtain ⟨n', rfl⟩ : ∃ n', n = n' + 1 + 1 := ⟨n - 2, by omega⟩
      have hr := Nat.mod_lt a (show b > 0 by omega)
      refine step a b (n' + 1) ha hb (by omega) ?_
      rw [eu_gcd] at hp
      generalize a % b = r at hr hp
      by_cases e2 : r = 0
      · subst e2
        rw [Nat.gcd_zero_right] at hp
        exact base b (n' + 1) (by omega) hp
      · refine step b r n' hb (by omega) (by omega) ?_
        have h2 := eu_half (show 0 < r by omega) hr
        rw [eu_gcd] at hp
        rw [Nat.pow_succ] at hk
        exact ih r (b % r) n' (by omega) (by omega) (by omega) (by omega) hp
theorem ab_val {x : Int32} (h0 : -2147483647 ≤ x.toInt) : ∃ a : Nat, a < 2 ^ 31 ∧ (if 0 ≤ x then x else 0 - x) = nI a ∧ ((0 ≤ Int32.toInt64 x ∧ Int32.toInt64 x = lN a) ∨ (¬ 0 ≤ Int32.toInt64 x ∧ -(Int32.toInt64 x) = lN a)) := by
  have hx := Int32.toInt_lt x
  have z32 : (0 : Int32).toInt = 0 := by decide
  have z64 : (0 : Int64).toInt = 0 := by decide
  have e64 : (Int32.toInt64 x).toInt = x.toInt := Int32.toInt_toInt64 x
  by_cases c : 0 ≤ x
  · have c' := Int32.le_iff_toInt_le.mp c
    rw [z32] at c'
    refine ⟨x.toInt.toNat, by omega, ?_, Or.inl ⟨?_, ?_⟩⟩
    · rw [if_pos c]
      apply Int32.toInt.inj
      rw [nI_toInt (by omega)]
      omega
    · apply Int64.le_iff_toInt_le.mpr
      rw [e64, z64]
      exact c'
    · apply Int64.toInt.inj
      rw [e64, lN_toInt (by omega)]
      omega
  · have c' : ¬ 0 ≤ x.toInt := by
      intro q
      apply c
      apply Int32.le_iff_toInt_le.mpr
      rw [z32]
      exact q
    refine ⟨(-x.toInt).toNat, by omega, ?_, Or.inr ⟨?_, ?_⟩⟩
    · rw [if_neg c]
      apply Int32.toInt.inj
      rw [nI_toInt (by omega), Int32.toInt_sub, z32, Int.bmod_eq_of_le (by omega) (by omega)]
      omega
    · intro q
      have q' := Int64.le_iff_toInt_le.mp q
      rw [e64, z64] at q'
      exact c' q'
    · apply Int64.toInt.inj
      rw [Int64.toInt_neg, e64, lN_toInt (by omega), Int.bmod_eq_of_le (by omega) (by omega)]
      omega
/-- the greatest common divisor of both sides -/
theorem lowest {x : Int32} (h0 : -2147483647 ≤ x.toInt) {b : Nat} (hb : 0 < b) (hb2 : b ≤ 1000000) : ∃ g : Nat, 0 < g ∧ g < 2 ^ 31 ∧ (∀ (x2 : Int32) (S : CS) (post : Int32 → CS → Prop), ((x2 = 0 → post (x / nI g) S) ∧ (¬ x2 = 0 → post (nI b / nI g) S)) → wC_X11_inLowestTerms x (nI b) x2 S post) ∧ (∀ (S : MS) (post : Int64 → MS → Prop), post (lN g) S → wM_common (Int32.toInt64 x) (lN b) S post) := by
  obtain ⟨a, ha, e1, e2⟩ := ab_val h0
  have hg : 0 < Nat.gcd a b := Nat.gcd_pos_of_pos_right a hb
  have hg2 : Nat.gcd a b ≤ b := Nat.le_of_dvd hb (Nat.gcd_dvd_right a b)
  refine ⟨Nat.gcd a b, hg, by omega, ?_, ?_⟩
  · intro x2 S post hp
    unfold wC_X11_inLowestTerms
    rw [e1]
    refine ⟨41, q_eu x (nI b) x2 S post 20 a b 0 41 ha (by omega) (by omega) (by omega) (by omega) ?_⟩
    have nz : ¬ nI (Nat.gcd a b) = 0 := nI_ne0 hg (by omega)
    unfold wC_X11_inLowestTerms_42
    exact p_no nz (p_two (fun h => ⟨nz, hp.1 h⟩) (fun h => ⟨nz, hp.2 h⟩))
  · intro S post hp
    have q := m_eu S post 20 a b 41 ha (by omega) (by omega) (by omega) hp
    unfold wM_common
    rcases e2 with ⟨c, e⟩ | ⟨c, e⟩
    · rw [e] at c ⊢
      exact p_yes c ⟨41, q⟩
    · refine p_no c ⟨41, ?_⟩
      rw [e]
      exact q
/-! factorials -/
def facN (n : Nat) : Nat := [1, 1, 2, 6, 24].getD n 0
def facO : Nat → Int32 → Int32 → Int32 → Option Int32
  | 0, _, _, _ => none
  | n + 1, x0, x1, x2 => if x0 < x2 then some x1 else if 4 < x2 then none else facO n x0 (x1 * x2) (x2 + 1)
theorem fac_tab : ∀ n, n < 5 → facO 5 (nI n) 1 2 = some (nI (facN n)) := by decide +kernel
theorem q_fac {n : Nat} (hn : n < 5) (S : CS) (post : Int32 → CS → Prop) (hp : post (nI (facN n)) S) : wC_X11_factorial (nI n) S post := by
  have run : ∀ k x1 x2, facO k (nI n) x1 x2 = some (nI (facN n)) → wC_X11_factorial_4 post k (nI n) x1 x2 S := by
    intro k
    induction k with
    | zero =>
      intro x1 x2 h
      exact absurd h (by simp [facO])
    | succ k ih =>
      intro x1 x2 h
      rw [facO] at h
      rw [wC_X11_factorial_4]
      refine p_two (fun e => ?_) (fun e => ?_)
      · rw [if_pos e] at h
        rw [Option.some.inj h]
        exact hp
      · rw [if_neg e] at h
        refine p_two (fun e => ?_) (fun e => ?_)
        · rw [if_pos e] at h
          exact absurd h (by simp)
        · rw [if_neg e] at h
          exact ih _ _ h
  exact ⟨5, run 5 1 2 (fac_tab n hn)⟩
theorem m_fac {n : Nat} (hn : n < 5) (S : MS) (post : Int32 → MS → Prop) (hp : post (nI (facN n)) S) : wM_orders (nI n) S post := by
  have run : ∀ k x1 x2, facO k (nI n) x1 x2 = some (nI (facN n)) → wM_orders_4 post k (nI n) x1 x2 S := by
    intro k
    induction k with
    | zero =>
      intro x1 x2 h
      exact absurd h (by simp [facO])
    | succ k ih =>
      intro x1 x2 h
      rw [facO] at h
      rw [wM_orders_4]
      refine p_two (fun e => ?_) (fun e => ?_)
      · rw [if_pos e] at h
        rw [Option.some.inj h]
        exact hp
      · rw [if_neg e] at h
        by_cases e4 : 4 < x2
        · rw [if_pos e4] at h
          exact absurd h (by simp)
        · rw [if_neg e4] at h
          exact ih _ _ h
  exact ⟨5, run 5 1 2 (fac_tab n hn)⟩
theorem fac_bd : ∀ n, n < 5 → 1 ≤ facN n ∧ facN n ≤ 24 := by decide
def hasI (s c : Nat) : Int32 := (k_shr (nI s) (nI c)) &&& 1
theorem has_01 : ∀ s, s < 16 → ∀ c, c < 4 → hasI s c = 0 ∨ hasI s c = 1 := by decide +kernel
theorem sh_tab : ∀ n, n < 5 → ∀ c, c < n → ∀ s, s < 2 ^ n → hasI s c = 0 → popN s + 1 ≤ n ∧ (s ||| 2 ^ c) < 16 := by decide +kernel
theorem sh_pow : ∀ n, n < 5 → k_shl 1 (nI n) = nI (2 ^ n) ∧ 2 ^ n ≤ 16 := by decide +kernel
theorem sh_bd {F : Nat} {z : Int} (hF : F ≤ 576) (h1 : -999 ≤ z) (h2 : z ≤ 999) : -575424 ≤ (F : Int) * z ∧ (F : Int) * z ≤ 575424 := by
  have a1 : (F : Int) * z ≤ F * 999 := Int.mul_le_mul_of_nonneg_left h2 (by omega)
  have a2 : (F : Int) * (-999) ≤ F * z := Int.mul_le_mul_of_nonneg_left h1 (by omega)
  omega
theorem sh_add {v : Int32} {s F : Nat} {x y : Int32} (hs : s < 16) (hv : -(600000 * s : Int) ≤ v.toInt ∧ v.toInt ≤ 600000 * s) (hF : F ≤ 576) (hx : 0 ≤ x ∧ x ≤ 999) (hy : 0 ≤ y ∧ y ≤ 999) : -(600000 * (s + 1 : Nat) : Int) ≤ (v + nI F * (x - y)).toInt ∧ (v + nI F * (x - y)).toInt ≤ 600000 * (s + 1 : Nat) := by
  have x1 := Int32.le_iff_toInt_le.mp hx.1
  have x2 := Int32.le_iff_toInt_le.mp hx.2
  have y1 := Int32.le_iff_toInt_le.mp hy.1
  have y2 := Int32.le_iff_toInt_le.mp hy.2
  have z0 : (0 : Int32).toInt = 0 := by decide
  have z9 : (999 : Int32).toInt = 999 := by decide
  rw [z0] at x1 y1
  rw [z9] at x2 y2
  have e1 : (x - y).toInt = x.toInt - y.toInt := by
    rw [Int32.toInt_sub, Int.bmod_eq_of_le (by omega) (by omega)]
  have b := sh_bd hF (z := x.toInt - y.toInt) (by omega) (by omega)
  have e2 : (nI F * (x - y)).toInt = (F : Int) * (x.toInt - y.toInt) := by
    rw [Int32.toInt_mul, nI_toInt (by omega), e1]
    generalize (F : Int) * (x.toInt - y.toInt) = m at b
    rw [Int.bmod_eq_of_le (by omega) (by omega)]
  have e3 : (v + nI F * (x - y)).toInt = v.toInt + (F : Int) * (x.toInt - y.toInt) := by
    rw [Int32.toInt_add, e2]
    generalize (F : Int) * (x.toInt - y.toInt) = m at b
    rw [Int.bmod_eq_of_le (by omega) (by omega)]
  rw [e3]
  generalize (F : Int) * (x.toInt - y.toInt) = m at b
  omega
theorem sh_loop {n c : Nat} (hn : n < 5) (hc : c < n) (x3 : Int32) : ∀ (d s : Nat) (v : Int32) (cs : CS) (ms : MS), s + d = 2 ^ n → Rel0 cs ms → (-(600000 * s : Int) ≤ v.toInt ∧ v.toInt ≤ 600000 * s) → ∃ u : Int32, -2147483647 ≤ u.toInt ∧ (∀ post : Int32 → CS → Prop, wC_X11_factorial (nI n) cs (fun r_2 S_3 => wC_X11_inLowestTerms u r_2 x3 S_3 (fun r_4 S_5 => post r_4 S_5)) → wC_X11_share_28 post (d + 1) (nI c) (nI n) x3 v (nI s) cs) ∧ (∀ post : Int32 → MS → Prop, wM_orders (nI n) ms (fun r_2 S_3 => ((x3 = 0 → wM_share_125 post u r_2 u S_3) ∧ (¬ (x3 = 0) → wM_share_125 post u r_2 r_2 S_3))) → wM_share_28 post (d + 1) (nI c) (nI n) x3 v (nI s) ms) := by
  obtain ⟨p1, p2⟩ := sh_pow n hn
  obtain ⟨p3, p4⟩ := sh_pow c (by omega)
  intro d
  induction d with
  | zero =>
    intro s v cs ms e R hv
    have es : s = 2 ^ n := by omega
    refine ⟨v, by omega, ?_, ?_⟩
    · intro post hp
      rw [wC_X11_share_28, p1, es]
      exact p_yes (Int32.le_refl _) hp
    · intro post hp
      rw [wM_share_28, p1, es]
      exact p_yes (Int32.le_refl _) hp
  | succ d ih =>
    intro s v cs ms e R hv
    have hs : s < 16 := by omega
    have nle : ¬ nI (2 ^ n) ≤ nI s := nI_ge (by omega) (by omega)
    by_cases h0 : hasI s c = 0
    · obtain ⟨t1, t2⟩ := sh_tab n hn c hc s (by omega) h0
      have f1 := fac_bd (popN s) (by omega)
      have f2 := fac_bd (n - 1 - popN s) (by omega)
      have hF : facN (popN s) * facN (n - 1 - popN s) ≤ 576 := Nat.mul_le_mul f1.2 f2.2
      have w1 := bd_worths R.1 (h := s ||| 2 ^ c) (by omega)
      have w2 := bd_worths R.1 (h := s) (by omega)
      obtain ⟨u, hu, hC, hM⟩ := ih (s + 1) (v + nI (facN (popN s) * facN (n - 1 - popN s)) * (ms_a ms (167 + (s ||| 2 ^ c)) - ms_a ms (167 + s))) cs ms (by omega) R (sh_add hs hv hF w1 w2)
      refine ⟨u, hu, ?_, ?_⟩
      · intro post hp
        rw [wC_X11_share_28, p1]
        refine p_no nle (p_yes h0 (q_bitCount (by omega) cs _ (q_fac (by omega) cs _ ?_)))
        rw [nI_sub (by omega), show nI (n - popN s) - 1 = nI (n - popN s - 1) from nI_sub (b := 1) (by omega), show n - popN s - 1 = n - 1 - popN s by omega]
        refine q_fac (by omega) cs _ ?_
        rw [p3, nI_or, p_at (by decide) _ t2, p_at (by decide) _ hs, rd_worths R.1 t2, rd_worths R.1 hs, nI_mul, nI_1]
        exact hC post hp
      · intro post hp
        rw [wM_share_28, p1]
        refine p_no nle ?_
        unfold wM_has
        have h1 : ¬ (k_shr (nI s) (nI c)) &&& 1 = 1 := by
          intro q
          have : hasI s c = 1 := q
          rw [h0] at this
          exact absurd this (by decide)
        refine p_no h1 (p_yes rfl (m_bits (by omega) ms _ (m_fac (by omega) ms _ (m_bits (by omega) ms _ ?_))))
        rw [show nI n - 1 = nI (n - 1) from nI_sub (b := 1) (by omega), nI_sub (by omega)]
        refine m_fac (by omega) ms _ ?_
        rw [p3, nI_or, nI_la 167 (s ||| 2 ^ c), nI_la 167 s, nI_clamp (by omega), nI_clamp (by omega), nI_mul, nI_1]
        exact ⟨vp_in_nI (by omega) (by decide), vp_in_nI (by omega) (by decide), hM post hp⟩
    · obtain ⟨u, hu, hC, hM⟩ := ih (s + 1) v cs ms (by omega) R (by omega)
      refine ⟨u, hu, ?_, ?_⟩
      · intro post hp
        rw [wC_X11_share_28, p1, nI_1]
        exact p_no nle (p_no h0 (hC post hp))
      · intro post hp
        rw [wM_share_28, p1, nI_1]
        refine p_no nle ?_
        unfold wM_has
        have h1 : (k_shr (nI s) (nI c)) &&& 1 = 1 := by
          rcases has_01 s hs c (by omega) with q | q
          · exact absurd q h0
          · exact q
        exact p_yes h1 (p_no (by decide) (hM post hp))
theorem sim_share {cs : CS} {ms : MS} (R : Rel cs ms) (p1 p2 p3 : Int32) : ∃ (r : Int32) (cs' : CS) (ms' : MS), rt (wC_X11_share p1 p2 p3 cs) r cs' ∧ rt (wM_share p1 p2 p3 ms) r ms' ∧ Rel cs' ms' := by
  by_cases c : (1 ≤ p2 ∧ p2 ≤ 4) ∧ (0 ≤ p1 ∧ p1 ≤ p2 - 1)
  · obtain ⟨c1, c2⟩ := c
    obtain ⟨n, hn, rfl⟩ := p_rng2 (n := 4) (by decide) (Int32.le_trans (by decide) c1.1) c1.2
    have hn1 : 1 ≤ n := (nI_leI (a := 1) (by decide) (by omega)).mp c1.1
    have en : nI n - 1 = nI (n - 1) := nI_sub (a := n) (b := 1) (by omega)
    have c2' := c2
    rw [en] at c2'
    obtain ⟨k, hk, rfl⟩ := p_rng2 (n := n - 1) (by omega) c2'.1 c2'.2
    obtain ⟨u, hu, hC, hM⟩ := sh_loop (n := n) (c := k) (by omega) (by omega) p3 (2 ^ n) 0 0 cs ms (by omega) R.1 (by decide)
    have fb := fac_bd n (by omega)
    obtain ⟨g, hg, hg2, g1, g2⟩ := lowest hu (b := facN n) (by omega) (by omega)
    refine ⟨(if p3 = 0 then u else nI (facN n)) / nI g, cs, ms, ?_, ?_, R⟩
    · intro post hp
      unfold wC_X11_share
      simp only [q_within, p_b0]
      refine p_val c1 (p_val c2 ⟨2 ^ n + 1, hC post (q_fac (by omega) cs _ (g1 p3 cs _ ?_))⟩)
      refine p_two (fun h => ?_) (fun h => ?_)
      · rw [if_pos h] at hp
        exact hp
      · rw [if_neg h] at hp
        exact hp
    · intro post hp
      unfold wM_share
      simp only [m_isIn, p_b0]
      refine p_val c1 (p_val c2 ⟨2 ^ n + 1, hM post (m_fac (by omega) ms _ ?_)⟩)
      have fin : ∀ t0 : Int32, post (t0 / nI g) ms → wM_share_125 post u (nI (facN n)) t0 ms := by
        intro t0 h
        unfold wM_share_125
        rw [nI_l (n := facN n) (by omega)]
        refine g2 ms _ ?_
        rw [lN_i]
        exact ⟨nI_ne0 hg hg2, h⟩
      refine p_two (fun h => ?_) (fun h => ?_)
      · rw [if_pos h] at hp
        exact fin _ hp
      · rw [if_neg h] at hp
        exact fin _ hp
  · refine ⟨-1, cs, ms, ?_, ?_, R⟩
    · intro post hp
      unfold wC_X11_share
      simp only [q_within, p_b0]
      exact p_inv hp (fun c1 => p_inv hp (fun c2 => absurd ⟨c1, c2⟩ c))
    · intro post hp
      unfold wM_share
      simp only [m_isIn, p_b0]
      exact p_inv hp (fun c1 => p_inv hp (fun c2 => absurd ⟨c1, c2⟩ c))
