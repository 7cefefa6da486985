/-! PURE LAYER: loops that fold -/
def upf {α : Type} (f : Nat → α → α) : Nat → Nat → α → α
  | 0, _, x => x
  | d + 1, i, x => upf f d (i + 1) (f i x)
theorem up_loopI {α : Type} (L : Nat → α → Int32 → Prop) (f : Nat → α → α) (Q : α → Prop) (I : Nat → α → Prop) (N : Nat) (hI : ∀ i x, i < N → I i x → I (i + 1) (f i x)) (h0 : ∀ n x, I N x → Q x → L (n + 1) x (nI N)) (h1 : ∀ n i x, i < N → I i x → L n (f i x) (nI (i + 1)) → L (n + 1) x (nI i)) : ∀ d i x, i + d = N → I i x → Q (upf f d i x) → L (d + 1) x (nI i) := by
  intro d
  induction d with
  | zero =>
    intro i x e hi q
    have e2 : i = N := by omega
    subst e2
    exact h0 0 x hi q
  | succ d ih =>
    intro i x e hi q
    exact h1 (d + 1) i x (by omega) hi (ih (i + 1) (f i x) (by omega) (hI i x (by omega) hi) q)
theorem up_loop {α : Type} (L : Nat → α → Int32 → Prop) (f : Nat → α → α) (Q : α → Prop) (N : Nat) (h0 : ∀ n x, Q x → L (n + 1) x (nI N)) (h1 : ∀ n i x, i < N → L n (f i x) (nI (i + 1)) → L (n + 1) x (nI i)) (x : α) (q : Q (upf f N 0 x)) : L (N + 1) x (nI 0) :=
  up_loopI L f Q (fun _ _ => True) N (fun _ _ _ _ => trivial) (fun n x _ => h0 n x) (fun n i x hi _ => h1 n i x hi) N 0 x (by omega) trivial q
theorem upf_I {α : Type} (f : Nat → α → α) (I : Nat → α → Prop) (N : Nat) (hI : ∀ i x, i < N → I i x → I (i + 1) (f i x)) : ∀ d i x, i + d = N → I i x → I N (upf f d i x) := by
  intro d
  induction d with
  | zero =>
    intro i x e h
    have e2 : i = N := by omega
    subst e2
    exact h
  | succ d ih =>
    intro i x e h
    exact ih (i + 1) (f i x) (by omega) (hI i x (by omega) h)
theorem nI_or (a b : Nat) : nI a ||| nI b = nI (a ||| b) := Int32.toBitVec.inj (by
  show BitVec.ofNat 32 a ||| BitVec.ofNat 32 b = BitVec.ofNat 32 (a ||| b)
  exact BitVec.ofNat_or.symm)
theorem nI_shl : ∀ k, k < 31 → k_shl 1 (nI k) = nI (2 ^ k) := by decide +kernel
theorem nI_set {x k n : Nat} (hx : x < 2 ^ n) (hk : k < n) (hn : n ≤ 31) : (nI x ||| k_shl 1 (nI k)) = nI (x ||| 2 ^ k) ∧ x ||| 2 ^ k < 2 ^ n := by
  refine ⟨by rw [nI_shl k (by omega), nI_or], ?_⟩
  exact Nat.or_lt_two_pow hx (Nat.pow_lt_pow_right (by decide) hk)
/-! the clowns at a house -/
def thS (a : Nat → Int32) (p : Int32) (i : Nat) (x : Int32) : Int32 := if a (47 + 5 * i) = p then x ||| k_shl 1 (nI i) else x
def thV (a : Nat → Int32) (p : Int32) : Int32 := upf (thS a p) (a 1).toNatClampNeg 0 0
theorem thV_lt (a : Nat → Int32) (p : Int32) {N : Nat} (hN : N ≤ 5) (e : a 1 = nI N) : ∃ m : Nat, m < 32 ∧ thV a p = nI m := by
  unfold thV
  rw [e, nI_clamp (by omega)]
  refine upf_I (thS a p) (fun _ x => ∃ m : Nat, m < 32 ∧ x = nI m) N ?_ N 0 0 (by omega) ⟨0, by decide, rfl⟩
  intro i x hi hx
  obtain ⟨m, hm, rfl⟩ := hx
  unfold thS
  split
  · obtain ⟨q1, q2⟩ := nI_set (n := 5) hm (show i < 5 by omega) (by decide)
    exact ⟨_, q2, q1⟩
  · exact ⟨m, hm, rfl⟩
theorem q_clownsAt {S : CS} {a : Nat → Int32} (R : RC S.1 a) (p : Int32) (post : Int32 → CS → Prop) (hp : post (thV a p) S) : wC_X0_clownsAt p S post := by
  have hC := bd_clowns R
  have eC := rd_clowns R
  obtain ⟨N, hN, eN⟩ := p_rng2 (n := 5) (by decide) hC.1 hC.2
  unfold thV at hp
  rw [eN, nI_clamp (by omega)] at hp
  refine ⟨N + 1, up_loop (fun n x i => wC_X0_clownsAt_4 post n p x i S) (thS a p) (fun x => post x S) N ?_ ?_ 0 hp⟩
  · intro n x q
    show wC_X0_clownsAt_4 post (n + 1) p x (nI N) S
    rw [wC_X0_clownsAt_4, q_clownCount (by rw [eC]; exact hC.2), eC, eN]
    exact p_yes (Int32.le_refl _) q
  · intro n i x hi q
    show wC_X0_clownsAt_4 post (n + 1) p x (nI i) S
    rw [wC_X0_clownsAt_4, q_clownCount (by rw [eC]; exact hC.2), eC, eN]
    refine p_no (nI_ge hi (by omega)) ?_
    rw [q_see_place (by omega), rd_place R (by omega), nI_1]
    unfold thS at q
    refine p_two (fun h => ?_) (fun h => ?_)
    · rw [if_pos h] at q
      exact q
    · rw [if_neg h] at q
      exact q
theorem m_thereAt {S : MS} (hC : 0 ≤ ms_a S 1 ∧ ms_a S 1 ≤ 5) (p : Int32) (post : Int32 → MS → Prop) (hp : post (thV (ms_a S) p) S) : wM_thereAt p S post := by
  obtain ⟨N, hN, eN⟩ := p_rng2 (n := 5) (by decide) hC.1 hC.2
  unfold thV at hp
  rw [eN, nI_clamp (by omega)] at hp
  refine ⟨N + 1, up_loop (fun n x i => wM_thereAt_4 post n p x i S) (thS (ms_a S) p) (fun x => post x S) N ?_ ?_ 0 hp⟩
  · intro n x q
    show wM_thereAt_4 post (n + 1) p x (nI N) S
    rw [wM_thereAt_4, eN]
    exact p_yes (Int32.le_refl _) q
  · intro n i x hi q
    show wM_thereAt_4 post (n + 1) p x (nI i) S
    rw [wM_thereAt_4, eN]
    refine p_no (nI_ge hi (by omega)) ?_
    rw [m_own_at (by omega), nI_1]
    unfold thS at q
    refine p_two (fun h => ?_) (fun h => ?_)
    · rw [if_pos h] at q
      exact q
    · rw [if_neg h] at q
      rw [Int32.or_zero]
      exact q
/-! counting bits -/
def bitsO : Nat → Int32 → Int32 → Option Int32
  | 0, _, _ => none
  | n + 1, a, x => if x = 0 then some a else bitsO n (a + 1) (x &&& (x - 1))
def popN (m : Nat) : Nat := m % 2 + m / 2 % 2 + m / 4 % 2 + m / 8 % 2 + m / 16 % 2 + m / 32 % 2 + m / 64 % 2 + m / 128 % 2 + m / 256 % 2 + m / 512 % 2
theorem bits_run (post : Int32 → MS → Prop) (S : MS) (r : Int32) (hp : post r S) : ∀ n a x, bitsO n a x = some r → wM_bits_4 post n a x S := by
  intro n
  induction n with
  | zero =>
    intro a x h
    exact absurd h (by simp [bitsO])
  | succ n ih =>
    intro a x h
    rw [bitsO] at h
    rw [wM_bits_4]
    refine p_two (fun e => ?_) (fun e => ?_)
    · rw [if_pos e] at h
      rw [Option.some.inj h]
      exact hp
    · rw [if_neg e] at h
      exact ih _ _ h
theorem bits_tab : ∀ m, m < 1024 → bitsO 11 0 (nI m) = some (nI (popN m)) := by decide +kernel
theorem m_bits {m : Nat} (hm : m < 1024) (S : MS) (post : Int32 → MS → Prop) (hp : post (nI (popN m)) S) : wM_bits (nI m) S post := ⟨11, bits_run post S _ hp 11 0 (nI m) (bits_tab m hm)⟩
def bcF (p1 : Int32) : Int32 := (((((((p1 - ((k_ushr p1 1) &&& 1431655765)) &&& 858993459) + ((k_ushr (p1 - ((k_ushr p1 1) &&& 1431655765)) 2) &&& 858993459)) + (k_ushr (((p1 - ((k_ushr p1 1) &&& 1431655765)) &&& 858993459) + ((k_ushr (p1 - ((k_ushr p1 1) &&& 1431655765)) 2) &&& 858993459)) 4)) &&& 252645135) + (k_ushr (((((p1 - ((k_ushr p1 1) &&& 1431655765)) &&& 858993459) + ((k_ushr (p1 - ((k_ushr p1 1) &&& 1431655765)) 2) &&& 858993459)) + (k_ushr (((p1 - ((k_ushr p1 1) &&& 1431655765)) &&& 858993459) + ((k_ushr (p1 - ((k_ushr p1 1) &&& 1431655765)) 2) &&& 858993459)) 4)) &&& 252645135) 8)) + (k_ushr ((((((p1 - ((k_ushr p1 1) &&& 1431655765)) &&& 858993459) + ((k_ushr (p1 - ((k_ushr p1 1) &&& 1431655765)) 2) &&& 858993459)) + (k_ushr (((p1 - ((k_ushr p1 1) &&& 1431655765)) &&& 858993459) + ((k_ushr (p1 - ((k_ushr p1 1) &&& 1431655765)) 2) &&& 858993459)) 4)) &&& 252645135) + (k_ushr (((((p1 - ((k_ushr p1 1) &&& 1431655765)) &&& 858993459) + ((k_ushr (p1 - ((k_ushr p1 1) &&& 1431655765)) 2) &&& 858993459)) + (k_ushr (((p1 - ((k_ushr p1 1) &&& 1431655765)) &&& 858993459) + ((k_ushr (p1 - ((k_ushr p1 1) &&& 1431655765)) 2) &&& 858993459)) 4)) &&& 252645135) 8)) 16)) &&& 63
theorem bc_tab : ∀ m, m < 1024 → bcF (nI m) = nI (popN m) := by decide +kernel
theorem q_bitCount {m : Nat} (hm : m < 1024) (S : CS) (post : Int32 → CS → Prop) (hp : post (nI (popN m)) S) : wC_J6_bitCount_0f7a4 (nI m) S post := by
  rw [← bc_tab m hm] at hp
  exact hp
/-! all grief -/
def agV (a : Nat → Int32) : Int32 := upf (fun i x => x + a (10 + 6 * i)) (a 0).toNatClampNeg 0 0
theorem q_allGrief {S : CS} {a : Nat → Int32} (R : RC S.1 a) (post : Int32 → CS → Prop) (hp : post (agV a) S) : wC_X0_allGrief S post := by
  have hC := bd_houses R
  have eC := rd_houses R
  obtain ⟨N, hN, eN⟩ := p_rng2 (n := 6) (by decide) hC.1 hC.2
  unfold agV at hp
  rw [eN, nI_clamp (by omega)] at hp
  refine ⟨N + 1, up_loop (fun n x i => wC_X0_allGrief_4 post n x i S) (fun i x => x + a (10 + 6 * i)) (fun x => post x S) N ?_ ?_ 0 hp⟩
  · intro n x q
    show wC_X0_allGrief_4 post (n + 1) x (nI N) S
    rw [wC_X0_allGrief_4, q_houseCount (by rw [eC]; exact hC.2), eC, eN]
    exact p_yes (Int32.le_refl _) q
  · intro n i x hi q
    show wC_X0_allGrief_4 post (n + 1) x (nI i) S
    rw [wC_X0_allGrief_4, q_houseCount (by rw [eC]; exact hC.2), eC, eN]
    refine p_no (nI_ge hi (by omega)) ?_
    rw [q_see_grief (by omega), rd_grief R (by omega), nI_1]
    exact q
theorem m_griefOfAll {S : MS} (hC : 0 ≤ ms_a S 0 ∧ ms_a S 0 ≤ 6) (post : Int32 → MS → Prop) (hp : post (agV (ms_a S)) S) : wM_griefOfAll S post := by
  obtain ⟨N, hN, eN⟩ := p_rng2 (n := 6) (by decide) hC.1 hC.2
  unfold agV at hp
  rw [eN, nI_clamp (by omega)] at hp
  refine ⟨N + 1, up_loop (fun n x i => wM_griefOfAll_4 post n x i S) (fun i x => x + ms_a S (10 + 6 * i)) (fun x => post x S) N ?_ ?_ 0 hp⟩
  · intro n x q
    show wM_griefOfAll_4 post (n + 1) x (nI N) S
    rw [wM_griefOfAll_4, eN]
    exact p_yes (Int32.le_refl _) q
  · intro n i x hi q
    show wM_griefOfAll_4 post (n + 1) x (nI i) S
    rw [wM_griefOfAll_4, eN]
    refine p_no (nI_ge hi (by omega)) ?_
    rw [m_get_grief (by omega), nI_1]
    exact q
/-! clocks -/
def ckS (a : Nat → Int32) (p : Int32) (i : Nat) (x : Int32) : Int32 := if a (12 + 6 * i) = p then x ||| k_shl 1 (nI i) else x
theorem sim_clocks {cs : CS} {ms : MS} (R : Rel cs ms) (p1 : Int32) : ∃ (r : Int32) (cs' : CS) (ms' : MS), rt (wC_X11_clocks p1 cs) r cs' ∧ rt (wM_clocks p1 ms) r ms' ∧ Rel cs' ms' := by
  have hH := bd_houses R.1.1
  have eH := rd_houses R.1.1
  have hC := bd_clowns R.1.1
  have eC := rd_clowns R.1.1
  obtain ⟨N, hN, eN⟩ := p_rng2 (n := 6) (by decide) hH.1 hH.2
  by_cases c : 0 ≤ p1 ∧ p1 < ms_a ms 1
  · refine ⟨upf (ckS (ms_a ms) p1) N 0 0, cs, ms, ?_, ?_, R⟩
    · intro post hp
      unfold wC_X11_clocks
      rw [q_hasClown, p_b0, eC]
      refine p_val c ⟨N + 1, up_loop (fun n x i => wC_X11_clocks_17 post n p1 x i cs) (ckS (ms_a ms) p1) (fun x => post x cs) N ?_ ?_ 0 hp⟩
      · intro n x q
        show wC_X11_clocks_17 post (n + 1) p1 x (nI N) cs
        rw [wC_X11_clocks_17, q_houseCount (by rw [eH]; exact hH.2), eH, eN]
        exact p_yes (Int32.le_refl _) q
      · intro n i x hi q
        show wC_X11_clocks_17 post (n + 1) p1 x (nI i) cs
        rw [wC_X11_clocks_17, q_houseCount (by rw [eH]; exact hH.2), eH, eN]
        refine p_no (nI_ge hi (by omega)) ?_
        rw [q_see_clock (by omega), rd_clock R.1.1 (by omega), nI_1]
        unfold ckS at q
        refine p_two (fun h => ?_) (fun h => ?_)
        · rw [if_pos h] at q
          exact q
        · rw [if_neg h] at q
          exact q
    · intro post hp
      unfold wM_clocks
      rw [m_isClown _ hC, p_b0]
      refine p_val c ⟨N + 1, up_loop (fun n x i => wM_clocks_14 post n p1 x i ms) (ckS (ms_a ms) p1) (fun x => post x ms) N ?_ ?_ 0 hp⟩
      · intro n x q
        show wM_clocks_14 post (n + 1) p1 x (nI N) ms
        rw [wM_clocks_14, eN]
        exact p_yes (Int32.le_refl _) q
      · intro n i x hi q
        show wM_clocks_14 post (n + 1) p1 x (nI i) ms
        rw [wM_clocks_14, eN]
        refine p_no (nI_ge hi (by omega)) ?_
        rw [m_get_clock (by omega), nI_1]
        unfold ckS at q
        refine p_two (fun h => ?_) (fun h => ?_)
        · rw [if_pos h] at q
          exact q
        · rw [if_neg h] at q
          rw [Int32.or_zero]
          exact q
  · refine ⟨-1, cs, ms, ?_, ?_, R⟩
    · intro post hp
      unfold wC_X11_clocks
      rw [q_hasClown, p_b0, eC]
      exact p_inv hp (fun c1 => absurd c1 c)
    · intro post hp
      unfold wM_clocks
      rw [m_isClown _ hC, p_b0]
      exact p_inv hp (fun c1 => absurd c1 c)
/-! the highest -/
def hiS (v : Nat → Int32) (i : Nat) (x : Int32) : Int32 := if x = -1 then nI i else if v i ≤ v x.toNatClampNeg then x else nI i
def hiI (i : Nat) (x : Int32) : Prop := x = -1 ∨ ∃ j : Nat, j < i ∧ x = nI j
theorem hiI_step (v : Nat → Int32) (i : Nat) (x : Int32) (h : hiI i x) : hiI (i + 1) (hiS v i x) := by
  unfold hiS
  split
  · exact Or.inr ⟨i, by omega, rfl⟩
  · split
    · rcases h with h | ⟨j, hj, e⟩
      · exact absurd h (by assumption)
      · exact Or.inr ⟨j, by omega, e⟩
    · exact Or.inr ⟨i, by omega, rfl⟩
theorem sim_saddest {cs : CS} {ms : MS} (R : Rel cs ms) : ∃ (r : Int32) (cs' : CS) (ms' : MS), rt (wC_X11_saddest  cs) r cs' ∧ rt (wM_saddest  ms) r ms' ∧ Rel cs' ms' := by
  have hH := bd_houses R.1.1
  have eH := rd_houses R.1.1
  obtain ⟨N, hN, eN⟩ := p_rng2 (n := 6) (by decide) hH.1 hH.2
  refine ⟨upf (hiS (fun i => ms_a ms (10 + 6 * i))) N 0 (-1), cs, ms, ?_, ?_, R⟩
  · intro post hp
    unfold wC_X11_saddest
    rw [q_houseCount (by rw [eH]; exact hH.2), eH, eN]
    refine ⟨N + 1, up_loopI (fun n x i => wC_X0_highest_5 (fun r_3 S_4 => post r_3 S_4) n 0 (nI N) x i cs) (hiS (fun i => ms_a ms (10 + 6 * i))) (fun x => post x cs) hiI N (fun i x _ h => hiI_step _ i x h) ?_ ?_ N 0 (-1) (by omega) (Or.inl rfl) hp⟩
    · intro n x _ q
      show wC_X0_highest_5 (fun r_3 S_4 => post r_3 S_4) (n + 1) 0 (nI N) x (nI N) cs
      rw [wC_X0_highest_5]
      exact p_yes (Int32.le_refl _) q
    · intro n i x hi hx q
      show wC_X0_highest_5 (fun r_3 S_4 => post r_3 S_4) (n + 1) 0 (nI N) x (nI i) cs
      rw [wC_X0_highest_5]
      refine p_no (nI_ge hi (by omega)) ?_
      unfold hiS at q
      rw [nI_1]
      refine p_two (fun h => ?_) (fun h => ?_)
      · rw [if_pos h] at q
        exact q
      · rw [if_neg h] at q
        rcases hx with hx | ⟨j, hj, rfl⟩
        · exact absurd hx h
        · rw [q_see_grief (by omega), q_see_grief (by omega), rd_grief R.1.1 (by omega), rd_grief R.1.1 (by omega)]
          rw [nI_clamp (by omega)] at q
          refine p_two (fun g => ?_) (fun g => ?_)
          · rw [if_pos g] at q
            exact q
          · rw [if_neg g] at q
            exact q
  · intro post hp
    unfold wM_saddest
    refine ⟨N + 1, up_loopI (fun n x i => wM_saddest_4 post n x i ms) (hiS (fun i => ms_a ms (10 + 6 * i))) (fun x => post x ms) hiI N (fun i x _ h => hiI_step _ i x h) ?_ ?_ N 0 (-1) (by omega) (Or.inl rfl) hp⟩
    · intro n x _ q
      show wM_saddest_4 post (n + 1) x (nI N) ms
      rw [wM_saddest_4, eN]
      exact p_yes (Int32.le_refl _) q
    · intro n i x hi hx q
      show wM_saddest_4 post (n + 1) x (nI i) ms
      rw [wM_saddest_4, eN]
      refine p_no (nI_ge hi (by omega)) ?_
      unfold hiS at q
      rw [nI_1]
      refine p_two (fun h => ?_) (fun h => ?_)
      · rw [if_pos h] at q
        exact q
      · rw [if_neg h] at q
        rcases hx with hx | ⟨j, hj, rfl⟩
        · exact absurd hx h
        · rw [m_get_grief (by omega), m_get_grief (by omega)]
          rw [nI_clamp (by omega)] at q
          refine p_two (fun g => ?_) (fun g => ?_)
          · rw [if_pos g] at q
            exact q
          · rw [if_neg g] at q
            exact q
theorem sim_tiredest {cs : CS} {ms : MS} (R : Rel cs ms) : ∃ (r : Int32) (cs' : CS) (ms' : MS), rt (wC_X11_tiredest  cs) r cs' ∧ rt (wM_tiredest  ms) r ms' ∧ Rel cs' ms' := by
  have hH := bd_clowns R.1.1
  have eH := rd_clowns R.1.1
  obtain ⟨N, hN, eN⟩ := p_rng2 (n := 5) (by decide) hH.1 hH.2
  refine ⟨upf (hiS (fun i => ms_a ms (46 + 5 * i))) N 0 (-1), cs, ms, ?_, ?_, R⟩
  · intro post hp
    unfold wC_X11_tiredest
    rw [q_clownCount (by rw [eH]; exact hH.2), eH, eN]
    refine ⟨N + 1, up_loopI (fun n x i => wC_X0_highest_5 (fun r_3 S_4 => post r_3 S_4) n 24 (nI N) x i cs) (hiS (fun i => ms_a ms (46 + 5 * i))) (fun x => post x cs) hiI N (fun i x _ h => hiI_step _ i x h) ?_ ?_ N 0 (-1) (by omega) (Or.inl rfl) hp⟩
    · intro n x _ q
      show wC_X0_highest_5 (fun r_3 S_4 => post r_3 S_4) (n + 1) 24 (nI N) x (nI N) cs
      rw [wC_X0_highest_5]
      exact p_yes (Int32.le_refl _) q
    · intro n i x hi hx q
      show wC_X0_highest_5 (fun r_3 S_4 => post r_3 S_4) (n + 1) 24 (nI N) x (nI i) cs
      rw [wC_X0_highest_5]
      refine p_no (nI_ge hi (by omega)) ?_
      unfold hiS at q
      rw [nI_1]
      refine p_two (fun h => ?_) (fun h => ?_)
      · rw [if_pos h] at q
        exact q
      · rw [if_neg h] at q
        rcases hx with hx | ⟨j, hj, rfl⟩
        · exact absurd hx h
        · rw [q_see_tired (by omega), q_see_tired (by omega), rd_tired R.1.1 (by omega), rd_tired R.1.1 (by omega)]
          rw [nI_clamp (by omega)] at q
          refine p_two (fun g => ?_) (fun g => ?_)
          · rw [if_pos g] at q
            exact q
          · rw [if_neg g] at q
            exact q
  · intro post hp
    unfold wM_tiredest
    refine ⟨N + 1, up_loopI (fun n x i => wM_tiredest_4 post n x i ms) (hiS (fun i => ms_a ms (46 + 5 * i))) (fun x => post x ms) hiI N (fun i x _ h => hiI_step _ i x h) ?_ ?_ N 0 (-1) (by omega) (Or.inl rfl) hp⟩
    · intro n x _ q
      show wM_tiredest_4 post (n + 1) x (nI N) ms
      rw [wM_tiredest_4, eN]
      exact p_yes (Int32.le_refl _) q
    · intro n i x hi hx q
      show wM_tiredest_4 post (n + 1) x (nI i) ms
      rw [wM_tiredest_4, eN]
      refine p_no (nI_ge hi (by omega)) ?_
      unfold hiS at q
      rw [nI_1]
      refine p_two (fun h => ?_) (fun h => ?_)
      · rw [if_pos h] at q
        exact q
      · rw [if_neg h] at q
        rcases hx with hx | ⟨j, hj, rfl⟩
        · exact absurd hx h
        · rw [m_own_tired (by omega), m_own_tired (by omega)]
          rw [nI_clamp (by omega)] at q
          refine p_two (fun g => ?_) (fun g => ?_)
          · rw [if_pos g] at q
            exact q
          · rw [if_neg g] at q
            exact q
