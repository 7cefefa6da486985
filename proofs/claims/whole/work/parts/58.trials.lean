/-! PURE LAYER: trials -/
def erS (a : Nat → Int32) (b : Int32) (i : Nat) (x : Int32) : Int32 := if b ≤ a (151 + 2 * i) then (if a (152 + 2 * i) = 1 then x + 1 else x + 0) else (if a (152 + 2 * i) = 1 then x + 0 else x + 1)
def erV (a : Nat → Int32) (b : Int32) : Int32 := upf (erS a b) (a 5).toNatClampNeg 0 0
theorem q_errorsAt {S : CS} {a : Nat → Int32} (R : RC S.1 a) (b : Int32) (post : Int32 → CS → Prop) (hp : post (erV a b) S) : wC_X0_errorsAt b S post := by
  have hC := bd_trialCount R
  have eC := rd_trialCount R
  obtain ⟨N, hN, eN⟩ := p_rng2 (n := 8) (by decide) hC.1 hC.2
  unfold erV at hp
  rw [eN, nI_clamp (by omega)] at hp
  refine ⟨N + 1, up_loop (fun n x i => wC_X0_errorsAt_4 post n b x i S) (erS a b) (fun x => post x S) N ?_ ?_ 0 hp⟩
  · intro n x q
    show wC_X0_errorsAt_4 post (n + 1) b x (nI N) S
    rw [wC_X0_errorsAt_4, eC, eN]
    exact p_yes (Int32.le_refl _) q
  · intro n i x hi q
    show wC_X0_errorsAt_4 post (n + 1) b x (nI i) S
    rw [wC_X0_errorsAt_4, eC, eN]
    refine p_no (nI_ge hi (by omega)) ?_
    obtain ⟨t1, t2, t3, t4⟩ := (R.2.2.1 i (by omega)).1 (by rw [eN]; exact nI_lt hi (by omega))
    obtain ⟨g, hg, eg⟩ := p_rng2 (n := 99) (by decide) t2 t3
    obtain ⟨l, hl, el⟩ : ∃ l : Nat, l ≤ 1 ∧ a (152 + 2 * i) = nI l := by
      rcases t4 with h | h
      · exact ⟨0, by decide, h⟩
      · exact ⟨1, by decide, h⟩
    have t1' : cx_c_trials S i = nI (2 * g + l) := by
      have : cx_c_trials S i = 2 * a (151 + 2 * i) + a (152 + 2 * i) := t1
      rw [this, eg, el, nI_lm 2 g, nI_add]
    have d2 : nI (2 * g + l) / 2 = nI g := by
      have := p_div (n := 2 * g + l) (d := 2) (by omega) (by decide)
      rw [show (2 * g + l) / 2 = g by omega] at this
      exact this
    have r2 : k_rem (nI (2 * g + l)) 2 = nI l := by
      have := p_rem (n := 2 * g + l) (d := 2) (by omega) (by decide)
      rw [show (2 * g + l) % 2 = l by omega] at this
      exact this
    unfold wC_X0_errorsAt_35
    rw [p_at (by decide) _ (show i < 8 by omega), t1', d2, r2, nI_1]
    unfold erS at q
    rw [eg, el] at q
    have hl2 : l = 0 ∨ l = 1 := by omega
    refine p_two (fun h => ?_) (fun h => ?_)
    · rw [if_pos h] at q
      rcases hl2 with e | e <;> subst e
      · exact p_yes rfl q
      · exact p_no (by decide) q
    · rw [if_neg h] at q
      rcases hl2 with e | e <;> subst e
      · exact p_no (by decide) q
      · exact p_yes rfl q
theorem m_errorsBy {S : MS} (hC : 0 ≤ ms_a S 5 ∧ ms_a S 5 ≤ 8) (b : Int32) (post : Int32 → MS → Prop) (hp : post (erV (ms_a S) b) S) : wM_errorsBy b S post := by
  obtain ⟨N, hN, eN⟩ := p_rng2 (n := 8) (by decide) hC.1 hC.2
  unfold erV at hp
  rw [eN, nI_clamp (by omega)] at hp
  refine ⟨N + 1, up_loop (fun n x i => wM_errorsBy_4 post n b x i S) (erS (ms_a S) b) (fun x => post x S) N ?_ ?_ 0 hp⟩
  · intro n x q
    show wM_errorsBy_4 post (n + 1) b x (nI N) S
    rw [wM_errorsBy_4, eN]
    exact p_yes (Int32.le_refl _) q
  · intro n i x hi q
    show wM_errorsBy_4 post (n + 1) b x (nI i) S
    rw [wM_errorsBy_4, eN]
    refine p_no (nI_ge hi (by omega)) ?_
    unfold wM_errorsBy_36 wM_errorsBy_59
    rw [nI_lm 2 i, nI_la 151 (2 * i), nI_1, nI_1, nI_clamp (by omega), nI_clamp (by omega), show 151 + 2 * i + 1 = 152 + 2 * i by omega]
    have v1 : vp_in (nI (152 + 2 * i)) 2454 := vp_in_nI (by omega) (by decide)
    unfold erS at q
    refine ⟨vp_in_nI (by omega) (by decide), p_two (fun h => ⟨v1, ?_⟩) (fun h => ⟨v1, ?_⟩)⟩
    · rw [if_pos h] at q
      refine p_two (fun g => ?_) (fun g => ?_)
      · rw [if_pos g] at q
        exact p_no (by decide) q
      · rw [if_neg g] at q
        exact p_yes rfl q
    · rw [if_neg h] at q
      refine p_two (fun g => ?_) (fun g => ?_)
      · rw [if_pos g] at q
        exact p_yes rfl q
      · rw [if_neg g] at q
        exact p_no (by decide) q
def lsS (a : Nat → Int32) (i : Nat) (x : Int32) : Int32 := if erV a (nI i) < x then erV a (nI i) else x
def lsV (a : Nat → Int32) : Int32 := upf (lsS a) 100 1 (erV a 0)
theorem lsV_has (a : Nat → Int32) : ∃ b : Nat, b ≤ 100 ∧ erV a (nI b) = lsV a := by
  have q := upf_I (lsS a) (fun i x => ∃ b : Nat, b < i ∧ erV a (nI b) = x) 101 (by
    intro i x hi h
    unfold lsS
    split
    · exact ⟨i, by omega, rfl⟩
    · obtain ⟨b, hb, e⟩ := h
      exact ⟨b, by omega, e⟩) 100 1 (erV a 0) (by omega) ⟨0, by omega, rfl⟩
  obtain ⟨b, hb, e⟩ := q
  exact ⟨b, by omega, e⟩
theorem q_leastErrors {S : CS} {a : Nat → Int32} (R : RC S.1 a) (post : Int32 → CS → Prop) (hp : post (lsV a) S) : wC_X0_leastErrors S post := by
  unfold wC_X0_leastErrors
  refine q_errorsAt R 0 _ ⟨101, up_loopI (fun n x i => wC_X0_leastErrors_8 post n x i S) (lsS a) (fun x => post x S) (fun _ _ => True) 101 (fun _ _ _ _ => trivial) ?_ ?_ 100 1 (erV a 0) (by omega) trivial hp⟩
  · intro n x _ q
    show wC_X0_leastErrors_8 post (n + 1) x (nI 101) S
    rw [wC_X0_leastErrors_8]
    exact p_yes (by decide) q
  · intro n i x hi _ q
    show wC_X0_leastErrors_8 post (n + 1) x (nI i) S
    rw [wC_X0_leastErrors_8]
    refine p_no (nI_nlt (a := 100) (b := i) (by omega) (by decide)) (q_errorsAt R _ _ ?_)
    rw [nI_1]
    exact q
theorem m_leastErrors {S : MS} (hC : 0 ≤ ms_a S 5 ∧ ms_a S 5 ≤ 8) (post : Int32 → MS → Prop) (hp : post (lsV (ms_a S)) S) : wM_leastErrors S post := by
  unfold wM_leastErrors
  refine m_errorsBy hC 0 _ ⟨101, up_loopI (fun n x i => wM_leastErrors_8 post n x i S) (lsS (ms_a S)) (fun x => post x S) (fun _ _ => True) 101 (fun _ _ _ _ => trivial) ?_ ?_ 100 1 (erV (ms_a S) 0) (by omega) trivial hp⟩
  · intro n x _ q
    show wM_leastErrors_8 post (n + 1) x (nI 101) S
    rw [wM_leastErrors_8]
    exact p_yes (by decide) q
  · intro n i x hi _ q
    show wM_leastErrors_8 post (n + 1) x (nI i) S
    rw [wM_leastErrors_8]
    refine p_no (nI_nlt (a := 100) (b := i) (by omega) (by decide)) (m_errorsBy hC _ _ ?_)
    unfold lsS at q
    rw [nI_1]
    refine p_two (fun h => ?_) (fun h => m_errorsBy hC _ _ ?_)
    · rw [if_neg (Int32.not_lt.mpr h)] at q
      exact q
    · rw [if_pos (Int32.not_le.mp h)] at q
      exact q
theorem least_ex (P : Nat → Prop) : ∀ b, P b → ∃ m, m ≤ b ∧ P m ∧ ∀ c, c < m → ¬ P c := by
  intro b
  induction b using Nat.strongRecOn with
  | ind b ih =>
    intro hb
    by_cases h : ∃ c, c < b ∧ P c
    · obtain ⟨c, hc, pc⟩ := h
      obtain ⟨m, h1, h2, h3⟩ := ih c hc pc
      exact ⟨m, by omega, h2, h3⟩
    · exact ⟨b, Nat.le_refl b, hb, fun c hc pc => h ⟨c, hc, pc⟩⟩
theorem great_ex (P : Nat → Prop) (n : Nat) : ∀ d b, b + d = n → P b → ∃ m, b ≤ m ∧ m ≤ n ∧ P m ∧ ∀ c, m < c → c ≤ n → ¬ P c := by
  intro d
  induction d with
  | zero =>
    intro b e hb
    exact ⟨b, Nat.le_refl b, by omega, hb, fun c h1 h2 => by omega⟩
  | succ d ih =>
    intro b e hb
    by_cases h : ∃ c, b < c ∧ c ≤ n ∧ P c
    · have hm : ∃ m, b + 1 ≤ m ∧ m ≤ n ∧ P m ∧ ∀ c, m < c → c ≤ n → ¬ P c := by
        clear hb
        obtain ⟨c, h1, h2, h3⟩ := h
        -- the greatest by the least of n - c
        obtain ⟨k, k1, k2, k3⟩ := least_ex (fun k => k ≤ n ∧ P (n - k)) (n - c) ⟨by omega, by rw [show n - (n - c) = c by omega]; exact h3⟩
        refine ⟨n - k, by omega, by omega, k2.2, ?_⟩
        intro c' g1 g2 g3
        exact k3 (n - c') (by omega) ⟨by omega, by rw [show n - (n - c') = c' by omega]; exact g3⟩
      obtain ⟨m, m1, m2, m3, m4⟩ := hm
      exact ⟨m, by omega, m2, m3, m4⟩
    · exact ⟨b, Nat.le_refl b, by omega, hb, fun c h1 h2 pc => h ⟨c, h1, h2, pc⟩⟩
/-- a loop downward -/
def dnf {α : Type} (f : Nat → α → α) : Nat → α → α
  | 0, x => x
  | d + 1, x => dnf f d (f d x)
theorem dn_loop {α : Type} (L : Nat → α → Int32 → Prop) (f : Nat → α → α) (Q : α → Prop) (h0 : ∀ n x, Q x → L (n + 1) x (-1)) (h1 : ∀ n i x, i < 2147483647 → L n (f i x) (nI i + (-1)) → L (n + 1) x (nI i)) : ∀ d x, d < 2147483647 → Q (dnf f (d + 1) x) → L (d + 2) x (nI d) := by
  intro d
  induction d with
  | zero =>
    intro x _ q
    exact h1 1 0 x (by decide) (h0 0 _ q)
  | succ d ih =>
    intro x hd q
    refine h1 (d + 2) (d + 1) x (by omega) ?_
    have e : nI (d + 1) + (-1) = nI d := by
      rw [← Int32.sub_eq_add_neg]
      exact nI_pred d
    rw [e]
    exact ih _ (by omega) q
theorem dnf_I {α : Type} (f : Nat → α → α) (I : Nat → α → Prop) (hI : ∀ i x, I (i + 1) x → I i (f i x)) : ∀ d x, I d x → I 0 (dnf f d x) := by
  intro d
  induction d with
  | zero =>
    intro x h
    exact h
  | succ d ih =>
    intro x h
    exact ih _ (hI d x h)
theorem q_leastBorne {S : CS} {a : Nat → Int32} (R : RC S.1 a) (post : Int32 → CS → Prop) {m : Nat} (m1 : m ≤ 100) (m2 : erV a (nI m) = lsV a) (m3 : ∀ c, c < m → ¬ erV a (nI c) = lsV a) (hp : post (nI m) S) : wC_X0_leastBorne S post := by
  refine q_leastErrors R _ ⟨102, dn_loop (fun n x i => wC_X0_leastBorne_10 post n (lsV a) x i S) (fun i x => if erV a (nI i) = lsV a then nI i else x) (fun x => post x S) ?_ ?_ 100 0 (by decide) ?_⟩
  · intro n x q
    show wC_X0_leastBorne_10 post (n + 1) (lsV a) x (-1) S
    rw [wC_X0_leastBorne_10]
    exact p_yes (by decide) q
  · intro n i x hi q
    show wC_X0_leastBorne_10 post (n + 1) (lsV a) x (nI i) S
    rw [wC_X0_leastBorne_10]
    refine p_no (nI_pos (by omega)) (q_errorsAt R _ _ (p_two (fun h => ?_) (fun h => ?_)))
    · have q' : wC_X0_leastBorne_10 post n (lsV a) (if erV a (nI i) = lsV a then nI i else x) (nI i + (-1)) S := q
      rw [if_pos h] at q'
      exact q'
    · have q' : wC_X0_leastBorne_10 post n (lsV a) (if erV a (nI i) = lsV a then nI i else x) (nI i + (-1)) S := q
      rw [if_neg h] at q'
      exact q'
  · have e := dnf_I (fun i x => if erV a (nI i) = lsV a then nI i else x) (fun i x => i ≤ m → x = nI m) (by
      intro i x h hi
      by_cases c : i = m
      · subst c
        exact if_pos m2
      · show (if erV a (nI i) = lsV a then nI i else x) = nI m
        rw [if_neg (m3 i (by omega))]
        exact h (by omega)) 101 0 (fun h => by omega)
    rw [e (by omega)]
    exact hp
theorem q_greatestBorne {S : CS} {a : Nat → Int32} (R : RC S.1 a) (post : Int32 → CS → Prop) {m : Nat} (m1 : m ≤ 100) (m2 : erV a (nI m) = lsV a) (m3 : ∀ c, m < c → c ≤ 100 → ¬ erV a (nI c) = lsV a) (hp : post (nI m) S) : wC_X0_greatestBorne S post := by
  refine q_leastErrors R _ ⟨102, up_loop (fun n x i => wC_X0_greatestBorne_9 post n (lsV a) x i S) (fun i x => if erV a (nI i) = lsV a then nI i else x) (fun x => post x S) 101 ?_ ?_ 0 ?_⟩
  · intro n x q
    show wC_X0_greatestBorne_9 post (n + 1) (lsV a) x (nI 101) S
    rw [wC_X0_greatestBorne_9]
    exact p_yes (by decide) q
  · intro n i x hi q
    show wC_X0_greatestBorne_9 post (n + 1) (lsV a) x (nI i) S
    rw [wC_X0_greatestBorne_9]
    have q' : wC_X0_greatestBorne_9 post n (lsV a) (if erV a (nI i) = lsV a then nI i else x) (nI (i + 1)) S := q
    refine p_no (nI_nlt (a := 100) (b := i) (by omega) (by decide)) (q_errorsAt R _ _ ?_)
    rw [nI_1]
    refine p_two (fun h => ?_) (fun h => ?_)
    · rw [if_pos h] at q'
      exact q'
    · rw [if_neg h] at q'
      exact q'
  · have e := upf_I (fun i x => if erV a (nI i) = lsV a then nI i else x) (fun i x => m < i → x = nI m) 101 (by
      intro i x hi h hm
      by_cases c : i = m
      · subst c
        exact if_pos m2
      · show (if erV a (nI i) = lsV a then nI i else x) = nI m
        rw [if_neg (m3 i (by omega) (by omega))]
        exact h (by omega)) 101 0 0 (by omega) (fun h => by omega)
    rw [e (by omega)]
    exact hp
def beS (a : Nat → Int32) (i : Nat) (x : Int32 × Int32) : Int32 × Int32 := if erV a (nI i) = lsV a then (if x.1 = -1 then nI i else x.1, nI i) else x
theorem m_bears {S : MS} (hC : 0 ≤ ms_a S 5 ∧ ms_a S 5 ≤ 8) (p : Int32) (post : Int32 → MS → Prop) {m M : Nat} (m1 : m ≤ 100) (m2 : erV (ms_a S) (nI m) = lsV (ms_a S)) (m3 : ∀ c, c < m → ¬ erV (ms_a S) (nI c) = lsV (ms_a S)) (M1 : M ≤ 100) (M2 : erV (ms_a S) (nI M) = lsV (ms_a S)) (M3 : ∀ c, M < c → c ≤ 100 → ¬ erV (ms_a S) (nI c) = lsV (ms_a S)) (hp : (p = 0 → post (lsV (ms_a S)) S) ∧ (¬ p = 0 → ((p = 1 → post (nI m) S) ∧ (¬ p = 1 → post (nI M) S)))) : ∃ k : Nat, wM_bears_25 post k p (lsV (ms_a S)) (-1) (-1) 0 S := by
  refine ⟨102, up_loop (fun n x i => wM_bears_25 post n p (lsV (ms_a S)) x.1 x.2 i S) (beS (ms_a S)) (fun x => (p = 0 → post (lsV (ms_a S)) S) ∧ (¬ p = 0 → ((p = 1 → post x.1 S) ∧ (¬ p = 1 → post x.2 S)))) 101 ?_ ?_ (-1, -1) ?_⟩
  · intro n x q
    show wM_bears_25 post (n + 1) p (lsV (ms_a S)) x.1 x.2 (nI 101) S
    rw [wM_bears_25]
    exact p_yes (by decide) q
  · intro n i x hi q
    show wM_bears_25 post (n + 1) p (lsV (ms_a S)) x.1 x.2 (nI i) S
    rw [wM_bears_25]
    have q' : wM_bears_25 post n p (lsV (ms_a S)) (beS (ms_a S) i x).1 (beS (ms_a S) i x).2 (nI (i + 1)) S := q
    unfold beS at q'
    refine p_no (nI_nlt (a := 100) (b := i) (by omega) (by decide)) (m_errorsBy hC _ _ ?_)
    rw [nI_1]
    refine p_two (fun h => p_two (fun g => ?_) (fun g => ?_)) (fun h => ?_)
    · rw [if_pos h, if_pos g] at q'
      exact q'
    · rw [if_pos h, if_neg g] at q'
      exact q'
    · rw [if_neg h] at q'
      exact q'
  · have e := upf_I (beS (ms_a S)) (fun i x => (i ≤ m → x.1 = -1) ∧ (m < i → x.1 = nI m) ∧ (M < i → x.2 = nI M)) 101 (by
      intro i x hi h
      obtain ⟨h1, h2, h3⟩ := h
      have ne : ∀ j : Nat, j ≤ 100 → ¬ nI j = -1 := by
        intro j hj e
        have := nI_pos' (n := j) (by omega)
        rw [e] at this
        exact absurd this (by decide)
      unfold beS
      by_cases c : erV (ms_a S) (nI i) = lsV (ms_a S)
      · rw [if_pos c]
        have him : ¬ i < m := fun h => m3 i h c
        have hiM : ¬ M < i := fun h => M3 i h (by omega) c
        refine ⟨fun h => by omega, fun _ => ?_, fun h => ?_⟩
        · show (if x.1 = -1 then nI i else x.1) = nI m
          by_cases d : i = m
          · rw [if_pos (h1 (by omega)), d]
          · rw [h2 (by omega), if_neg (ne m m1)]
        · show nI i = nI M
          rw [show i = M by omega]
      · rw [if_neg c]
        have him : i ≠ m := fun h => c (h ▸ m2)
        have hiM : i ≠ M := fun h => c (h ▸ M2)
        exact ⟨fun h => h1 (by omega), fun h => h2 (by omega), fun h => h3 (by omega)⟩) 101 0 (-1, -1) (by omega) ⟨fun _ => rfl, fun h => by omega, fun h => by omega⟩
    show (p = 0 → post (lsV (ms_a S)) S) ∧ (¬ p = 0 → ((p = 1 → post (upf (beS (ms_a S)) 101 0 (-1, -1)).1 S) ∧ (¬ p = 1 → post (upf (beS (ms_a S)) 101 0 (-1, -1)).2 S)))
    rw [e.2.1 (by omega), e.2.2 (by omega)]
    exact hp
theorem sim_bears {cs : CS} {ms : MS} (R : Rel cs ms) (p1 : Int32) : ∃ (r : Int32) (cs' : CS) (ms' : MS), rt (wC_X11_bears p1 cs) r cs' ∧ rt (wM_bears p1 ms) r ms' ∧ Rel cs' ms' := by
  have hC := bd_trialCount R.1.1
  by_cases c : 0 ≤ p1 ∧ p1 ≤ 2
  · obtain ⟨b, hb, pb⟩ := lsV_has (ms_a ms)
    obtain ⟨m, m1, m2, m3⟩ := least_ex (fun k => erV (ms_a ms) (nI k) = lsV (ms_a ms)) b pb
    obtain ⟨M, _, M1, M2, M3⟩ := great_ex (fun k => erV (ms_a ms) (nI k) = lsV (ms_a ms)) 100 (100 - b) b (by omega) pb
    have hM : ∀ (post : Int32 → MS → Prop), ((p1 = 0 → post (lsV (ms_a ms)) ms) ∧ (¬ p1 = 0 → ((p1 = 1 → post (nI m) ms) ∧ (¬ p1 = 1 → post (nI M) ms)))) → wM_bears p1 ms post := by
      intro post hp
      unfold wM_bears
      rw [m_isIn, p_b0]
      exact p_val c (m_leastErrors hC _ (m_bears hC p1 post (by omega) m2 m3 M1 M2 M3 hp))
    by_cases d0 : p1 = 0
    · refine ⟨lsV (ms_a ms), cs, ms, ?_, fun post hp => hM post (p_yes d0 hp), R⟩
      intro post hp
      unfold wC_X11_bears
      exact ⟨fun _ => q_leastErrors R.1.1 _ hp, fun h => absurd (d0.symm.trans h) (by decide), fun h => absurd (d0.symm.trans h) (by decide), fun h => absurd d0 h⟩
    by_cases d1 : p1 = 1
    · refine ⟨nI m, cs, ms, ?_, fun post hp => hM post (p_no d0 (p_yes d1 hp)), R⟩
      intro post hp
      unfold wC_X11_bears
      exact ⟨fun h => absurd h d0, fun _ => q_leastBorne R.1.1 _ (by omega) m2 m3 hp, fun h => absurd (d1.symm.trans h) (by decide), fun _ h => absurd d1 h⟩
    · have d2 : p1 = 2 := by grind
      refine ⟨nI M, cs, ms, ?_, fun post hp => hM post (p_no d0 (p_no d1 hp)), R⟩
      intro post hp
      unfold wC_X11_bears
      exact ⟨fun h => absurd h d0, fun h => absurd h d1, fun _ => q_greatestBorne R.1.1 _ M1 M2 M3 hp, fun _ _ h => absurd d2 h⟩
  · refine ⟨-2, cs, ms, ?_, ?_, R⟩
    · intro post hp
      unfold wC_X11_bears
      refine ⟨fun h => absurd ?_ c, fun h => absurd ?_ c, fun h => absurd ?_ c, fun _ _ _ => hp⟩ <;> (subst h; decide)
    · intro post hp
      unfold wM_bears
      rw [m_isIn, p_b0]
      exact p_inv hp (fun c1 => absurd c1 c)
