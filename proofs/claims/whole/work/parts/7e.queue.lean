/-! PURE LAYER: the reference's queue -/
theorem php : ∀ (N n : Nat) (q : Nat → Nat), (∀ i, i < n → q i < N) → (∀ i j, i < n → j < n → q i = q j → i = j) → n ≤ N := by
  intro N
  induction N with
  | zero =>
    intro n q h1 _
    by_cases c : n = 0
    · omega
    · have := h1 0 (by omega)
      omega
  | succ N ih =>
    intro n q h1 h2
    by_cases c : n = 0
    · omega
    · obtain ⟨m, rfl⟩ : ∃ m, n = m + 1 := ⟨n - 1, by omega⟩
      have r := ih m (fun i => if q i = N then q m else q i) (by
        intro i hi
        have b := h1 i (by omega)
        have bm := h1 m (by omega)
        show (if q i = N then q m else q i) < N
        by_cases e : q i = N
        · rw [if_pos e]
          by_cases e2 : q m = N
          · have := h2 i m (by omega) (by omega) (e.trans e2.symm)
            omega
          · omega
        · rw [if_neg e]
          omega) (by
        intro i j hi hj e
        have e' : (if q i = N then q m else q i) = (if q j = N then q m else q j) := e
        by_cases ei : q i = N
        · by_cases ej : q j = N
          · exact h2 i j (by omega) (by omega) (ei.trans ej.symm)
          · rw [if_pos ei, if_neg ej] at e'
            have := h2 m j (by omega) (by omega) e'
            omega
        · by_cases ej : q j = N
          · rw [if_neg ei, if_pos ej] at e'
            have := h2 i m (by omega) (by omega) e'
            omega
          · rw [if_neg ei, if_neg ej] at e'
            exact h2 i j (by omega) (by omega) e')
      omega
def qU (q : Nat → Nat) (n x : Nat) : Nat → Nat := fun j => if j = n then x else q j
theorem qU_eq (q : Nat → Nat) (n x : Nat) : qU q n x n = x := if_pos rfl
theorem qU_lt (q : Nat → Nat) (n x : Nat) {k : Nat} (h : k < n) : qU q n x k = q k := if_neg (by omega)
/-- the five rows of the queue laid -/
def mQ (S : MS) (l f b d : Nat → Int32) (n : Int32) : MS := ms_set_lined (ms_set_depth (ms_set_byFall (ms_set_from (ms_set_line S l) f) b) d) n
theorem mQ_line (S : MS) (l f b d : Nat → Int32) (n : Int32) : ms_line (mQ S l f b d n) = l := by
  simp only [ms_line, mQ, ms_set_line, ms_set_from, ms_set_byFall, ms_set_depth, ms_set_lined]
theorem mQ_from (S : MS) (l f b d : Nat → Int32) (n : Int32) : ms_from (mQ S l f b d n) = f := by
  simp only [ms_from, mQ, ms_set_line, ms_set_from, ms_set_byFall, ms_set_depth, ms_set_lined]
theorem mQ_byFall (S : MS) (l f b d : Nat → Int32) (n : Int32) : ms_byFall (mQ S l f b d n) = b := by
  simp only [ms_byFall, mQ, ms_set_line, ms_set_from, ms_set_byFall, ms_set_depth, ms_set_lined]
theorem mQ_depth (S : MS) (l f b d : Nat → Int32) (n : Int32) : ms_depth (mQ S l f b d n) = d := by
  simp only [ms_depth, mQ, ms_set_line, ms_set_from, ms_set_byFall, ms_set_depth, ms_set_lined]
theorem mQ_lined (S : MS) (l f b d : Nat → Int32) (n : Int32) : ms_lined (mQ S l f b d n) = n := by
  simp only [ms_lined, mQ, ms_set_line, ms_set_from, ms_set_byFall, ms_set_depth, ms_set_lined]
theorem mQ_a (S : MS) (l f b d : Nat → Int32) (n : Int32) : ms_a (mQ S l f b d n) = ms_a S := by
  simp only [ms_a, mQ, ms_set_line, ms_set_from, ms_set_byFall, ms_set_depth, ms_set_lined]
theorem mQ_aside (S : MS) (l f b d : Nat → Int32) (n : Int32) : ms_aside (mQ S l f b d n) = ms_aside S := by
  simp only [ms_aside, mQ, ms_set_line, ms_set_from, ms_set_byFall, ms_set_depth, ms_set_lined]
theorem mQ_eM (S : MS) (l f b d : Nat → Int32) (n : Int32) : eM S (mQ S l f b d n) := by
  refine ⟨?_, ?_, ?_, ?_, ?_, ?_⟩ <;> simp only [ms_image, ms_texts, ms_tape, ms_taped, ms_fault, ms_faultPlace, mQ, ms_set_line, ms_set_from, ms_set_byFall, ms_set_depth, ms_set_lined]
/-- all but the queue (and the laws' scratch) the same -/
def qF (S S' : MS) : Prop := eM S S' ∧ ms_a S' = ms_a S ∧ ms_aside S' = ms_aside S
theorem qF_refl (S : MS) : qF S S := ⟨⟨rfl, rfl, rfl, rfl, rfl, rfl⟩, rfl, rfl⟩
theorem qF_trans {S T U : MS} (h : qF S T) (g : qF T U) : qF S U := ⟨eM_trans h.1 g.1, g.2.1.trans h.2.1, g.2.2.trans h.2.2⟩
theorem qF_mQ (S : MS) (l f b d : Nat → Int32) (n : Int32) : qF S (mQ S l f b d n) := ⟨mQ_eM _ _ _ _ _ _, mQ_a _ _ _ _ _ _, mQ_aside _ _ _ _ _ _⟩
/-- the queue the same -/
def sQ (S S' : MS) : Prop := ms_line S' = ms_line S ∧ ms_from S' = ms_from S ∧ ms_byFall S' = ms_byFall S ∧ ms_depth S' = ms_depth S ∧ ms_lined S' = ms_lined S
theorem sQ_refl (S : MS) : sQ S S := ⟨rfl, rfl, rfl, rfl, rfl⟩
theorem sQ_trans {S T U : MS} (h : sQ S T) (g : sQ T U) : sQ S U := ⟨g.1.trans h.1, g.2.1.trans h.2.1, g.2.2.1.trans h.2.2.1, g.2.2.2.1.trans h.2.2.2.1, g.2.2.2.2.trans h.2.2.2.2⟩
theorem sQ_d {S T : MS} (h : dM S T) : sQ S T := ⟨congrArg (fun z => z.2.1) h.2.2.2.2.2.2, congrArg (fun z => z.2.2.1) h.2.2.2.2.2.2, congrArg (fun z => z.2.2.2.1) h.2.2.2.2.2.2, congrArg (fun z => z.2.2.2.2.1) h.2.2.2.2.2.2, congrArg (fun z => z.2.2.2.2.2.1) h.2.2.2.2.2.2⟩
def RepQ (N n : Nat) (qs qd qc : Nat → Nat) (S : MS) : Prop := ms_lined S = nI n ∧ (∀ k, k < n → qs k < N ∧ ms_line S k = nI (qs k) ∧ ms_depth S (qs k) = nI (qd k) ∧ qd k ≤ k) ∧ (∀ i j, i < n → j < n → qs i = qs j → i = j) ∧ (∀ s, s < N → (∀ k, k < n → qs k ≠ s) → ms_depth S s = -1) ∧ (∀ k, k < n → 0 < qd k → ∃ j f, j < k ∧ f < 5 ∧ qd k = qd j + 1 ∧ qc k = 5 * qc j + f ∧ ms_from S (qs k) = nI (qs j) ∧ ms_byFall S (qs k) = nI f)
theorem RepQ_s {N n : Nat} {qs qd qc : Nat → Nat} {S S' : MS} (R : RepQ N n qs qd qc S) (h : sQ S S') : RepQ N n qs qd qc S' := by
  unfold RepQ at R ⊢
  rw [h.1, h.2.1, h.2.2.1, h.2.2.2.1, h.2.2.2.2]
  exact R
theorem RepQ_n {N n : Nat} {qs qd qc : Nat → Nat} {S : MS} (R : RepQ N n qs qd qc S) : n ≤ N := php N n qs (fun i hi => (R.2.1 i hi).1) R.2.2.1
/-- a new one fits -/
theorem RepQ_new {N n : Nat} {qs qd qc : Nat → Nat} {S : MS} (R : RepQ N n qs qd qc S) {s : Nat} (hs : s < N) (hn : ∀ k, k < n → qs k ≠ s) : n < N := by
  have := php N (n + 1) (qU qs n s) (by
    intro i hi
    by_cases e : i = n
    · rw [e, qU_eq]
      exact hs
    · rw [qU_lt _ _ _ (by omega)]
      exact (R.2.1 i (by omega)).1) (by
    intro i j hi hj e
    by_cases ei : i = n
    · by_cases ej : j = n
      · omega
      · rw [ei, qU_eq, qU_lt _ _ _ (by omega)] at e
        exact absurd e.symm (hn j (by omega))
    · by_cases ej : j = n
      · rw [ej, qU_eq, qU_lt _ _ _ (by omega)] at e
        exact absurd e (hn i (by omega))
      · rw [qU_lt _ _ _ (by omega), qU_lt _ _ _ (by omega)] at e
        exact R.2.2.1 i j (by omega) (by omega) e)
  omega
theorem m_comeOld {N n : Nat} (hN : N ≤ 10000) {qs qd qc : Nat → Nat} {S : MS} (R : RepQ N n qs qd qc S) {s i : Nat} (hi : i < n) (e : qs i = s) (x y : Int32) (post : MS → Prop) (hp : post S) : wM_comeTo (nI s) x y S post := by
  obtain ⟨h1, h2, h3, h4⟩ := R.2.1 i hi
  have nn := RepQ_n R
  rw [e] at h1 h3
  unfold wM_comeTo
  rw [nI_clamp (by omega), h3]
  exact ⟨vp_in_nI (by omega) (by decide), p_no (nI_nm1 (by omega)) hp⟩
theorem m_comeNew {N n : Nat} (hN : N ≤ 10000) {qs qd qc : Nat → Nat} {S : MS} (R : RepQ N n qs qd qc S) {s k f : Nat} (hs : s < N) (hn : ∀ k, k < n → qs k ≠ s) (hk : k < n) (hf : f < 5) : ∃ S' : MS, RepQ N (n + 1) (qU qs n s) (qU qd n (qd k + 1)) (qU qc n (5 * qc k + f)) S' ∧ qF S S' ∧ rv (wM_comeTo (nI s) (nI (qs k)) (nI f) S) S' := by
  obtain ⟨r1, r2, r3, r4, r5⟩ := R
  obtain ⟨k1, k2, k3, k4⟩ := r2 k hk
  have nN := RepQ_new ⟨r1, r2, r3, r4, r5⟩ hs hn
  have hd := r4 s hs hn
  refine ⟨mQ S (upd (ms_line S) n (nI s)) (upd (ms_from S) s (nI (qs k))) (upd (ms_byFall S) s (nI f)) (upd (ms_depth S) s (nI (qd k + 1))) (nI (n + 1)), ⟨mQ_lined _ _ _ _ _ _, ?_, ?_, ?_, ?_⟩, qF_mQ _ _ _ _ _ _, ?_⟩
  · intro j hj
    rw [mQ_line, mQ_depth]
    by_cases e : j = n
    · subst e
      rw [qU_eq, qU_eq, upd_eq, upd_eq]
      exact ⟨hs, rfl, rfl, by omega⟩
    · obtain ⟨j1, j2, j3, j4⟩ := r2 j (by omega)
      rw [qU_lt _ _ _ (by omega), qU_lt _ _ _ (by omega), upd_ne _ _ e, upd_ne _ _ (hn j (by omega))]
      exact ⟨j1, j2, j3, j4⟩
  · intro i j hi hj e
    by_cases ei : i = n
    · by_cases ej : j = n
      · omega
      · rw [ei, qU_eq, qU_lt _ _ _ (by omega)] at e
        exact absurd e.symm (hn j (by omega))
    · by_cases ej : j = n
      · rw [ej, qU_eq, qU_lt _ _ _ (by omega)] at e
        exact absurd e (hn i (by omega))
      · rw [qU_lt _ _ _ (by omega), qU_lt _ _ _ (by omega)] at e
        exact r3 i j (by omega) (by omega) e
  · intro t ht hnt
    rw [mQ_depth]
    have q := hnt n (by omega)
    rw [qU_eq] at q
    rw [upd_ne _ _ (fun z => q z.symm)]
    refine r4 t ht ?_
    intro j hj
    have q := hnt j (by omega)
    rw [qU_lt _ _ _ hj] at q
    exact q
  · intro j hj
    rw [mQ_from, mQ_byFall]
    by_cases e : j = n
    · subst e
      rw [qU_eq, qU_eq, qU_eq]
      intro _
      refine ⟨k, f, hk, hf, ?_, ?_, ?_, ?_⟩
      · rw [qU_lt _ _ _ hk]
      · rw [qU_lt _ _ _ hk]
      · rw [qU_lt _ _ _ hk, upd_eq]
      · rw [upd_eq]
    · rw [qU_lt _ _ _ (by omega), qU_lt _ _ _ (by omega), qU_lt _ _ _ (by omega)]
      intro hq
      obtain ⟨i, g, h1, h2, h3, h4, h5, h6⟩ := r5 j (by omega) hq
      refine ⟨i, g, h1, h2, ?_, ?_, ?_, ?_⟩
      · rw [qU_lt _ _ _ (by omega)]
        exact h3
      · rw [qU_lt _ _ _ (by omega)]
        exact h4
      · rw [qU_lt _ _ _ (by omega), upd_ne _ _ (hn j (by omega))]
        exact h5
      · rw [upd_ne _ _ (hn j (by omega))]
        exact h6
  · intro post hp
    unfold wM_comeTo
    simp only [p_all]
    rw [nI_clamp (n := s) (by omega), nI_clamp (n := qs k) (by omega), k3, nI_1]
    refine ⟨vp_in_nI (by omega) (by decide), p_yes hd ⟨vp_in_nI (by omega) (by decide), vp_in_nI (by omega) (by decide), vp_in_nI (by omega) (by decide), vp_in_nI (by omega) (by decide), ?_, ?_⟩⟩
    · have e : ms_lined (ms_set_byFall (ms_set_from (ms_set_depth S (upd (ms_depth S) s (nI (qd k + 1)))) (upd (ms_from (ms_set_depth S (upd (ms_depth S) s (nI (qd k + 1))))) s (nI (qs k)))) (upd (ms_byFall (ms_set_from (ms_set_depth S (upd (ms_depth S) s (nI (qd k + 1)))) (upd (ms_from (ms_set_depth S (upd (ms_depth S) s (nI (qd k + 1))))) s (nI (qs k))))) s (nI f))) = nI n := by
        simp only [ms_lined, ms_set_byFall, ms_set_from, ms_set_depth]
        exact r1
      rw [e]
      exact vp_in_nI (by omega) (by decide)
    · refine Eq.mp (congrArg post ?_) hp
      have e1 : (ms_lined S).toNatClampNeg = n := by
        rw [r1, nI_clamp (by omega)]
      have e2 : ms_lined S + 1 = nI (n + 1) := by
        rw [r1, nI_1]
      rw [← e2]
      conv => lhs; rw [← e1]
      simp only [mQ, ms_set_lined, ms_set_depth, ms_set_byFall, ms_set_from, ms_set_line, ms_lined, ms_depth, ms_byFall, ms_from, ms_line]
theorem m_beginAt {N s : Nat} (hN : N ≤ 10000) (hs : s < N) (S : MS) : ∃ S' : MS, RepQ N 1 (fun _ => s) (fun _ => 0) (fun _ => 0) S' ∧ qF S S' ∧ rv (wM_beginAt (nI s) (nI N) S) S' := by
  have I := upf_I (fun i g => upd g i (-1)) (fun i g => ∀ k, k < i → g k = (-1 : Int32)) N (by
      intro i g hi I k hk
      show upd g i (-1) k = -1
      by_cases e : k = i
      · rw [e, upd_eq]
      · rw [upd_ne _ _ e]
        exact I k (by omega)) N 0 (ms_depth S) (by omega) (fun k hk => absurd hk (Nat.not_lt_zero k))
  generalize eg : upf (fun i g => upd g i (-1 : Int32)) N 0 (ms_depth S) = g at I
  refine ⟨mQ S (upd (ms_line S) 0 (nI s)) (upd (ms_from S) s (-1)) (ms_byFall S) (upd g s 0) (nI 1), ⟨mQ_lined _ _ _ _ _ _, ?_, ?_, ?_, ?_⟩, qF_mQ _ _ _ _ _ _, ?_⟩
  · intro k hk
    have e : k = 0 := by omega
    subst e
    rw [mQ_line, mQ_depth, upd_eq, upd_eq]
    exact ⟨hs, rfl, rfl, Nat.le_refl _⟩
  · intro i j hi hj _
    omega
  · intro t ht hn
    rw [mQ_depth, upd_ne _ _ (fun z => hn 0 (by omega) z.symm)]
    exact I t ht
  · intro k hk hd
    exact absurd hd (Nat.lt_irrefl 0)
  · intro post hp
    have q : wM_beginAt_2 post (N + 1) (nI s) (nI N) (nI 0) (ms_set_depth S (ms_depth S)) := by
      refine up_loop (fun n x i => wM_beginAt_2 post n (nI s) (nI N) i (ms_set_depth S x)) (fun i g => upd g i (-1 : Int32)) (fun x => post (mQ S (upd (ms_line S) 0 (nI s)) (upd (ms_from S) s (-1)) (ms_byFall S) (upd x s 0) (nI 1))) N ?_ ?_ (ms_depth S) (by rw [eg]; exact hp)
      · intro n x q
        show wM_beginAt_2 post (n + 1) (nI s) (nI N) (nI N) (ms_set_depth S x)
        rw [wM_beginAt_2]
        refine p_yes (Int32.le_refl _) ?_
        simp only [p_all]
        rw [nI_clamp (by omega)]
        refine ⟨vp_in_nI (by omega) (by decide), vp_in_nI (by omega) (by decide), Eq.mp (congrArg post ?_) q⟩
        simp only [mQ, ms_set_lined, ms_set_depth, ms_set_byFall, ms_set_from, ms_set_line, ms_lined, ms_depth, ms_byFall, ms_from, ms_line]
        rfl
      · intro n i x hi q
        show wM_beginAt_2 post (n + 1) (nI s) (nI N) (nI i) (ms_set_depth S x)
        rw [wM_beginAt_2, nI_1]
        refine p_no (nI_ge hi (by omega)) ⟨vp_in_nI (by omega) (by decide), ?_⟩
        have e : ms_set_depth (ms_set_depth S x) (upd (ms_depth (ms_set_depth S x)) i (-1)) = ms_set_depth S (upd x i (-1)) := by
          simp only [ms_set_depth, ms_depth]
        rw [p_all, nI_clamp (by omega), e]
        exact q
    exact ⟨N + 1, q⟩
/-! the way -/
def wayV (d c : Nat) (p : Int32) : Int32 := if -1 ≤ p ∧ p < nI d then (if p = -1 then nI d else nI (c / 5 ^ (d - 1 - p.toNatClampNeg) % 5)) else -2
theorem m_way38 {N n : Nat} (hN : N ≤ 10000) {qs qd qc : Nat → Nat} {S : MS} (R : RepQ N n qs qd qc S) {i : Nat} (post : Int32 → MS → Prop) : ∀ (m k : Nat), k < n → qd k = i + 1 + m → post (nI (qc k / 5 ^ m % 5)) S → wM_wayTo_38 post (m + 1) (nI i) (nI (qs k)) S := by
  have nn := RepQ_n R
  intro m
  induction m with
  | zero =>
    intro k hk e hp
    obtain ⟨k1, k2, k3, k4⟩ := R.2.1 k hk
    obtain ⟨j, f, h1, h2, h3, h4, h5, h6⟩ := R.2.2.2.2 k hk (by omega)
    rw [Nat.pow_zero, Nat.div_one, h4, show (5 * qc j + f) % 5 = f by omega] at hp
    rw [wM_wayTo_38, nI_clamp (by omega), k3, nI_1, h6]
    exact ⟨vp_in_nI (by omega) (by decide), p_yes (nI_le (by omega) (by omega)) ⟨vp_in_nI (by omega) (by decide), hp⟩⟩
  | succ m ih =>
    intro k hk e hp
    obtain ⟨k1, k2, k3, k4⟩ := R.2.1 k hk
    obtain ⟨j, f, h1, h2, h3, h4, h5, h6⟩ := R.2.2.2.2 k hk (by omega)
    rw [wM_wayTo_38, nI_clamp (by omega), k3, nI_1, h5]
    refine ⟨vp_in_nI (by omega) (by decide), p_no (nI_ge (by omega) (by omega)) ⟨vp_in_nI (by omega) (by decide), ih j (by omega) (by omega) ?_⟩⟩
    have e5 : (5 : Nat) ^ (m + 1) = 5 * 5 ^ m := by
      rw [Nat.pow_succ, Nat.mul_comm]
    rw [e5, ← Nat.div_div_eq_div_mul, h4, show (5 * qc j + f) / 5 = qc j by omega] at hp
    exact hp
theorem m_wayTo {N n : Nat} (hN : N ≤ 10000) {qs qd qc : Nat → Nat} {S : MS} (R : RepQ N n qs qd qc S) {k : Nat} (hk : k < n) (p : Int32) (post : Int32 → MS → Prop) (hp : post (wayV (qd k) (qc k) p) S) : wM_wayTo (nI (qs k)) p S post := by
  have nn := RepQ_n R
  obtain ⟨k1, k2, k3, k4⟩ := R.2.1 k hk
  have e1 : ∀ x : Int32, (x ≤ nI (qd k) - 1) = (x < nI (qd k)) := by
    intro x
    apply propext
    have h1 := nI_pos' (n := qd k) (by omega)
    have h2 := nI_le (a := qd k) (b := 10000) (by omega) (by decide)
    generalize nI (qd k) = y at h1 h2
    have h2' : y ≤ 10000 := h2
    grind
  unfold wM_wayTo
  rw [nI_clamp (by omega), m_isIn, p_b0, k3, e1]
  refine p_no (nI_nm1 (by omega)) ⟨vp_in_nI (by omega) (by decide), ?_⟩
  unfold wayV at hp
  by_cases c : -1 ≤ p ∧ p < nI (qd k)
  · rw [if_pos c] at hp
    refine p_val c (p_two (fun e => ⟨vp_in_nI (by omega) (by decide), ?_⟩) (fun e => ?_))
    · rw [if_pos e] at hp
      exact hp
    · rw [if_neg e] at hp
      have p0 : 0 ≤ p := by
        have := c.1
        grind
      obtain ⟨i, hi, rfl⟩ := p_rng (n := qd k) (by omega) p0 c.2
      rw [nI_clamp (by omega)] at hp
      exact ⟨qd k - 1 - i + 1, m_way38 hN R post (qd k - 1 - i) k hk (by omega) hp⟩
  · rw [if_neg c] at hp
    exact p_inv hp (fun c1 => absurd c1 c)
theorem m_wayNone (p : Int32) (S : MS) (post : Int32 → MS → Prop) (hp : post (-2) S) : wM_wayTo (-1) p S post := p_yes rfl hp
