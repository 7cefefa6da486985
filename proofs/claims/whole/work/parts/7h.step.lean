/-! PURE LAYER: both searches in step: a child, an entry -/
def KI (N : Nat) (clr : Bool) (st : Nat) (enc : Nat → Nat) (arr : Nat → Prop) (V : Nat → Nat → Prop) (J : CS → MS → Prop) (D b e m : Nat) (lx lc : Nat → Nat) (lr : Nat → Bool) (n : Nat) (qs qd qc : Nat → Nat) (k : Nat) (ex ec : Nat → Nat) (er : Nat → Bool) (dp : Bool) (cs : CS) (ms : MS) : Prop := (J cs ms ∧ RepQ N n qs qd qc ms ∧ (∀ i, i < n → V (qd i) (qs i) ∧ ¬ arr (qs i))) ∧ ((b ≤ e ∧ 1 ≤ e ∧ e ≤ n ∧ qs 0 = st) ∧ (∀ i, i < e → qd i ≤ D) ∧ (∀ i, b ≤ i → i < e → qd i = D) ∧ (∀ i, e ≤ i → i < n → qd i = D + 1)) ∧ (Lay enc st qs qc (5 ^ D) b m lx lc lr ∧ rkF b lr m = e ∧ Lay enc st qs qc (5 ^ (D + 1)) e k ex ec er ∧ rkF e er k = n) ∧ ((∀ j, j < m → cx_s_layer cs j = lN (lc j * 1024 + lx j)) ∧ (∀ j, j < k → cx_s_nextLayer cs j = lN (ec j * 1024 + ex j)) ∧ (∀ x, x < 1024 → (snB (cx_s_seen cs) x ↔ ¬ Ps clr st enc e n qs dp x)) ∧ (∀ j, j < k → Ps clr st enc e n qs dp (ex j)) ∧ (∀ i j, i < k → j < k → ex i = ex j → i = j) ∧ cx_s_count cs = nI k ∧ cx_s_length cs = -1) ∧ (m ≤ 1024 ∧ k ≤ 1024 ∧ (clr = true → dp = false ∧ (∀ j, j < m → lr j = true) ∧ ∀ j, j < k → er j = true))
theorem KI_s {N : Nat} {clr : Bool} {st : Nat} {enc : Nat → Nat} {arr : Nat → Prop} {V : Nat → Nat → Prop} {J : CS → MS → Prop} {D b e m : Nat} {lx lc : Nat → Nat} {lr : Nat → Bool} {n : Nat} {qs qd qc : Nat → Nat} {k : Nat} {ex ec : Nat → Nat} {er : Nat → Bool} {dp : Bool} {cs cs' : CS} {ms ms' : MS} (K : KI N clr st enc arr V J D b e m lx lc lr n qs qd qc k ex ec er dp cs ms) (h : sS cs cs') (g : sQ ms ms') (j : J cs' ms') : KI N clr st enc arr V J D b e m lx lc lr n qs qd qc k ex ec er dp cs' ms' := by
  obtain ⟨⟨a1, a2, a3⟩, B, C, ⟨e1, e2, e3, e4, e5, e6, e7⟩, F⟩ := K
  refine ⟨⟨j, RepQ_s a2 g, a3⟩, B, C, ⟨?_, ?_, ?_, e4, e5, ?_, ?_⟩, F⟩
  · rw [h.1]
    exact e1
  · rw [h.2.1]
    exact e2
  · rw [h.2.2.1]
    exact e3
  · rw [h.2.2.2.1]
    exact e6
  · rw [h.2.2.2.2.1]
    exact e7
/-- what has been found -/
def FD (N most : Nat) (clr : Bool) (arr : Nat → Prop) (V : Nat → Nat → Prop) (J : CS → MS → Prop) (stp : Nat → Nat → MS → (Int32 → MS → Prop) → Prop) (D : Nat) (cw : (CS → Prop) → (Int32 → Int32 → Int32 → CS → Prop) → Prop) (rf : (Nat → MS → Prop) → (Nat → Nat → MS → Prop) → Prop) : Prop := ∃ (L c : Nat) (csF : CS) (msF : MS) (n' : Nat) (qs' qd' qc' : Nat → Nat) (p : Nat), p < n' ∧ RepQ N n' qs' qd' qc' msF ∧ qd' p = L ∧ qc' p = c ∧ L ≤ 20 ∧ c < 2 ^ 50 ∧ cx_s_length csF = nI L ∧ cx_s_path csF = lN c ∧ (∃ ms0, J csF ms0) ∧ (∃ cs0, J cs0 msF) ∧ (∀ post K36, (∀ x4 S, ¬ cx_s_length S = -1 → post S → K36 (nI most) x4 (nI (D + 1)) S) → post csF → cw post K36) ∧ (∀ A25 A55 Fin, RR N most clr arr V J stp A25 A55 Fin → Fin (qs' p) msF → rf A25 A55)
theorem FD_map {N most : Nat} {clr : Bool} {arr : Nat → Prop} {V : Nat → Nat → Prop} {J : CS → MS → Prop} {stp : Nat → Nat → MS → (Int32 → MS → Prop) → Prop} {D : Nat} {cw cw' : (CS → Prop) → (Int32 → Int32 → Int32 → CS → Prop) → Prop} {rf rf' : (Nat → MS → Prop) → (Nat → Nat → MS → Prop) → Prop} (h : FD N most clr arr V J stp D cw rf) (hc : ∀ post K36, cw post K36 → cw' post K36) (hr : ∀ A25 A55 Fin, RR N most clr arr V J stp A25 A55 Fin → rf A25 A55 → rf' A25 A55) : FD N most clr arr V J stp D cw' rf' := by
  obtain ⟨L, c, csF, msF, n', qs', qd', qc', p, a1, a2, a3, a4, a5, a6, a7, a8, a9, a10, a11, a12⟩ := h
  exact ⟨L, c, csF, msF, n', qs', qd', qc', p, a1, a2, a3, a4, a5, a6, a7, a8, a9, a10, fun post K36 hk hp => hc post K36 (a11 post K36 hk hp), fun A25 A55 Fin rr hf => hr A25 A55 Fin rr (a12 A25 A55 Fin rr hf)⟩
theorem pow5 {D : Nat} (h : D ≤ 20) : 5 ^ D ≤ 95367431640625 := by
  have : (5 : Nat) ^ D ≤ 5 ^ 20 := Nat.pow_le_pow_right (by decide) h
  have e : (5 : Nat) ^ 20 = 95367431640625 := by decide
  omega
/-- a new one, laid by both -/
theorem KI_real {N : Nat} {clr : Bool} {st : Nat} {enc : Nat → Nat} {arr : Nat → Prop} {V : Nat → Nat → Prop} {J : CS → MS → Prop} {D b e m : Nat} {lx lc : Nat → Nat} {lr : Nat → Bool} {n : Nat} {qs qd qc : Nat → Nat} {k : Nat} {ex ec : Nat → Nat} {er : Nat → Bool} {dp : Bool} {cs cs' : CS} {ms ms' : MS} (K : KI N clr st enc arr V J D b e m lx lc lr n qs qd qc k ex ec er dp cs ms) {s p f : Nat} (hp1 : b ≤ p) (hp2 : p < e) (hf : f < 5) (hx : enc s < 1024) (hc : qc p < 5 ^ D) (v : V (D + 1) s) (na : ¬ arr s) (nP : ¬ Ps clr st enc e n qs dp (enc s)) (hk : k < 1024) (R : RepQ N (n + 1) (qU qs n s) (qU qd n (qd p + 1)) (qU qc n (5 * qc p + f)) ms') (j : J cs' ms') (l1 : cx_s_layer cs' = cx_s_layer cs) (l2 : cx_s_nextLayer cs' = vp_updL (cx_s_nextLayer cs) k (lN ((5 * qc p + f) * 1024 + enc s))) (l3 : ∀ y, y < 1024 → (snB (cx_s_seen cs') y ↔ (y ≠ enc s ∧ snB (cx_s_seen cs) y))) (l4 : cx_s_count cs' = nI (k + 1)) (l5 : cx_s_length cs' = -1) : KI N clr st enc arr V J D b e m lx lc lr (n + 1) (qU qs n s) (qU qd n (qd p + 1)) (qU qc n (5 * qc p + f)) (k + 1) (qU ex k (enc s)) (qU ec k (5 * qc p + f)) (bU er k true) dp cs' ms' ∧ Ps clr st enc e (n + 1) (qU qs n s) dp (enc s) := by
  obtain ⟨⟨a1, a2, a3⟩, ⟨⟨b1, b2, b3, b4⟩, b5, b6, b7⟩, ⟨c1, c2, c3, c4⟩, ⟨e1, e2, e3, e4, e5, e6, e7⟩, ⟨f1, f2, f3⟩⟩ := K
  have E := Ext_new n qs qd qc s (qd p + 1) (5 * qc p + f)
  have mine : Ps clr st enc e (n + 1) (qU qs n s) dp (enc s) := by
    refine Or.inl ⟨n, ?_, by omega, by rw [qU_eq]⟩
    split <;> omega
  have more : ∀ x, Ps clr st enc e (n + 1) (qU qs n s) dp x ↔ (x = enc s ∨ Ps clr st enc e n qs dp x) := by
    intro x
    constructor
    · rintro (⟨i, i1, i2, i3⟩ | q)
      · by_cases ei : i = n
        · rw [ei, qU_eq] at i3
          exact Or.inl i3.symm
        · rw [qU_lt _ _ _ (by omega)] at i3
          exact Or.inr (Or.inl ⟨i, i1, by omega, i3⟩)
      · exact Or.inr (Or.inr q)
    · rintro (q | q)
      · rw [q]
        exact mine
      · exact Ps_ext q E (fun z => z)
  refine ⟨⟨⟨j, R, ?_⟩, ⟨⟨b1, b2, by omega, ?_⟩, ?_, ?_, ?_⟩, ⟨Lay_ext c1 (by omega) E, c2, ?_, ?_⟩, ⟨?_, ?_, ?_, ?_, ?_, l4, l5⟩, ⟨f1, by omega, fun z => ⟨(f3 z).1, (f3 z).2.1, ?_⟩⟩⟩, mine⟩
  · intro i hi
    by_cases ei : i = n
    · rw [ei, qU_eq, qU_eq, b6 p hp1 hp2]
      exact ⟨v, na⟩
    · rw [qU_lt _ _ _ (by omega), qU_lt _ _ _ (by omega)]
      exact a3 i (by omega)
  · rw [qU_lt _ _ _ (by omega)]
    exact b4
  · intro i hi
    rw [qU_lt _ _ _ (by omega)]
    exact b5 i hi
  · intro i h1 h2
    rw [qU_lt _ _ _ (by omega)]
    exact b6 i h1 h2
  · intro i h1 h2
    by_cases ei : i = n
    · rw [ei, qU_eq, b6 p hp1 hp2]
    · rw [qU_lt _ _ _ (by omega)]
      exact b7 i h1 (by omega)
  · refine Lay_add (Lay_ext c3 (by omega) E) hx ?_ ?_ (fun z => by cases z)
    · rw [Nat.pow_succ]
      omega
    · intro _
      rw [c4, qU_eq, qU_eq]
      exact ⟨rfl, rfl⟩
  · rw [rk_add, if_pos rfl, c4]
  · rw [l1]
    exact e1
  · intro i hi
    rw [l2]
    by_cases ei : i = k
    · rw [ei, uL_eq, qU_eq, qU_eq]
    · rw [uL_ne _ _ ei, qU_lt _ _ _ (by omega), qU_lt _ _ _ (by omega)]
      exact e2 i (by omega)
  · intro y hy
    rw [l3 y hy, e3 y hy, more y]
    constructor
    · rintro ⟨q1, q2⟩ (q | q)
      · exact q1 q
      · exact q2 q
    · intro q
      exact ⟨fun z => q (Or.inl z), fun z => q (Or.inr z)⟩
  · intro i hi
    by_cases ei : i = k
    · rw [ei, qU_eq]
      exact mine
    · rw [qU_lt _ _ _ (by omega)]
      exact Ps_ext (e4 i (by omega)) E (fun z => z)
  · intro i i2 h1 h2 q
    by_cases ei : i = k
    · by_cases ei2 : i2 = k
      · omega
      · rw [ei, qU_eq, qU_lt _ _ _ (by omega)] at q
        exact absurd (q ▸ e4 i2 (by omega)) nP
    · by_cases ei2 : i2 = k
      · rw [ei2, qU_eq, qU_lt _ _ _ (by omega)] at q
        exact absurd (q ▸ e4 i (by omega)) nP
      · rw [qU_lt _ _ _ (by omega), qU_lt _ _ _ (by omega)] at q
        exact e5 i i2 (by omega) (by omega) q
  · intro i hi
    by_cases ei : i = k
    · rw [ei, bU_eq]
    · rw [bU_lt _ _ _ (by omega)]
      exact (f3 z).2.2 i (by omega)
/-- the first state once more, laid by the class alone -/
theorem KI_dup {N : Nat} {clr : Bool} {st : Nat} {enc : Nat → Nat} {arr : Nat → Prop} {V : Nat → Nat → Prop} {J : CS → MS → Prop} {D b e m : Nat} {lx lc : Nat → Nat} {lr : Nat → Bool} {n : Nat} {qs qd qc : Nat → Nat} {k : Nat} {ex ec : Nat → Nat} {er : Nat → Bool} {dp : Bool} {cs cs' : CS} {ms ms' : MS} (K : KI N clr st enc arr V J D b e m lx lc lr n qs qd qc k ex ec er dp cs ms) {c : Nat} (hcl : clr = false) (hx : enc st < 1024) (hc : c < 5 ^ (D + 1)) (nP : ¬ Ps clr st enc e n qs dp (enc st)) (hk : k < 1024) (g : sQ ms ms') (j : J cs' ms') (l1 : cx_s_layer cs' = cx_s_layer cs) (l2 : cx_s_nextLayer cs' = vp_updL (cx_s_nextLayer cs) k (lN (c * 1024 + enc st))) (l3 : ∀ y, y < 1024 → (snB (cx_s_seen cs') y ↔ (y ≠ enc st ∧ snB (cx_s_seen cs) y))) (l4 : cx_s_count cs' = nI (k + 1)) (l5 : cx_s_length cs' = -1) : KI N clr st enc arr V J D b e m lx lc lr n qs qd qc (k + 1) (qU ex k (enc st)) (qU ec k c) (bU er k false) true cs' ms' ∧ Ps clr st enc e n qs true (enc st) := by
  obtain ⟨⟨a1, a2, a3⟩, ⟨⟨b1, b2, b3, b4⟩, b5, b6, b7⟩, ⟨c1, c2, c3, c4⟩, ⟨e1, e2, e3, e4, e5, e6, e7⟩, ⟨f1, f2, f3⟩⟩ := K
  have mine : Ps clr st enc e n qs true (enc st) := Or.inr ⟨rfl, rfl⟩
  have up : ∀ x, Ps clr st enc e n qs dp x → Ps clr st enc e n qs true x := by
    intro x q
    rcases q with q | q
    · exact Or.inl q
    · exact Or.inr ⟨rfl, q.2⟩
  have more : ∀ x, Ps clr st enc e n qs true x ↔ (x = enc st ∨ Ps clr st enc e n qs dp x) := by
    intro x
    constructor
    · rintro (q | q)
      · exact Or.inr (Or.inl q)
      · exact Or.inl q.2
    · rintro (q | q)
      · rw [q]
        exact mine
      · exact up x q
  refine ⟨⟨⟨j, RepQ_s a2 g, a3⟩, ⟨⟨b1, b2, b3, b4⟩, b5, b6, b7⟩, ⟨c1, c2, ?_, ?_⟩, ⟨?_, ?_, ?_, ?_, ?_, l4, l5⟩, ⟨f1, by omega, ?_⟩⟩, mine⟩
  · exact Lay_add c3 hx hc (fun z => by cases z) (fun _ => rfl)
  · rw [rk_add, if_neg (by decide), c4]
  · rw [l1]
    exact e1
  · intro i hi
    rw [l2]
    by_cases ei : i = k
    · rw [ei, uL_eq, qU_eq, qU_eq]
    · rw [uL_ne _ _ ei, qU_lt _ _ _ (by omega), qU_lt _ _ _ (by omega)]
      exact e2 i (by omega)
  · intro y hy
    rw [l3 y hy, e3 y hy, more y]
    constructor
    · rintro ⟨q1, q2⟩ (q | q)
      · exact q1 q
      · exact q2 q
    · intro q
      exact ⟨fun z => q (Or.inl z), fun z => q (Or.inr z)⟩
  · intro i hi
    by_cases ei : i = k
    · rw [ei, qU_eq]
      exact mine
    · rw [qU_lt _ _ _ (by omega)]
      exact up _ (e4 i (by omega))
  · intro i i2 h1 h2 q
    by_cases ei : i = k
    · by_cases ei2 : i2 = k
      · omega
      · rw [ei, qU_eq, qU_lt _ _ _ (by omega)] at q
        exact absurd (q ▸ e4 i2 (by omega)) nP
    · by_cases ei2 : i2 = k
      · rw [ei2, qU_eq, qU_lt _ _ _ (by omega)] at q
        exact absurd (q ▸ e4 i (by omega)) nP
      · rw [qU_lt _ _ _ (by omega), qU_lt _ _ _ (by omega)] at q
        exact e5 i i2 (by omega) (by omega) q
  · intro q
    rw [hcl] at q
    cases q
/-- room for one more -/
theorem KI_room {N : Nat} {clr : Bool} {st : Nat} {enc : Nat → Nat} {arr : Nat → Prop} {V : Nat → Nat → Prop} {J : CS → MS → Prop} {D b e m : Nat} {lx lc : Nat → Nat} {lr : Nat → Bool} {n : Nat} {qs qd qc : Nat → Nat} {k : Nat} {ex ec : Nat → Nat} {er : Nat → Bool} {dp : Bool} {cs : CS} {ms : MS} (K : KI N clr st enc arr V J D b e m lx lc lr n qs qd qc k ex ec er dp cs ms) {x : Nat} (hx : x < 1024) (nP : ¬ Ps clr st enc e n qs dp x) : k < 1024 := by
  obtain ⟨A, B, ⟨c1, c2, c3, c4⟩, ⟨e1, e2, e3, e4, e5, e6, e7⟩, F⟩ := K
  have := php 1024 (k + 1) (qU ex k x) (by
    intro i hi
    by_cases ei : i = k
    · rw [ei, qU_eq]
      exact hx
    · rw [qU_lt _ _ _ (by omega)]
      exact (c3 i (by omega)).1) (by
    intro i i2 h1 h2 q
    by_cases ei : i = k
    · by_cases ei2 : i2 = k
      · omega
      · rw [ei, qU_eq, qU_lt _ _ _ (by omega)] at q
        exact absurd (q ▸ e4 i2 (by omega)) nP
    · by_cases ei2 : i2 = k
      · rw [ei2, qU_eq, qU_lt _ _ _ (by omega)] at q
        exact absurd (q ▸ e4 i (by omega)) nP
      · rw [qU_lt _ _ _ (by omega), qU_lt _ _ _ (by omega)] at q
        exact e5 i i2 (by omega) (by omega) q)
  omega
theorem ls_child {N most : Nat} {clr : Bool} {st : Nat} {enc nx0 : Nat → Nat} {arr : Nat → Prop} {V : Nat → Nat → Prop} {J : CS → MS → Prop} {mv : Int32 → Int32 → Int32 → CS → (Int32 → CS → Prop) → Prop} {ar : Int32 → CS → (Int32 → CS → Prop) → Prop} {stp : Nat → Nat → MS → (Int32 → MS → Prop) → Prop} (H : SH N most clr st enc nx0 arr V J mv ar stp) {D b e m : Nat} {lx lc : Nat → Nat} {lr : Nat → Bool} {n : Nat} {qs qd qc : Nat → Nat} {k : Nat} {ex ec : Nat → Nat} {er : Nat → Bool} {dp : Bool} {cs : CS} {ms : MS} (K : KI N clr st enc arr V J D b e m lx lc lr n qs qd qc k ex ec er dp cs ms) {j f : Nat} (hj : j < m) (hr : lr j = true) (hf : f < 5) (hD : D < most) : (∃ (s' : Nat) (n1 : Nat) (qs1 qd1 qc1 : Nat → Nat) (k1 : Nat) (ex1 ec1 : Nat → Nat) (er1 : Nat → Bool) (dp1 : Bool) (cs1 : CS) (ms1 : MS), KI N clr st enc arr V J D b e m lx lc lr n1 qs1 qd1 qc1 k1 ex1 ec1 er1 dp1 cs1 ms1 ∧ Ext n qs qd qc n1 qs1 qd1 qc1 ∧ (dp = true → dp1 = true) ∧ (Ps clr st enc e n1 qs1 dp1 (enc s') ∧ ¬ arr s') ∧ (clr = false → qs (rkF b lr j) = st → s' = nx0 f) ∧ (∀ post K36, G78 mv ar post K36 most m D (5 * j + f + 1) cs1 → G78 mv ar post K36 most m D (5 * j + f) cs) ∧ (∀ A25 A55 Fin, RR N most clr arr V J stp A25 A55 Fin → A55 (rkF b lr j) (f + 1) ms1 → A55 (rkF b lr j) f ms)) ∨ FD N most clr arr V J stp D (fun post K36 => G78 mv ar post K36 most m D (5 * j + f) cs) (fun _ A55 => A55 (rkF b lr j) f ms) := by
  have H0 := H
  obtain ⟨h1, h2, h3, h4, h5, h6, h7, hN, hm20, h0⟩ := H
  have K0 := K
  obtain ⟨⟨a1, a2, a3⟩, ⟨⟨b1, b2, b3, b4⟩, b5, b6, b7⟩, ⟨c1, c2, c3, c4⟩, ⟨e1, e2, e3, e4, e5, e6, e7⟩, ⟨f1, f2, f3⟩⟩ := K
  obtain ⟨p, ep⟩ : ∃ p, p = rkF b lr j := ⟨_, rfl⟩
  have hp1 : b ≤ p := ep ▸ rk_le b lr j
  have hp2 : p < e := by
    have := rk_lt (b := b) hj hr
    rw [c2, ← ep] at this
    exact this
  obtain ⟨y1, y2, y3, _⟩ := c1 j hj
  obtain ⟨y3a, y3b⟩ := y3 hr
  rw [← ep] at y3a y3b
  rw [← ep]
  have p5 := pow5 (show D ≤ 20 by omega)
  have dD := b6 p hp1 hp2
  have vp := (a3 p (by omega)).1
  rw [dD] at vp
  obtain ⟨s', csA, msA, v1, jA, ss, sq, cA, mA, h7'⟩ := h2 D (qs p) f cs ms a1 vp hf (Or.inl hD)
  have RA := RepQ_s a2 sq
  have hx := (h4 _ _ v1).1
  have hs := (h4 _ _ v1).2
  have KA := KI_s K0 ss sq jA
  have hclr : clr = false → qs p = st → s' = nx0 f := fun z1 z2 => (h7' z1).2 z2
  have ey : cx_s_layer cs j = lN (qc p * 1024 + enc (qs p)) := by
    rw [e1 j hj, y3a, y3b]
  have hxp : enc (qs p) < 1024 := y3a ▸ y1
  have hcp : qc p < 5 ^ D := y3b ▸ y2
  have hr2 : ∀ A25 A55 Fin, RR N most clr arr V J stp A25 A55 Fin → ∀ ms2, rv (wM_comeTo (nI s') (nI (qs p)) (nI f) msA) ms2 → ms_line ms2 p = nI (qs p) → A55 p (f + 1) ms2 → A55 p f ms := fun A25 A55 Fin rr ms2 h g0 g => rr.2.1 n qs qd qc cs ms p f a1 a2 (by omega) (by rw [dD]; exact vp) (Or.inl (by omega)) hf s' msA ms2 sq mA h g0 g
  by_cases old : ∃ i, i < n ∧ qs i = s'
  · obtain ⟨i, hi, ei⟩ := old
    have na : ¬ arr s' := ei ▸ (a3 i hi).2
    by_cases seen : Ps clr st enc e n qs dp (enc s')
    · refine Or.inl ⟨s', n, qs, qd, qc, k, ex, ec, er, dp, csA, msA, KA, Ext_refl _ _ _ _, fun z => z, ⟨seen, na⟩, hclr, ?_, ?_⟩
      · rintro post K36 ⟨n0, hn0⟩
        refine ⟨n0 + 1, q_child f1 hj hf hxp (by omega) ey e7 post K36 most D n0 (cA _ (q_addOld hx _ ?_ _ ?_))⟩
        · rw [ss.2.2.1, e3 _ hx]
          exact fun z => z seen
        · exact h3 (D + 1) s' csA msA jA v1 _ (p_no na (p_yes rfl hn0))
      · intro A25 A55 Fin rr h
        exact hr2 A25 A55 Fin rr msA (fun post hp => m_comeOld hN RA hi ei _ _ post hp) (RA.2.1 p (by omega)).2.1 h
    · have hcl : clr = false := by
        cases hc : clr
        · rfl
        · exfalso
          apply seen
          refine Or.inl ⟨i, ?_, hi, by rw [ei]⟩
          rw [if_pos hc]
          have q := h6 hc (D + 1) (qd i) s' v1 (ei ▸ (a3 i hi).1)
          by_cases le : e ≤ i
          · exact le
          · have := b5 i (by omega)
            omega
      have i0 : i = 0 := by
        by_cases z : i = 0
        · exact z
        · exfalso
          apply seen
          refine Or.inl ⟨i, ?_, hi, by rw [ei]⟩
          rw [hcl, if_neg (by decide)]
          omega
      have es : s' = st := by
        rw [← ei, i0]
        exact b4
      rw [es] at seen hx
      have hk := KI_room K0 hx seen
      have nb : snB (cx_s_seen csA) (enc st) := by
        rw [ss.2.2.1, e3 _ hx]
        exact seen
      obtain ⟨csB, eB⟩ : ∃ z, z = cQ csA (cx_s_layer csA) (vp_updL (cx_s_nextLayer csA) k (lN (5 * qc p + f) * 1024 + Int32.toInt64 (nI (enc st)))) (k_put 32 (cx_s_seen csA) (nI (enc st) / 32) ((k_at 32 (cx_s_seen csA) (nI (enc st) / 32)) ||| (k_shl 1 (k_rem (nI (enc st)) 32)))) (nI (k + 1)) (cx_s_length csA) (cx_s_path csA) := ⟨_, rfl⟩
      have jB : J csB msA := by
        rw [eB]
        exact h1 _ _ _ _ jA (cF_cQ _ _ _ _ _ _ _) (qF_refl _)
      obtain ⟨KB, PB⟩ := KI_dup (cs' := csB) (c := 5 * qc p + f) K0 hcl hx (by rw [Nat.pow_succ]; omega) seen hk sq jB (by rw [eB, cQ_layer, ss.1]) (by rw [eB, cQ_nextLayer, ss.2.1, en_new _ hx]) (by
        intro y hy
        rw [eB, cQ_seen, sn_put _ hx hy, ss.2.2.1]) (by rw [eB, cQ_count]) (by rw [eB, cQ_length, ss.2.2.2.2.1, e7])
      refine Or.inl ⟨s', n, qs, qd, qc, k + 1, qU ex k (enc st), qU ec k (5 * qc p + f), bU er k false, true, csB, msA, KB, Ext_refl _ _ _ _, fun _ => rfl, ⟨es ▸ PB, na⟩, hclr, ?_, ?_⟩
      · rintro post K36 ⟨n0, hn0⟩
        refine ⟨n0 + 1, q_child f1 hj hf hxp (by omega) ey e7 post K36 most D n0 (cA _ ?_)⟩
        rw [es]
        refine q_addNew hx _ nb hk (by rw [ss.2.2.2.1, e6]) _ ?_
        rw [← eB]
        rw [es] at v1 na
        exact h3 (D + 1) st csB msA jB v1 _ (p_no na (p_yes rfl hn0))
      · intro A25 A55 Fin rr h
        exact hr2 A25 A55 Fin rr msA (fun post hp => m_comeOld hN RA hi ei _ _ post hp) (RA.2.1 p (by omega)).2.1 h
  · have new : ∀ i, i < n → qs i ≠ s' := fun i hi q => old ⟨i, hi, q⟩
    have seen : ¬ Ps clr st enc e n qs dp (enc s') := by
      rintro (⟨i, i1, i2, i3⟩ | ⟨d1, d2⟩)
      · refine new i i2 (h5 (qd i) (D + 1) (qs i) s' (a3 i i2).1 v1 (fun z => ?_) i3)
        rw [if_pos z] at i1
        exact b7 i i1 i2
      · have hcl : clr = false := by
          cases hc : clr
          · rfl
          · have := (f3 hc).1
            rw [this] at d1
            cases d1
        refine new 0 (by omega) ?_
        rw [b4]
        exact (h5 (D + 1) 0 s' st v1 h0 (fun z => by rw [hcl] at z; cases z) d2).symm
    have hk := KI_room K0 hx seen
    have nb : snB (cx_s_seen csA) (enc s') := by
      rw [ss.2.2.1, e3 _ hx]
      exact seen
    obtain ⟨msB, RB, fB, cB⟩ := m_comeNew hN RA hs new (show p < n by omega) hf
    obtain ⟨csB, eB⟩ : ∃ z, z = cQ csA (cx_s_layer csA) (vp_updL (cx_s_nextLayer csA) k (lN (5 * qc p + f) * 1024 + Int32.toInt64 (nI (enc s')))) (k_put 32 (cx_s_seen csA) (nI (enc s') / 32) ((k_at 32 (cx_s_seen csA) (nI (enc s') / 32)) ||| (k_shl 1 (k_rem (nI (enc s')) 32)))) (nI (k + 1)) (cx_s_length csA) (cx_s_path csA) := ⟨_, rfl⟩
    have jB : J csB msB := by
      rw [eB]
      exact h1 _ _ _ _ jA (cF_cQ _ _ _ _ _ _ _) fB
    by_cases na : arr s'
    · -- found
      right
      obtain ⟨n2, qs2, qd2, qc2, cs2, ms2, x1, x2, x3, x4, x5, x6⟩ := ref_exp H0 (4 - f) (f + 1) (n + 1) _ _ _ p csB msB (by omega) jB RB (by
        intro i hi
        by_cases e : i = n
        · rw [e, qU_eq, qU_eq, dD]
          exact v1
        · rw [qU_lt _ _ _ (by omega), qU_lt _ _ _ (by omega)]
          exact (a3 i (by omega)).1) (by omega) (Or.inl (by rw [qU_lt _ _ _ (by omega)]; omega))
      have en := x1.2 n (by omega)
      rw [qU_eq, qU_eq, qU_eq] at en
      obtain ⟨n3, qs3, qd3, qc3, cs3, ms3, y1, y2, y3, y4⟩ := ref_found H0 (p := n) (n - (p + 1)) (p + 1) n2 qs2 qd2 qc2 cs2 ms2 (by omega) x2 x3 x4 (by
        intro i hi
        have q := x1.2 i (by omega)
        rw [qU_lt _ _ _ hi, qU_lt _ _ _ hi] at q
        rw [q.1, q.2.1]
        refine ⟨(a3 i hi).2, ?_⟩
        by_cases le : i < e
        · have := b5 i le
          omega
        · have := b7 i (by omega) hi
          omega) (Nat.lt_of_lt_of_le (by omega) x1.1) (by rw [en.1]; exact na) (by rw [en.2.1]; omega)
      have en3 := y1.2 n (Nat.lt_of_lt_of_le (by omega) x1.1)
      obtain ⟨csC, eC⟩ : ∃ z, z = cx_set_s_path (cx_set_s_length csB (nI (D + 1))) (lN (5 * qc p + f)) := ⟨_, rfl⟩
      have eC2 : csC = cQ csA (cx_s_layer csA) (vp_updL (cx_s_nextLayer csA) k (lN (5 * qc p + f) * 1024 + Int32.toInt64 (nI (enc s')))) (k_put 32 (cx_s_seen csA) (nI (enc s') / 32) ((k_at 32 (cx_s_seen csA) (nI (enc s') / 32)) ||| (k_shl 1 (k_rem (nI (enc s')) 32)))) (nI (k + 1)) (nI (D + 1)) (lN (5 * qc p + f)) := by
        rw [eC, eB, cQ_s_length, cQ_s_path]
      refine ⟨D + 1, 5 * qc p + f, cQ csC (va_cpy (cx_s_nextLayer csC) (cx_s_layer csC) 0 0 (k + 1)) (cx_s_nextLayer csC) (cx_s_seen csC) (nI (k + 1)) (cx_s_length csC) (cx_s_path csC), ms3, n3, qs3, qd3, qc3, n, Nat.lt_of_lt_of_le (Nat.lt_of_lt_of_le (by omega) x1.1) y1.1, y3, ?_, ?_, by omega, by omega, ?_, ?_, ⟨msB, ?_⟩, ⟨cs3, y2⟩, ?_, ?_⟩
      · rw [en3.2.1, en.2.1, dD]
      · rw [en3.2.2, en.2.2]
      · rw [cQ_length, eC2, cQ_length]
      · rw [cQ_path, eC2, cQ_path]
      · have jC : J csC msB := by
          rw [eC2]
          exact h1 _ _ _ _ jA (cF_cQ _ _ _ _ _ _ _) fB
        exact h1 _ _ _ _ jC (cF_cQ _ _ _ _ _ _ _) (qF_refl _)
      · intro post K36 hK hp
        refine ⟨1 + 1, q_child f1 hj hf hxp (by omega) ey e7 post K36 most D 1 (cA _ (q_addNew hx _ nb hk (by rw [ss.2.2.2.1, e6]) _ ?_))⟩
        rw [← eB]
        refine h3 (D + 1) s' csB msB jB v1 _ (p_yes na (p_no (by decide) ?_))
        rw [← eC]
        have nl : ¬ cx_s_length csC = -1 := by
          rw [eC2, cQ_length]
          exact nI_nm1 (by omega)
        refine q_stop (show k + 1 ≤ 1024 by omega) (by rw [eC2, cQ_count]) nl post K36 most D (hK _ _ ?_ hp)
        rw [cQ_length]
        exact nl
      · intro A25 A55 Fin rr h
        refine hr2 A25 A55 Fin rr msB cB (by have q := (RB.2.1 p (by omega)).2.1; rw [qU_lt _ _ _ (by omega)] at q; exact q) (x6 A25 A55 Fin rr (y4 A25 A55 Fin rr ?_))
        rw [en3.1] at h
        exact h
    · obtain ⟨KB, PB⟩ := KI_real (cs' := csB) (ms' := msB) K0 hp1 hp2 hf hx hcp v1 na seen hk RB jB (by rw [eB, cQ_layer, ss.1]) (by rw [eB, cQ_nextLayer, ss.2.1, en_new _ hx]) (by
        intro y hy
        rw [eB, cQ_seen, sn_put _ hx hy, ss.2.2.1]) (by rw [eB, cQ_count]) (by rw [eB, cQ_length, ss.2.2.2.2.1, e7])
      refine Or.inl ⟨s', n + 1, qU qs n s', qU qd n (qd p + 1), qU qc n (5 * qc p + f), k + 1, qU ex k (enc s'), qU ec k (5 * qc p + f), bU er k true, dp, csB, msB, KB, Ext_new _ _ _ _ _ _ _, fun z => z, ⟨PB, na⟩, hclr, ?_, ?_⟩
      · rintro post K36 ⟨n0, hn0⟩
        refine ⟨n0 + 1, q_child f1 hj hf hxp (by omega) ey e7 post K36 most D n0 (cA _ (q_addNew hx _ nb hk (by rw [ss.2.2.2.1, e6]) _ ?_))⟩
        rw [← eB]
        exact h3 (D + 1) s' csB msB jB v1 _ (p_no na (p_yes rfl hn0))
      · intro A25 A55 Fin rr h
        exact hr2 A25 A55 Fin rr msB cB (by have q := (RB.2.1 p (by omega)).2.1; rw [qU_lt _ _ _ (by omega)] at q; exact q) h
