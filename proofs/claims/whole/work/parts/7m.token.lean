/-! PURE LAYER: a token on both sides -/
def pkb (b : Nat → Nat) (s : Nat) : Nat → Nat
  | 0 => 0
  | k + 1 => pkb b s k * 256 + b (s + k)
theorem pkb_lt {b : Nat → Nat} {s : Nat} : ∀ k, (∀ j, j < k → b (s + j) ≤ 255) → pkb b s k < 256 ^ k := by
  intro k
  induction k with
  | zero => intro _; exact Nat.zero_lt_one
  | succ k ih =>
    intro h
    have a := ih (fun j hj => h j (by omega))
    have c := h k (by omega)
    have e : (256 : Nat) ^ (k + 1) = 256 ^ k * 256 := Nat.pow_succ 256 k
    show pkb b s k * 256 + b (s + k) < _
    rw [e]
    omega
theorem pkb_inj {b c : Nat → Nat} {s t : Nat} : ∀ k l, (∀ j, j < k → 1 ≤ b (s + j) ∧ b (s + j) ≤ 255) → (∀ j, j < l → 1 ≤ c (t + j) ∧ c (t + j) ≤ 255) → pkb b s k = pkb c t l → k = l ∧ ∀ j, j < k → b (s + j) = c (t + j) := by
  intro k
  induction k with
  | zero =>
    intro l h1 h2 e
    by_cases c0 : l = 0
    · exact ⟨c0.symm, fun j hj => absurd hj (Nat.not_lt_zero j)⟩
    · obtain ⟨m, rfl⟩ : ∃ m, l = m + 1 := ⟨l - 1, by omega⟩
      have e' : 0 = pkb c t m * 256 + c (t + m) := e
      have := h2 m (by omega)
      omega
  | succ k ih =>
    intro l h1 h2 e
    by_cases c0 : l = 0
    · subst c0
      have e' : pkb b s k * 256 + b (s + k) = 0 := e
      have := h1 k (by omega)
      omega
    · obtain ⟨m, rfl⟩ : ∃ m, l = m + 1 := ⟨l - 1, by omega⟩
      have e' : pkb b s k * 256 + b (s + k) = pkb c t m * 256 + c (t + m) := e
      have q1 := h1 k (by omega)
      have q2 := h2 m (by omega)
      obtain ⟨r1, r2⟩ := ih m (fun j hj => h1 j (by omega)) (fun j hj => h2 j (by omega)) (by omega)
      refine ⟨by omega, ?_⟩
      intro j hj
      by_cases ej : j = k
      · subst ej
        rw [← r1] at e' q2
        omega
      · exact r2 j (by omega)
theorem pkb_eq {b c : Nat → Nat} {s t : Nat} : ∀ k, (∀ j, j < k → b (s + j) = c (t + j)) → pkb b s k = pkb c t k := by
  intro k
  induction k with
  | zero => intro _; rfl
  | succ k ih =>
    intro h
    show pkb b s k * 256 + b (s + k) = pkb c t k * 256 + c (t + k)
    rw [ih (fun j hj => h j (by omega)), h k (by omega)]
def wK (i : Nat) : Int64 := lN (pkb (wCh i) 0 (wLn i))
theorem w_dist : ∀ i, i < 30 → ∀ j, j < 30 → wLn i = wLn j → (∀ k, k < wLn i → wCh i k = wCh j k) → i = j := by decide +kernel
theorem wEq_one {b : Nat → Nat} {s e i j : Nat} (hi : i < 30) (hj : j < 30) (h1 : wEq b s e i) (h2 : wEq b s e j) : i = j := by
  have l : wLn i = wLn j := by
    have := h1.1
    have := h2.1
    omega
  refine w_dist i hi j hj l ?_
  intro k hk
  rw [← h1.2 k hk, ← h2.2 k (by omega)]
theorem wIx_eq {b : Nat → Nat} {s e c : Nat} (h : wIx b s e c) {i : Nat} (hi : i < 30) : wEq b s e i ↔ c = i := by
  rcases h with ⟨h1, h2, h3⟩ | ⟨h1, h2⟩
  · constructor
    · intro q
      exact wEq_one h1 hi h2 q
    · intro q
      rw [← q]
      exact h2
  · constructor
    · intro q
      exact absurd q (h2 i hi)
    · intro q
      omega
theorem lN_shl {x y : Nat} (hx : x < 2 ^ 48) (hy : y < 256) : (k_shlL (lN x) 8) ||| (Int32.toInt64 (nI y)) = lN (x * 256 + y) := by
  have e1 : k_shlL (lN x) 8 = lN (x * 256) := by
    apply Int64.toInt.inj
    have t : (lN x).toInt = x := lN_toB (by omega)
    rw [lN_toB (by omega)]
    have q := Jvm.Kit.i64_shl (lN x) ((8 : Int32).toInt64 &&& 63) (k := 8) (by decide) (by rw [t]; omega) (by rw [t]; omega)
    rw [t] at q
    unfold k_shlL
    rw [q]
    omega
  rw [e1, nI_l (by omega)]
  have e2 : lN (x * 256) ||| lN y = lN (x * 256 ||| y) := by
    apply Int64.toBitVec.inj
    show BitVec.ofNat 64 (x * 256) ||| BitVec.ofNat 64 y = BitVec.ofNat 64 (x * 256 ||| y)
    exact BitVec.ofNat_or.symm
  rw [e2]
  have e3 : x * 256 ||| y = x * 256 + y := by
    have q := Nat.two_pow_add_eq_or_of_lt (i := 8) (b := y) (by omega) x
    rw [show (2 : Nat) ^ 8 = 256 by decide] at q
    rw [Nat.mul_comm x 256]
    exact q.symm
  rw [e3]
theorem lN_shr48 {x : Nat} (hx : x < 2 ^ 62) : (k_shrL (lN x) 48 = 0) = (x < 2 ^ 48) := by
  have t : (lN x).toInt = x := lN_toB (by omega)
  have e1 : k_shrL (lN x) 48 = lN (x / 2 ^ 48) := by
    apply Int64.toInt.inj
    have q := Jvm.Kit.i64_shr (lN x) ((48 : Int32).toInt64 &&& 63) (k := 48) (by decide)
    rw [t] at q
    have h3 : x / 2 ^ 48 < 2 ^ 62 := Nat.lt_of_le_of_lt (Nat.div_le_self x _) hx
    unfold k_shrL
    rw [q, lN_toB (by omega)]
    rfl
  rw [e1]
  apply propext
  constructor
  · intro h
    have := congrArg Int64.toInt h
    have h3 : x / 2 ^ 48 < 2 ^ 62 := Nat.lt_of_le_of_lt (Nat.div_le_self x _) hx
    rw [lN_toB (by omega)] at this
    have z : (0 : Int64).toInt = 0 := by decide
    omega
  · intro h
    rw [Nat.div_eq_of_lt h]
    rfl
theorem lN_injB {x y : Nat} (hx : x < 2 ^ 62) (hy : y < 2 ^ 62) : (lN x = lN y) = (x = y) := by
  apply propext
  constructor
  · intro h
    have := congrArg Int64.toInt h
    rw [lN_toB (by omega), lN_toB (by omega)] at this
    omega
  · intro h
    rw [h]
/-- the reference's long of a word -/
def wdV (b : Nat → Nat) (s : Nat) : Nat → Nat
  | 0 => 0
  | k + 1 => if wdV b s k < 2 ^ 48 then wdV b s k * 256 + b (s + k) else 2 ^ 60
theorem wdV_small {b : Nat → Nat} {s : Nat} : ∀ k, k ≤ 7 → (∀ j, j < k → 1 ≤ b (s + j) ∧ b (s + j) ≤ 255) → wdV b s k = pkb b s k := by
  intro k
  induction k with
  | zero => intro _ _; rfl
  | succ k ih =>
    intro hk h
    have e := ih (by omega) (fun j hj => h j (by omega))
    have l := pkb_lt (b := b) (s := s) k (fun j hj => (h j (by omega)).2)
    have p6 : (256 : Nat) ^ k ≤ 256 ^ 6 := Nat.pow_le_pow_right (by decide) (by omega)
    have p7 : (256 : Nat) ^ 6 = 2 ^ 48 := by decide
    show (if wdV b s k < 2 ^ 48 then wdV b s k * 256 + b (s + k) else 2 ^ 60) = pkb b s k * 256 + b (s + k)
    rw [e, if_pos (by omega)]
theorem wdV_big {b : Nat → Nat} {s : Nat} : ∀ k, (∀ j, j < k → 1 ≤ b (s + j) ∧ b (s + j) ≤ 255) → wdV b s k < 2 ^ 61 ∧ (8 ≤ k → wdV b s k = 2 ^ 60) ∧ (k = 7 → 2 ^ 48 ≤ wdV b s k) := by
  intro k
  induction k with
  | zero => intro _; exact ⟨(show 0 < 2 ^ 61 by decide), fun z => by omega, fun z => by omega⟩
  | succ k ih =>
    intro h
    obtain ⟨i1, i2, i3⟩ := ih (fun j hj => h j (by omega))
    have q := h k (by omega)
    have e : wdV b s (k + 1) = (if wdV b s k < 2 ^ 48 then wdV b s k * 256 + b (s + k) else 2 ^ 60) := rfl
    refine ⟨?_, ?_, ?_⟩
    · rw [e]
      split <;> omega
    · intro h8
      rw [e]
      by_cases k7 : k = 7
      · have := i3 k7
        rw [if_neg (by omega)]
      · have := i2 (by omega)
        rw [if_neg (by omega)]
    · intro h7
      have k6 : k = 6 := by omega
      rw [wdV_small (k + 1) (by omega) h]
      show 2 ^ 48 ≤ pkb b s k * 256 + b (s + k)
      have one : ∀ m, 1 ≤ m → (∀ j, j < m → 1 ≤ b (s + j) ∧ b (s + j) ≤ 255) → 256 ^ (m - 1) ≤ pkb b s m := by
        intro m
        induction m with
        | zero => intro hm; omega
        | succ m ihm =>
          intro _ hh
          by_cases m0 : m = 0
          · subst m0
            have := (hh 0 (by omega)).1
            show 1 ≤ 0 * 256 + b (s + 0)
            omega
          · have r := ihm (by omega) (fun j hj => hh j (by omega))
            show 256 ^ (m + 1 - 1) ≤ pkb b s m * 256 + b (s + m)
            have e2 : (256 : Nat) ^ (m + 1 - 1) = 256 ^ (m - 1) * 256 := by
              rw [show m + 1 - 1 = (m - 1) + 1 by omega, Nat.pow_succ]
            omega
      have o6 := one 6 (by omega) (fun j hj => h j (by omega))
      have p5 : (256 : Nat) ^ (6 - 1) = 2 ^ 40 := by decide
      subst k6
      omega
theorem wK_lt : ∀ i, i < 30 → pkb (wCh i) 0 (wLn i) < 2 ^ 56 := by decide +kernel
theorem wd_word {b : Nat → Nat} {s e c : Nat} (hse : s ≤ e) (hb : ∀ j, j < e - s → 1 ≤ b (s + j) ∧ b (s + j) ≤ 255) (h : wIx b s e c) {i : Nat} (hi : i < 30) : lN (wdV b s (e - s)) = wK i ↔ c = i := by
  rw [← wIx_eq h hi]
  obtain ⟨t1, t2, t3, t4, t5, t6⟩ := w_tab i hi
  have kl := wK_lt i hi
  obtain ⟨g1, g2, g3⟩ := wdV_big (e - s) hb
  unfold wK
  rw [lN_injB (by omega) (by omega)]
  by_cases c8 : 8 ≤ e - s
  · rw [g2 c8]
    constructor
    · intro q
      omega
    · intro q
      have := q.1
      omega
  · rw [wdV_small (e - s) (by omega) hb]
    have hw : ∀ j, j < wLn i → 1 ≤ wCh i (0 + j) ∧ wCh i (0 + j) ≤ 255 := by
      intro j hj
      rw [Nat.zero_add]
      have := t6 j hj
      omega
    constructor
    · intro q
      obtain ⟨r1, r2⟩ := pkb_inj (e - s) (wLn i) hb hw q
      refine ⟨by omega, ?_⟩
      intro j hj
      have := r2 j (by omega)
      rw [Nat.zero_add] at this
      exact this
    · intro q
      rw [show e - s = wLn i by have := q.1; omega]
      refine pkb_eq (wLn i) ?_
      intro j hj
      rw [Nat.zero_add]
      exact q.2 j hj
def sgN (c : Nat) : Nat := [4, 5, 60, 62, 61, 35, 43, 45, 42, 47, 40, 41, 59].getD (c - 33) 0
/-- what a token is on the reference's side -/
def TokF (b : Nat → Nat) (s e ct : Nat) (tk : Int32) (wd : Int64) : Prop := (ct < 30 → tk = 2) ∧ (ct = 31 → tk = 0) ∧ (ct = 32 → tk = 1) ∧ (33 ≤ ct → ct ≤ 45 → tk = nI (sgN ct)) ∧ (ct = 30 → tk = 2 ∨ tk = 3 ∨ tk = 58) ∧ (tk = 2 → ct ≤ 30 ∧ (∀ i, i < 30 → (wd = wK i ↔ ct = i) ∨ i = 4) ∧ (wEq b s e 4 ↔ ct = 4)) ∧ ct ≤ 45
/-! numbers -/
def cNu (b : Nat → Nat) (s : Nat) : Nat → Nat
  | 0 => 0
  | k + 1 => if 10000 < cNu b s k * 10 + b (s + k) - 48 then 10000 else cNu b s k * 10 + b (s + k) - 48
def rNu (b : Nat → Nat) (s : Nat) : Nat → Nat
  | 0 => 0
  | k + 1 => if rNu b s k ≤ 99999 then 10 * rNu b s k + b (s + k) - 48 else rNu b s k
theorem nu_eq {b : Nat → Nat} {s : Nat} : ∀ k, (∀ j, j < k → 48 ≤ b (s + j) ∧ b (s + j) ≤ 57) → rNu b s k ≤ 999999 ∧ cNu b s k ≤ 10000 ∧ (rNu b s k ≤ 9999 → cNu b s k = rNu b s k) ∧ (9999 < rNu b s k → cNu b s k = 10000) := by
  intro k
  induction k with
  | zero => intro _; exact ⟨Nat.zero_le _, Nat.zero_le _, fun _ => rfl, fun z => by have : rNu b s 0 = 0 := rfl; omega⟩
  | succ k ih =>
    intro h
    obtain ⟨i1, i2, i3, i4⟩ := ih (fun j hj => h j (by omega))
    have q := h k (by omega)
    have e1 : rNu b s (k + 1) = (if rNu b s k ≤ 99999 then 10 * rNu b s k + b (s + k) - 48 else rNu b s k) := rfl
    have e2 : cNu b s (k + 1) = (if 10000 < cNu b s k * 10 + b (s + k) - 48 then 10000 else cNu b s k * 10 + b (s + k) - 48) := rfl
    generalize rNu b s k = r at *
    generalize cNu b s k = c at *
    rw [e1, e2]
    by_cases h9 : r ≤ 9999
    · have ec := i3 h9
      rw [if_pos (show r ≤ 99999 by omega), ec]
      by_cases lt : 10000 < r * 10 + b (s + k) - 48
      · rw [if_pos lt]
        exact ⟨by omega, by omega, fun z => by omega, fun z => rfl⟩
      · rw [if_neg lt]
        exact ⟨by omega, by omega, fun z => by omega, fun z => by omega⟩
    · have ec := i4 (by omega)
      rw [ec, if_pos (show 10000 < 10000 * 10 + b (s + k) - 48 by omega)]
      by_cases le : r ≤ 99999
      · rw [if_pos le]
        exact ⟨by omega, by omega, fun z => by omega, fun z => rfl⟩
      · rw [if_neg le]
        exact ⟨by omega, by omega, fun z => by omega, fun z => rfl⟩
/-! the class -/
theorem q_skip {S : CS} {M : MS} {n : Nat} {b : Nat → Nat} (T : TP S M n b) {s : Nat} (tk sa : Int32) (nu : Int32) (cd : Nat → Int32) (cl op : Int32) (post : CS → Prop) : ∀ d p, p + d = n → s = spn (fun i => blB (b i)) d p → wC_X6_advance_49 post (cA S tk sa (nI s) nu cd cl op 0) → wC_X6_advance_8 post (d + 1) (cA S tk sa (nI p) nu cd cl op 0) := by
  have hn := T.1
  intro d
  induction d with
  | zero =>
    intro p e es h
    have ep : p = n := by omega
    have es' : s = p := es
    rw [es', ep] at h
    rw [wC_X6_advance_8, cA_length, cA_place, T.2.1, ep]
    exact p_yes (Int32.le_refl _) h
  | succ d ih =>
    intro p e es h
    have hb := (T.2.2.2 p (by omega)).2.2
    rw [wC_X6_advance_8, cA_length, cA_place, cA_tape, T.2.1, tape_C T (by omega), q_isBlank hb, p_b0, p_all, cA_place, cA_s_place, nI_1]
    refine p_no (nI_ge (by omega) (by omega)) ?_
    by_cases c : blB (b p) = true
    · have e2 : spn (fun i => blB (b i)) (d + 1) p = spn (fun i => blB (b i)) d (p + 1) := if_pos c
      exact p_val c (ih (p + 1) (by omega) (es.trans e2) h)
    · have e2 : spn (fun i => blB (b i)) (d + 1) p = p := if_neg c
      rw [es.trans e2] at h
      exact p_yes c h
theorem q_takeWord {S : CS} {M : MS} {n : Nat} {b : Nat → Nat} (T : TP S M n b) {s : Nat} (tk : Int32) (nu : Int32) (cd : Nat → Int32) (cl op : Int32) (post : CS → Prop) {e : Nat} : ∀ d p, s ≤ p → p + d = n → e = spn (fun i => leB (b i)) d p → (∃ N, wC_X6_takeWord_59 post N (nI 0) (nI s) 1 (nI (wSt 0)) (cA S 30 (nI s) (nI e) nu cd cl op 0)) → wC_X6_takeWord_0 post (d + 1) (cA S tk (nI s) (nI p) nu cd cl op 0) := by
  have hn := T.1
  have fin : ∀ q, (∃ N, wC_X6_takeWord_59 post N (nI 0) (nI s) 1 (nI (wSt 0)) (cA S 30 (nI s) (nI q) nu cd cl op 0)) → wC_X6_takeWord_41 post (cA S tk (nI s) (nI q) nu cd cl op 0) := by
    intro q h
    unfold wC_X6_takeWord_41
    rw [p_all, cA_s_token, cA_start]
    exact h
  intro d
  induction d with
  | zero =>
    intro p hs ep es h
    have e1 : p = n := by omega
    have es' : e = p := es
    rw [es'] at h
    rw [wC_X6_takeWord_0, cA_length, cA_place, T.2.1, e1]
    rw [e1] at h
    exact p_yes (Int32.le_refl _) (fin n h)
  | succ d ih =>
    intro p hs ep es h
    have hb := (T.2.2.2 p (by omega)).2.2
    rw [wC_X6_takeWord_0, cA_length, cA_place, cA_tape, T.2.1, tape_C T (by omega), q_isLetter hb, p_b0, p_all, cA_place, cA_s_place, nI_1]
    refine p_no (nI_ge (by omega) (by omega)) ?_
    by_cases c : leB (b p) = true
    · have e2 : spn (fun i => leB (b i)) (d + 1) p = spn (fun i => leB (b i)) d (p + 1) := if_pos c
      exact p_val c (ih (p + 1) (by omega) (by omega) (es.trans e2) h)
    · have e2 : spn (fun i => leB (b i)) (d + 1) p = p := if_neg c
      rw [es.trans e2] at h
      exact p_yes c (fin p h)
theorem q_takeNumber {S : CS} {M : MS} {n : Nat} {b : Nat → Nat} (T : TP S M n b) {s e : Nat} (tk : Int32) (cd : Nat → Int32) (cl op : Int32) (post : CS → Prop) (hp : post (cA S 32 (nI s) (nI e) (nI (cNu b s (e - s))) cd cl op 0)) : ∀ d p, s ≤ p → p + d = n → e = spn (fun i => fiB (b i)) d p → (∀ i, s ≤ i → i < p → fiB (b i) = true) → wC_X6_takeNumber_5 post (d + 1) (cA S tk (nI s) (nI p) (nI (cNu b s (p - s))) cd cl op 0) := by
  have hn := T.1
  intro d
  induction d with
  | zero =>
    intro p hs ep es hd
    have e1 : p = n := by omega
    have es' : e = p := es
    rw [es', e1] at hp
    rw [wC_X6_takeNumber_5, cA_length, cA_place, T.2.1, e1, p_all, cA_s_token]
    exact p_yes (Int32.le_refl _) hp
  | succ d ih =>
    intro p hs ep es hd
    have hb := (T.2.2.2 p (by omega)).2.2
    rw [wC_X6_takeNumber_5, cA_length, cA_place, cA_tape, T.2.1, tape_C T (by omega), q_isDigit hb, p_b0]
    refine p_no (nI_ge (by omega) (by omega)) ?_
    by_cases c : fiB (b p) = true
    · have e2 : spn (fun i => fiB (b i)) (d + 1) p = spn (fun i => fiB (b i)) d (p + 1) := if_pos c
      refine p_val c ?_
      simp only [p_all]
      rw [cA_number, cA_tape, cA_place, tape_C T (by omega), cA_s_number, cA_place, cA_s_place, nI_1]
      have fb : ∀ i, s ≤ i → i < p + 1 → 48 ≤ b i ∧ b i ≤ 57 := by
        intro i h1 h2
        have q : fiB (b i) = true := by
          by_cases ei : i = p
          · rw [ei]
            exact c
          · exact hd i h1 (by omega)
        unfold fiB at q
        have q1 := Bool.and_eq_true_iff.mp q
        exact ⟨of_decide_eq_true q1.1, of_decide_eq_true q1.2⟩
      obtain ⟨n1, n2, n3, n4⟩ := nu_eq (b := b) (s := s) (p - s) (fun j hj => fb (s + j) (by omega) (by omega))
      have bp := fb p hs (by omega)
      have ev : nI (cNu b s (p - s)) * 10 + nI (b p) - 48 = nI (cNu b s (p - s) * 10 + b p - 48) := by
        rw [nI_ml 10, nI_add]
        exact nI_sub (b := 48) (by omega)
      have e3 : (if 10000 < nI (cNu b s (p - s)) * 10 + nI (b p) - 48 then (10000 : Int32) else nI (cNu b s (p - s)) * 10 + nI (b p) - 48) = nI (cNu b s (p + 1 - s)) := by
        rw [ev, show p + 1 - s = (p - s) + 1 by omega]
        show _ = nI (if 10000 < cNu b s (p - s) * 10 + b (s + (p - s)) - 48 then 10000 else cNu b s (p - s) * 10 + b (s + (p - s)) - 48)
        rw [show s + (p - s) = p by omega]
        have hv : cNu b s (p - s) * 10 + b p - 48 ≤ 200000 := by omega
        generalize cNu b s (p - s) * 10 + b p - 48 = v at hv
        by_cases lt : 10000 < v
        · rw [if_pos lt, if_pos (show (10000 : Int32) < nI v from nI_lt (a := 10000) lt (by omega))]
          rfl
        · rw [if_neg lt, if_neg (show ¬ (10000 : Int32) < nI v from fun z => lt ((nI_ltI (a := 10000) (by decide) (by omega)).mp z))]
      rw [e3]
      exact ih (p + 1) (by omega) (by omega) (es.trans e2) (by
        intro i h1 h2
        by_cases ei : i = p
        · rw [ei]
          exact c
        · exact hd i h1 (by omega))
    · have e2 : spn (fun i => fiB (b i)) (d + 1) p = p := if_neg c
      rw [es.trans e2] at hp
      rw [p_all, cA_s_token]
      exact p_yes c hp
def plC (x : Nat) : Nat := if x = 35 then 38 else if x = 40 then 43 else if x = 41 then 44 else if x = 42 then 41 else if x = 43 then 39 else if x = 45 then 40 else if x = 47 then 42 else if x = 59 then 45 else if x = 61 then 37 else 30
def sgC (x : Nat) (eq : Bool) : Nat := if x = 60 then (if eq then 33 else 35) else if x = 62 then (if eq then 34 else 36) else plC x
def sgE (x : Nat) (eq : Bool) : Nat := if (x = 60 ∨ x = 62) ∧ eq = true then 2 else 1
theorem q_plain {x : Nat} (hx : x ≤ 255) (S : CS) (post : Int32 → CS → Prop) (hp : post (nI (plC x)) S) : wC_X6_plainSign (nI x) S post := by
  have k : ∀ c, c ≤ 255 → (nI x = nI c ↔ x = c) := fun c hc => nI_eq (by omega) (by omega)
  unfold wC_X6_plainSign
  unfold plC at hp
  refine ⟨fun z => ?_, fun z => ?_, fun z => ?_, fun z => ?_, fun z => ?_, fun z => ?_, fun z => ?_, fun z => ?_, fun z => ?_, fun z1 z2 z3 z4 z5 z6 z7 z8 z9 => ?_⟩
  · have q := (k 35 (by decide)).mp z
    subst q
    exact hp
  · have q := (k 40 (by decide)).mp z
    subst q
    exact hp
  · have q := (k 41 (by decide)).mp z
    subst q
    exact hp
  · have q := (k 42 (by decide)).mp z
    subst q
    exact hp
  · have q := (k 43 (by decide)).mp z
    subst q
    exact hp
  · have q := (k 45 (by decide)).mp z
    subst q
    exact hp
  · have q := (k 47 (by decide)).mp z
    subst q
    exact hp
  · have q := (k 59 (by decide)).mp z
    subst q
    exact hp
  · have q := (k 61 (by decide)).mp z
    subst q
    exact hp
  · rw [if_neg (fun q => z1 ((k 35 (by decide)).mpr q)), if_neg (fun q => z2 ((k 40 (by decide)).mpr q)), if_neg (fun q => z3 ((k 41 (by decide)).mpr q)), if_neg (fun q => z4 ((k 42 (by decide)).mpr q)), if_neg (fun q => z5 ((k 43 (by decide)).mpr q)), if_neg (fun q => z6 ((k 45 (by decide)).mpr q)), if_neg (fun q => z7 ((k 47 (by decide)).mpr q)), if_neg (fun q => z8 ((k 59 (by decide)).mpr q)), if_neg (fun q => z9 ((k 61 (by decide)).mpr q))] at hp
    exact hp
theorem pl_30 (x : Nat) : plC x = 30 ∨ (37 ≤ plC x ∧ plC x ≤ 45) := by
  unfold plC
  repeat (first | (split; (first | exact Or.inl rfl | exact Or.inr ⟨by decide, by decide⟩)) | exact Or.inl rfl)
theorem sg_else {x : Nat} {eq : Bool} (h1 : ¬ x = 60) (h2 : ¬ x = 62) : sgC x eq = plC x ∧ sgE x eq = 1 := by
  unfold sgC sgE
  rw [if_neg h1, if_neg h2, if_neg (fun z => by rcases z.1 with q | q; exact h1 q; exact h2 q)]
  exact ⟨rfl, rfl⟩
theorem q_takeSign {S : CS} {M : MS} {n : Nat} {b : Nat → Nat} (T : TP S M n b) {s : Nat} (hs : s < n) (tk : Int32) (nu : Int32) (cd : Nat → Int32) (cl op : Int32) (post : CS → Prop) (hp : post (cA S (nI (sgC (b s) (decide (s + 1 < n) && (b (s + 1) == 61)))) (nI s) (nI (s + sgE (b s) (decide (s + 1 < n) && (b (s + 1) == 61)))) nu cd cl op 0)) : wC_X6_takeSign (nI (b s)) (cA S tk (nI s) (nI s) nu cd cl op 0) post := by
  have hn := T.1
  have hb := (T.2.2.2 s hs).2.2
  have k : ∀ c, c ≤ 255 → (nI (b s) = nI c ↔ b s = c) := fun c hc => nI_eq (by omega) (by omega)
  have k60 := k 60 (by decide)
  have k62 := k 62 (by decide)
  -- the tail, with what it sets
  have tail : ∀ (t : Nat), t ≤ 45 → post (cA S (nI t) (nI s) (nI (s + (if t = 33 ∨ t = 34 then 2 else 1))) nu cd cl op 0) → wC_X6_takeSign_93 post (cA S (nI t) (nI s) (nI s) nu cd cl op 0) := by
    intro t ht h
    unfold wC_X6_takeSign_93
    simp only [p_all]
    rw [cA_token, cA_place, cA_s_place, cA_s_place, show nI s + 2 = nI (s + 2) from nI_al 2 s, nI_1]
    have e33 : (nI t = 33) = (t = 33) := propext (nI_eq (b := 33) (by omega) (by decide))
    have e34 : (nI t = 34) = (t = 34) := propext (nI_eq (b := 34) (by omega) (by decide))
    rw [e33, e34]
    refine p_two (fun q => ?_) (fun q => p_two (fun q2 => ?_) (fun q2 => ?_))
    · rw [if_pos (Or.inl q)] at h
      exact h
    · rw [if_pos (Or.inr q2)] at h
      exact h
    · rw [if_neg (fun z => by rcases z with z | z; exact q z; exact q2 z)] at h
      exact h
  have mid : ∀ (eq : Bool), post (cA S (nI (sgC (b s) eq)) (nI s) (nI (s + sgE (b s) eq)) nu cd cl op 0) → wC_X6_takeSign_36 post (nI (b s)) (if eq = true then 1 else 0) (cA S tk (nI s) (nI s) nu cd cl op 0) := by
    intro eq h
    unfold wC_X6_takeSign_36
    simp only [p_all, cA_s_token]
    refine p_two (fun q => ?_) (fun q => p_two (fun q2 => ?_) (fun q2 => ?_))
    · have e := k60.mp q
      rw [e] at h
      cases eq
      · exact p_yes rfl (tail 35 (by decide) h)
      · exact p_no (by decide) (tail 33 (by decide) h)
    · have e := k62.mp q2
      rw [e] at h
      cases eq
      · exact p_yes rfl (tail 36 (by decide) h)
      · exact p_no (by decide) (tail 34 (by decide) h)
    · have el := sg_else (eq := eq) (fun z => q (k60.mpr z)) (fun z => q2 (k62.mpr z))
      rw [el.1, el.2] at h
      refine q_plain hb _ _ ?_
      rw [cA_s_token]
      have p30 := pl_30 (b s)
      refine tail (plC (b s)) (by omega) ?_
      rw [if_neg (by omega)]
      exact h
  unfold wC_X6_takeSign
  rw [cA_length, cA_place, cA_tape, T.2.1, nI_1]
  by_cases lt : s + 1 < n
  · have hb1 := (T.2.2.2 (s + 1) lt).2.2
    rw [tape_C T lt]
    refine p_no (nI_ge lt (by omega)) ?_
    have e61 : (nI (b (s + 1)) = 61) = (b (s + 1) = 61) := propext (nI_eq (b := 61) (by omega) (by decide))
    rw [e61]
    refine p_two (fun q => ?_) (fun q => ?_)
    · have := mid true
      rw [show (decide (s + 1 < n) && (b (s + 1) == 61)) = true by rw [decide_eq_true lt, q]; rfl] at hp
      exact this hp
    · have := mid false
      rw [show (decide (s + 1 < n) && (b (s + 1) == 61)) = false by rw [beq_false_of_ne q, Bool.and_false]] at hp
      exact this hp
  · refine p_yes (nI_le (by omega) (by omega)) ?_
    have := mid false
    rw [show (decide (s + 1 < n) && (b (s + 1) == 61)) = false by rw [decide_eq_false lt, Bool.false_and]] at hp
    exact this hp
