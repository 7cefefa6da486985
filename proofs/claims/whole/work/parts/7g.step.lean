/-! PURE LAYER: both searches in step -/
section
variable (N most : Nat) (clr : Bool) (st : Nat) (enc nx0 : Nat → Nat) (arr : Nat → Prop) (V : Nat → Nat → Prop) (J : CS → MS → Prop) (mv : Int32 → Int32 → Int32 → CS → (Int32 → CS → Prop) → Prop) (ar : Int32 → CS → (Int32 → CS → Prop) → Prop) (stp : Nat → Nat → MS → (Int32 → MS → Prop) → Prop)
/-- what a search rests on -/
def SH : Prop := (∀ cs ms cs' ms', J cs ms → cF cs cs' → qF ms ms' → J cs' ms') ∧ (∀ D s f cs ms, J cs ms → V D s → f < 5 → (D < most ∨ clr = false) → ∃ s' cs' ms', V (D + 1) s' ∧ J cs' ms' ∧ sS cs cs' ∧ sQ ms ms' ∧ rt (mv (nI (enc s)) (nI f) (nI D) cs) (nI (enc s')) cs' ∧ rt (stp s f ms) (nI s') ms' ∧ (clr = false → ms' = ms ∧ (s = st → s' = nx0 f))) ∧ (∀ D s cs ms, J cs ms → V D s → ∀ post : Int32 → CS → Prop, ((arr s → post 1 cs) ∧ (¬ arr s → post 0 cs)) → ar (nI (enc s)) cs post) ∧ (∀ D s, V D s → enc s < 1024 ∧ s < N) ∧ (∀ D D' s s', V D s → V D' s' → (clr = true → D = D') → enc s = enc s' → s = s') ∧ (clr = true → ∀ D D' s, V D s → V D' s → D = D') ∧ (clr = false → ∀ D D' s, V D s → V D' s) ∧ N ≤ 10000 ∧ most ≤ 20 ∧ V 0 st
/-- how the reference's loops go on -/
def RR (A25 : Nat → MS → Prop) (A55 : Nat → Nat → MS → Prop) (Fin : Nat → MS → Prop) : Prop := (∀ n qs qd qc cs ms k, J cs ms → RepQ N n qs qd qc ms → k < n → V (qd k) (qs k) → qd k ≤ most → ¬ arr (qs k) → A55 k 0 ms → A25 k ms) ∧ (∀ n qs qd qc cs ms k f, J cs ms → RepQ N n qs qd qc ms → k < n → V (qd k) (qs k) → (qd k < most ∨ clr = false) → f < 5 → ∀ s' ms' ms2, sQ ms ms' → rt (stp (qs k) f ms) (nI s') ms' → rv (wM_comeTo (nI s') (nI (qs k)) (nI f) ms') ms2 → ms_line ms2 k = nI (qs k) → A55 k (f + 1) ms2 → A55 k f ms) ∧ (∀ n qs qd qc cs ms k, J cs ms → RepQ N n qs qd qc ms → k < n → V (qd k) (qs k) → clr = true → qd k = most → A25 (k + 1) ms → A55 k 0 ms) ∧ (∀ k ms, k < 10000 → A25 (k + 1) ms → A55 k 5 ms) ∧ (∀ n qs qd qc cs ms k, J cs ms → RepQ N n qs qd qc ms → k < n → V (qd k) (qs k) → qd k ≤ most → arr (qs k) → Fin (qs k) ms → A25 k ms)
end
def Ext (n : Nat) (qs qd qc : Nat → Nat) (n' : Nat) (qs' qd' qc' : Nat → Nat) : Prop := n ≤ n' ∧ ∀ i, i < n → qs' i = qs i ∧ qd' i = qd i ∧ qc' i = qc i
theorem Ext_refl (n : Nat) (qs qd qc : Nat → Nat) : Ext n qs qd qc n qs qd qc := ⟨Nat.le_refl _, fun _ _ => ⟨rfl, rfl, rfl⟩⟩
theorem Ext_trans {n n1 n2 : Nat} {qs qd qc qs1 qd1 qc1 qs2 qd2 qc2 : Nat → Nat} (h : Ext n qs qd qc n1 qs1 qd1 qc1) (g : Ext n1 qs1 qd1 qc1 n2 qs2 qd2 qc2) : Ext n qs qd qc n2 qs2 qd2 qc2 := by
  refine ⟨Nat.le_trans h.1 g.1, ?_⟩
  intro i hi
  have a := h.2 i hi
  have b := g.2 i (Nat.lt_of_lt_of_le hi h.1)
  exact ⟨b.1.trans a.1, b.2.1.trans a.2.1, b.2.2.trans a.2.2⟩
theorem Ext_new (n : Nat) (qs qd qc : Nat → Nat) (a b c : Nat) : Ext n qs qd qc (n + 1) (qU qs n a) (qU qd n b) (qU qc n c) := ⟨by omega, fun i hi => ⟨qU_lt _ _ _ hi, qU_lt _ _ _ hi, qU_lt _ _ _ hi⟩⟩
theorem ref_exp {N most : Nat} {clr : Bool} {st : Nat} {enc nx0 : Nat → Nat} {arr : Nat → Prop} {V : Nat → Nat → Prop} {J : CS → MS → Prop} {mv : Int32 → Int32 → Int32 → CS → (Int32 → CS → Prop) → Prop} {ar : Int32 → CS → (Int32 → CS → Prop) → Prop} {stp : Nat → Nat → MS → (Int32 → MS → Prop) → Prop} (H : SH N most clr st enc nx0 arr V J mv ar stp) : ∀ (d f n : Nat) (qs qd qc : Nat → Nat) (k : Nat) (cs : CS) (ms : MS), f + d = 5 → J cs ms → RepQ N n qs qd qc ms → (∀ i, i < n → V (qd i) (qs i)) → k < n → (qd k < most ∨ clr = false) → ∃ (n' : Nat) (qs' qd' qc' : Nat → Nat) (cs' : CS) (ms' : MS), Ext n qs qd qc n' qs' qd' qc' ∧ J cs' ms' ∧ RepQ N n' qs' qd' qc' ms' ∧ (∀ i, i < n' → V (qd' i) (qs' i)) ∧ (∀ i, n ≤ i → i < n' → qd' i = qd k + 1) ∧ ∀ A25 A55 Fin, RR N most clr arr V J stp A25 A55 Fin → A25 (k + 1) ms' → A55 k f ms := by
  obtain ⟨h1, h2, h3, h4, h5, h6, h7, hN, hm, h0⟩ := H
  intro d
  induction d with
  | zero =>
    intro f n qs qd qc k cs ms e j R hV hk hd
    have ef : f = 5 := by omega
    subst ef
    have nN := RepQ_n R
    refine ⟨n, qs, qd, qc, cs, ms, Ext_refl _ _ _ _, j, R, hV, fun i a b => by omega, ?_⟩
    intro A25 A55 Fin rr h
    exact rr.2.2.2.1 k ms (by omega) h
  | succ d ih =>
    intro f n qs qd qc k cs ms e j R hV hk hd
    obtain ⟨s', cs1, ms1, v1, j1, ss, sq, c1, m1, _⟩ := h2 (qd k) (qs k) f cs ms j (hV k hk) (by omega) hd
    have R1 := RepQ_s R sq
    have hs := (h4 _ _ v1).2
    by_cases old : ∃ i, i < n ∧ qs i = s'
    · obtain ⟨i, hi, ei⟩ := old
      obtain ⟨n', qs', qd', qc', cs', ms', x1, x2, x3, x4, x5, x6⟩ := ih (f + 1) n qs qd qc k cs1 ms1 (by omega) j1 R1 hV hk hd
      refine ⟨n', qs', qd', qc', cs', ms', x1, x2, x3, x4, x5, ?_⟩
      intro A25 A55 Fin rr h
      exact rr.2.1 n qs qd qc cs ms k f j R hk (hV k hk) hd (by omega) s' ms1 ms1 sq m1 (fun post hp => m_comeOld hN R1 hi ei _ _ post hp) (R1.2.1 k hk).2.1 (x6 A25 A55 Fin rr h)
    · have new : ∀ i, i < n → qs i ≠ s' := fun i hi q => old ⟨i, hi, q⟩
      obtain ⟨ms2, R2, f2, c2⟩ := m_comeNew hN R1 hs new hk (f := f) (by omega)
      have j2 := h1 _ _ _ _ j1 (cF_refl _) f2
      have ek := (Ext_new n qs qd qc s' (qd k + 1) (5 * qc k + f)).2 k hk
      obtain ⟨n', qs', qd', qc', cs', ms', x1, x2, x3, x4, x5, x6⟩ := ih (f + 1) (n + 1) (qU qs n s') (qU qd n (qd k + 1)) (qU qc n (5 * qc k + f)) k cs1 ms2 (by omega) j2 R2 (by
        intro i hi
        by_cases e : i = n
        · rw [e, qU_eq, qU_eq]
          exact v1
        · rw [qU_lt _ _ _ (by omega), qU_lt _ _ _ (by omega)]
          exact hV i (by omega)) (by omega) (by rw [ek.2.1]; exact hd)
      refine ⟨n', qs', qd', qc', cs', ms', Ext_trans (Ext_new _ _ _ _ _ _ _) x1, x2, x3, x4, ?_, ?_⟩
      · intro i a b
        by_cases e : i = n
        · rw [e, (x1.2 n (by omega)).2.1, qU_eq]
        · rw [x5 i (by omega) b, ek.2.1]
      · intro A25 A55 Fin rr h
        refine rr.2.1 n qs qd qc cs ms k f j R hk (hV k hk) hd (by omega) s' ms1 ms2 sq m1 c2 (by have q := (R2.2.1 k (by omega)).2.1; rw [qU_lt _ _ _ hk] at q; exact q) (x6 A25 A55 Fin rr h)
/-- the reference alone goes on to what has been found -/
theorem ref_found {N most : Nat} {clr : Bool} {st : Nat} {enc nx0 : Nat → Nat} {arr : Nat → Prop} {V : Nat → Nat → Prop} {J : CS → MS → Prop} {mv : Int32 → Int32 → Int32 → CS → (Int32 → CS → Prop) → Prop} {ar : Int32 → CS → (Int32 → CS → Prop) → Prop} {stp : Nat → Nat → MS → (Int32 → MS → Prop) → Prop} (H : SH N most clr st enc nx0 arr V J mv ar stp) {p : Nat} : ∀ (d k n : Nat) (qs qd qc : Nat → Nat) (cs : CS) (ms : MS), k + d = p → J cs ms → RepQ N n qs qd qc ms → (∀ i, i < n → V (qd i) (qs i)) → (∀ i, i < p → ¬ arr (qs i) ∧ qd i ≤ most) → p < n → arr (qs p) → qd p ≤ most → ∃ (n' : Nat) (qs' qd' qc' : Nat → Nat) (cs' : CS) (ms' : MS), Ext n qs qd qc n' qs' qd' qc' ∧ J cs' ms' ∧ RepQ N n' qs' qd' qc' ms' ∧ ∀ A25 A55 Fin, RR N most clr arr V J stp A25 A55 Fin → Fin (qs p) ms' → A25 k ms := by
  intro d
  induction d with
  | zero =>
    intro k n qs qd qc cs ms e j R hV hn hp ha hd
    have ek : k = p := by omega
    subst ek
    refine ⟨n, qs, qd, qc, cs, ms, Ext_refl _ _ _ _, j, R, ?_⟩
    intro A25 A55 Fin rr h
    exact rr.2.2.2.2 n qs qd qc cs ms k j R hp (hV k hp) hd ha h
  | succ d ih =>
    intro k n qs qd qc cs ms e j R hV hn hp ha hd
    obtain ⟨nk, dk⟩ := hn k (by omega)
    by_cases c : qd k < most ∨ clr = false
    · obtain ⟨n1, qs1, qd1, qc1, cs1, ms1, x1, x2, x3, x4, x5, x6⟩ := ref_exp H 5 0 n qs qd qc k cs ms (by omega) j R hV (by omega) c
      have ep := x1.2 p hp
      obtain ⟨n', qs', qd', qc', cs', ms', y1, y2, y3, y4⟩ := ih (k + 1) n1 qs1 qd1 qc1 cs1 ms1 (by omega) x2 x3 x4 (by
        intro i hi
        have ei := x1.2 i (by omega)
        rw [ei.1, ei.2.1]
        exact hn i hi) (Nat.lt_of_lt_of_le hp x1.1) (by rw [ep.1]; exact ha) (by rw [ep.2.1]; exact hd)
      refine ⟨n', qs', qd', qc', cs', ms', Ext_trans x1 y1, y2, y3, ?_⟩
      intro A25 A55 Fin rr h
      rw [← ep.1] at h
      exact rr.1 n qs qd qc cs ms k j R (by omega) (hV k (by omega)) dk nk (x6 A25 A55 Fin rr (y4 A25 A55 Fin rr h))
    · have em : qd k = most := by
        have : ¬ qd k < most := fun z => c (Or.inl z)
        omega
      have ec : clr = true := by
        cases hc : clr
        · exact absurd (Or.inr hc) c
        · rfl
      obtain ⟨n', qs', qd', qc', cs', ms', y1, y2, y3, y4⟩ := ih (k + 1) n qs qd qc cs ms (by omega) j R hV hn hp ha hd
      refine ⟨n', qs', qd', qc', cs', ms', y1, y2, y3, ?_⟩
      intro A25 A55 Fin rr h
      exact rr.1 n qs qd qc cs ms k j R (by omega) (hV k (by omega)) dk nk (rr.2.2.1 n qs qd qc cs ms k j R (by omega) (hV k (by omega)) ec em (y4 A25 A55 Fin rr h))
/-! the class's layers -/
def rkF (b : Nat) (lr : Nat → Bool) : Nat → Nat
  | 0 => b
  | j + 1 => if lr j = true then rkF b lr j + 1 else rkF b lr j
theorem rk_mono (b : Nat) (lr : Nat → Bool) : ∀ d j, rkF b lr j ≤ rkF b lr (j + d) := by
  intro d
  induction d with
  | zero => intro j; exact Nat.le_refl _
  | succ d ih =>
    intro j
    have := ih j
    show _ ≤ (if lr (j + d) = true then rkF b lr (j + d) + 1 else rkF b lr (j + d))
    split <;> omega
theorem rk_lt {b : Nat} {lr : Nat → Bool} {j m : Nat} (hj : j < m) (h : lr j = true) : rkF b lr j < rkF b lr m := by
  have e : rkF b lr (j + 1) = rkF b lr j + 1 := if_pos h
  have := rk_mono b lr (m - (j + 1)) (j + 1)
  rw [show j + 1 + (m - (j + 1)) = m by omega] at this
  omega
theorem rk_le (b : Nat) (lr : Nat → Bool) (j : Nat) : b ≤ rkF b lr j := by
  have := rk_mono b lr j 0
  rw [Nat.zero_add] at this
  exact this
def bU (lr : Nat → Bool) (n : Nat) (x : Bool) : Nat → Bool := fun j => if j = n then x else lr j
theorem bU_eq (lr : Nat → Bool) (n : Nat) (x : Bool) : bU lr n x n = x := if_pos rfl
theorem bU_lt (lr : Nat → Bool) (n : Nat) (x : Bool) {k : Nat} (h : k < n) : bU lr n x k = lr k := if_neg (by omega)
theorem rk_bU (b : Nat) (lr : Nat → Bool) (n : Nat) (x : Bool) : ∀ j, j ≤ n → rkF b (bU lr n x) j = rkF b lr j := by
  intro j
  induction j with
  | zero => intro _; rfl
  | succ j ih =>
    intro h
    show (if bU lr n x j = true then rkF b (bU lr n x) j + 1 else rkF b (bU lr n x) j) = (if lr j = true then rkF b lr j + 1 else rkF b lr j)
    rw [bU_lt _ _ _ (by omega), ih (by omega)]
def Lay (enc : Nat → Nat) (st : Nat) (qs qc : Nat → Nat) (B b m : Nat) (lx lc : Nat → Nat) (lr : Nat → Bool) : Prop := ∀ j, j < m → lx j < 1024 ∧ lc j < B ∧ (lr j = true → lx j = enc (qs (rkF b lr j)) ∧ lc j = qc (rkF b lr j)) ∧ (lr j = false → lx j = enc st)
theorem Lay_ext {enc : Nat → Nat} {st : Nat} {qs qd qc qs' qd' qc' : Nat → Nat} {B b m n n' : Nat} {lx lc : Nat → Nat} {lr : Nat → Bool} (h : Lay enc st qs qc B b m lx lc lr) (hn : rkF b lr m ≤ n) (E : Ext n qs qd qc n' qs' qd' qc') : Lay enc st qs' qc' B b m lx lc lr := by
  intro j hj
  obtain ⟨a1, a2, a3, a4⟩ := h j hj
  refine ⟨a1, a2, ?_, a4⟩
  intro hr
  have lt := rk_lt (b := b) hj hr
  have e := E.2 (rkF b lr j) (by omega)
  rw [e.1, e.2.2]
  exact a3 hr
theorem Lay_add {enc : Nat → Nat} {st : Nat} {qs qc : Nat → Nat} {B b m : Nat} {lx lc : Nat → Nat} {lr : Nat → Bool} (h : Lay enc st qs qc B b m lx lc lr) {x c : Nat} {r : Bool} (hx : x < 1024) (hc : c < B) (h1 : r = true → x = enc (qs (rkF b lr m)) ∧ c = qc (rkF b lr m)) (h2 : r = false → x = enc st) : Lay enc st qs qc B b (m + 1) (qU lx m x) (qU lc m c) (bU lr m r) := by
  intro j hj
  by_cases e : j = m
  · subst e
    rw [qU_eq, qU_eq, bU_eq, rk_bU _ _ _ _ _ (Nat.le_refl _)]
    exact ⟨hx, hc, h1, h2⟩
  · rw [qU_lt _ _ _ (by omega), qU_lt _ _ _ (by omega), bU_lt _ _ _ (by omega), rk_bU _ _ _ _ _ (by omega)]
    exact h j (by omega)
theorem rk_add (b : Nat) (lr : Nat → Bool) (m : Nat) (r : Bool) : rkF b (bU lr m r) (m + 1) = (if r = true then rkF b lr m + 1 else rkF b lr m) := by
  show (if bU lr m r m = true then rkF b (bU lr m r) m + 1 else rkF b (bU lr m r) m) = _
  rw [bU_eq, rk_bU _ _ _ _ _ (Nat.le_refl _)]
def Ps (clr : Bool) (st : Nat) (enc : Nat → Nat) (e n : Nat) (qs : Nat → Nat) (dp : Bool) (x : Nat) : Prop := (∃ k, (if clr = true then e else 1) ≤ k ∧ k < n ∧ enc (qs k) = x) ∨ (dp = true ∧ x = enc st)
theorem Ps_ext {clr : Bool} {st : Nat} {enc : Nat → Nat} {e n n' : Nat} {qs qd qc qs' qd' qc' : Nat → Nat} {dp dp' : Bool} {x : Nat} (h : Ps clr st enc e n qs dp x) (E : Ext n qs qd qc n' qs' qd' qc') (hd : dp = true → dp' = true) : Ps clr st enc e n' qs' dp' x := by
  rcases h with ⟨k, k1, k2, k3⟩ | ⟨h1, h2⟩
  · refine Or.inl ⟨k, k1, Nat.lt_of_lt_of_le k2 E.1, ?_⟩
    rw [(E.2 k k2).1]
    exact k3
  · exact Or.inr ⟨hd h1, h2⟩
/-! the class's steps -/
theorem q_200 {S : CS} {m : Nat} (hm : m ≤ 1024) (ec : cx_s_count S = nI m) (post : CS → Prop) (K : Int32 → Int32 → Int32 → CS → Prop) (x3 : Int32) (D : Nat) (hp : K x3 (nI m) (nI (D + 1)) (cQ S (va_cpy (cx_s_nextLayer S) (cx_s_layer S) 0 0 m) (cx_s_nextLayer S) (cx_s_seen S) (nI m) (cx_s_length S) (cx_s_path S))) : wC_X7_find_mood_200 post K x3 (nI D) S := by
  unfold wC_X7_find_mood_200
  rw [q_held, ec]
  have eh : hldV (nI m) 0 1024 = nI m := by
    unfold hldV
    rw [if_pos (nI_pos' (by omega)), if_pos (show nI m ≤ 1024 from nI_le (b := 1024) hm (by decide))]
  rw [eh, nI_clamp (by omega), p_all, nI_1, cQ_0_layer, ec]
  exact ⟨nI_pos (by omega), hm, hm, hp⟩
def G78 (mv : Int32 → Int32 → Int32 → CS → (Int32 → CS → Prop) → Prop) (ar : Int32 → CS → (Int32 → CS → Prop) → Prop) (post : CS → Prop) (K36 : Int32 → Int32 → Int32 → CS → Prop) (x3 m D i : Nat) (cs : CS) : Prop := ∃ n, gF78 mv ar post K36 n (nI x3) (nI m) (nI D) (nI i) cs
theorem q_end {mv : Int32 → Int32 → Int32 → CS → (Int32 → CS → Prop) → Prop} {ar : Int32 → CS → (Int32 → CS → Prop) → Prop} {S : CS} {m m' : Nat} (hm : m ≤ 1024) (hm' : m' ≤ 1024) (ec : cx_s_count S = nI m') (post : CS → Prop) (K : Int32 → Int32 → Int32 → CS → Prop) (x3 D : Nat) (hp : K (nI x3) (nI m') (nI (D + 1)) (cQ S (va_cpy (cx_s_nextLayer S) (cx_s_layer S) 0 0 m') (cx_s_nextLayer S) (cx_s_seen S) (nI m') (cx_s_length S) (cx_s_path S))) : G78 mv ar post K x3 m D (5 * m) S := by
  refine ⟨1, ?_⟩
  rw [gF78, nI_ml 5 m, Nat.mul_comm m 5]
  exact p_yes (Int32.le_refl _) (q_200 hm' ec post K (nI x3) D hp)
theorem q_stop {mv : Int32 → Int32 → Int32 → CS → (Int32 → CS → Prop) → Prop} {ar : Int32 → CS → (Int32 → CS → Prop) → Prop} {S : CS} {m m' i : Nat} (hm' : m' ≤ 1024) (ec : cx_s_count S = nI m') (el : ¬ cx_s_length S = -1) (post : CS → Prop) (K : Int32 → Int32 → Int32 → CS → Prop) (x3 D : Nat) (hp : K (nI x3) (nI m') (nI (D + 1)) (cQ S (va_cpy (cx_s_nextLayer S) (cx_s_layer S) 0 0 m') (cx_s_nextLayer S) (cx_s_seen S) (nI m') (cx_s_length S) (cx_s_path S))) : gF78 mv ar post K 1 (nI x3) (nI m) (nI D) (nI i) S := by
  have q := q_200 hm' ec post K (nI x3) D hp
  rw [gF78]
  exact p_two (fun _ => q) (fun _ => p_two (fun _ => q) (fun _ => p_no el q))
theorem q_child {mv : Int32 → Int32 → Int32 → CS → (Int32 → CS → Prop) → Prop} {ar : Int32 → CS → (Int32 → CS → Prop) → Prop} {S : CS} {m j f x c : Nat} (hm : m ≤ 1024) (hj : j < m) (hf : f < 5) (hx : x < 1024) (hc : c < 2 ^ 50) (ey : cx_s_layer S j = lN (c * 1024 + x)) (el : cx_s_length S = -1) (post : CS → Prop) (K : Int32 → Int32 → Int32 → CS → Prop) (x3 D n : Nat) (hp : mv (nI x) (nI f) (nI D) S (fun r_4 S_5 => wC_X7_add (lN (5 * c + f)) r_4 S_5 (fun S_7 => ar r_4 S_7 (fun r_8 S_9 => ((r_8 = 0 → gF78 mv ar post K n (nI x3) (nI m) (nI D) (nI (5 * j + f + 1)) S_9) ∧ (¬ (r_8 = 0) → gF78 mv ar post K n (nI x3) (nI m) (nI D) (nI (5 * j + f + 1)) (cx_set_s_path (cx_set_s_length S_9 (nI (D + 1))) (lN (5 * c + f))))))))) : gF78 mv ar post K (n + 1) (nI x3) (nI m) (nI D) (nI (5 * j + f)) S := by
  rw [gF78, nI_ml 5 m, show nI (5 * j + f) / 5 = nI ((5 * j + f) / 5) from p_div (d := 5) (by omega) (by decide), show k_rem (nI (5 * j + f)) 5 = nI ((5 * j + f) % 5) from p_rem (d := 5) (by omega) (by decide), show (5 * j + f) / 5 = j by omega, show (5 * j + f) % 5 = f by omega, nI_clamp (n := j) (by omega), ey, en_state hc hx, en_code hc hx hf]
  simp only [p_all, nI_1]
  exact p_no (nI_ge (by omega) (by omega)) (p_no (nI_ge (b := 1024) (by omega) (by decide)) (p_yes el ⟨vp_in_nI (by omega) (by decide), hp⟩))
