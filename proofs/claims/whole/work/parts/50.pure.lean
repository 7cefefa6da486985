/-! PURE LAYER, base -/
/-- what a predicate comes to -/
def rt {α σ : Type} (W : (α → σ → Prop) → Prop) (r : α) (S : σ) : Prop := ∀ post : α → σ → Prop, post r S → W post
def rv {σ : Type} (W : (σ → Prop) → Prop) (S : σ) : Prop := ∀ post : σ → Prop, post S → W post
theorem p_if (c A B : Prop) [Decidable c] : ((c → A) ∧ (¬ c → B)) = (if c then A else B) := by
  by_cases h : c
  · simp [h]
  · simp [h]
theorem p_all {α : Type} (b : α) (P : α → Prop) : (∀ x : α, x = b → P x) = P b := by
  apply propext
  constructor
  · intro h
    exact h b rfl
  · intro h x e
    rw [e]
    exact h
theorem p_lit (n : Nat) : (no_index (OfNat.ofNat n : Int32)) = nI n := rfl
theorem nI_mul (a b : Nat) : nI a * nI b = nI (a * b) := by
  unfold nI
  exact (Int32.ofNat_mul a b).symm
theorem nI_la (m n : Nat) : (no_index (OfNat.ofNat m : Int32)) + nI n = nI (m + n) := nI_add m n
theorem nI_al (m n : Nat) : nI n + (no_index (OfNat.ofNat m : Int32)) = nI (n + m) := nI_add n m
theorem nI_lm (m n : Nat) : (no_index (OfNat.ofNat m : Int32)) * nI n = nI (m * n) := nI_mul m n
theorem nI_ml (m n : Nat) : nI n * (no_index (OfNat.ofNat m : Int32)) = nI (n * m) := nI_mul n m
theorem p_at {n : Nat} (hn : n < 2 ^ 31) (f : Nat → Int32) {i : Nat} (hi : i < n) : k_at n f (nI i) = f i := by
  unfold k_at
  rw [if_neg (nI_pos (by omega)), if_neg (nI_ge hi hn), nI_clamp (by omega)]
theorem p_put {n : Nat} (hn : n < 2 ^ 31) (f : Nat → Int32) {i : Nat} (hi : i < n) (v : Int32) : k_put n f (nI i) v = upd f i v := by
  unfold k_put
  rw [if_neg (nI_pos (by omega)), if_neg (nI_ge hi hn), nI_clamp (by omega)]
theorem upd_eq (f : Nat → Int32) (k : Nat) (v : Int32) : upd f k v k = v := if_pos rfl
theorem upd_ne (f : Nat → Int32) {k j : Nat} (v : Int32) (h : j ≠ k) : upd f k v j = f j := if_neg h
theorem p_rng {x : Int32} {n : Nat} (hn : n < 2 ^ 31) (h0 : 0 ≤ x) (h1 : x < nI n) : ∃ j : Nat, j < n ∧ x = nI j := by
  obtain ⟨j, hj, e⟩ := nI_of (x := x) (Int32.not_lt.mpr h0)
  refine ⟨j, ?_, e⟩
  rw [e] at h1
  exact (nI_ltI hj hn).mp h1
theorem p_rng2 {x : Int32} {n : Nat} (hn : n < 2 ^ 31) (h0 : 0 ≤ x) (h1 : x ≤ nI n) : ∃ j : Nat, j ≤ n ∧ x = nI j := by
  obtain ⟨j, hj, e⟩ := nI_of (x := x) (Int32.not_lt.mpr h0)
  refine ⟨j, ?_, e⟩
  rw [e] at h1
  exact (nI_leI hj hn).mp h1
theorem p_bool {r : Int32} (h : r = 0 ∨ r = 1) : narrow .boolean (.int r) = .int r := by
  rcases h with h | h <;> subst h <;> rfl
theorem p_bool0 : narrow .boolean (.int 0) = .int 0 := rfl
theorem p_bool1 : narrow .boolean (.int 1) = .int 1 := rfl
/-! places: cell i of the class (now 0 .. 73, kinds 74, skills 80, ages 85, turns 90, costs 140, worths 170, aheads 186, counts 191 ..) in the reference's row, in a kept step -/
def ix (i : Nat) : Nat := if i < 24 then 10 + 6 * (i % 6) + i / 6 else if i < 39 then 46 + 5 * ((i - 24) % 5) + (i - 24) / 5 else if i < 42 then i - 32 else if i < 72 then 2382 + i else if i < 74 then i - 72 else if i < 80 then 14 + 6 * (i - 74) else if i < 85 then 49 + 5 * (i - 80) else if i < 90 then 50 + 5 * (i - 85) else if i < 140 then i - 19 else if i < 170 then i - 19 else if i < 186 then i - 3 else if i < 191 then i - 3 else if i = 191 then 2 else if i = 192 then 3 else if i = 193 then 5 else if i = 194 then 6 else 4
def jx (i : Nat) : Nat := if i < 24 then 5 + 4 * (i % 6) + i / 6 else if i < 39 then 29 + 3 * ((i - 24) % 5) + (i - 24) / 5 else if i < 42 then i - 37 else if i < 72 then 2 + i else i - 72
def lo (i : Nat) : Int32 := if i < 12 then 0 else if i < 18 then -1 else if i < 29 then 0 else if i < 34 then -1 else if i = 192 then -1 else 0
def hi (i : Nat) : Int32 := if i < 6 then 99 else if i < 12 then 9 else if i < 18 then 4 else if i < 24 then 99 else if i < 29 then 9 else if i < 34 then 5 else if i < 40 then 9999 else if i < 41 then 30528 else if i < 42 then 30 else if i < 72 then 639999 else if i < 73 then 6 else if i < 74 then 5 else if i < 80 then 3 else if i < 85 then 9 else if i < 90 then 99 else if i < 140 then 9 else if i < 170 then 99 else if i < 186 then 999 else if i < 191 then 31 else if i < 192 then 4 else if i < 193 then 3 else if i < 195 then 8 else 30
theorem ix_inj : ∀ i, i < 196 → ∀ j, j < 196 → ix i = ix j → i = j := by decide +kernel
theorem jx_inj : ∀ i, i < 74 → ∀ j, j < 74 → jx i = jx j → i = j := by decide +kernel
theorem jx_lt : ∀ i, i < 74 → jx i < 74 := by decide +kernel
theorem ix_lt : ∀ i, i < 196 → ix i < 2454 ∧ (ix i < 204 ∨ 2424 ≤ ix i) ∧ (ix i < 151 ∨ 167 ≤ ix i) ∧ (ix i < 188 ∨ 204 ≤ ix i) := by decide +kernel
theorem ix_told : ∀ i, i < 196 → ∀ h, h < 6 → ix i ≠ 15 + 6 * h := by decide +kernel
/-! the relation -/
def RN (f a : Nat → Int32) : Prop := ∀ i, i < 74 → f i = a (ix i) ∧ lo i ≤ f i ∧ f i ≤ hi i
def oC (kinds skills ages turns costs worths aheads : Nat → Int32) (tc ru trc gc sc : Int32) (i : Nat) : Int32 := if i < 80 then kinds (i - 74) else if i < 85 then skills (i - 80) else if i < 90 then ages (i - 85) else if i < 140 then turns (i - 90) else if i < 170 then costs (i - 140) else if i < 186 then worths (i - 170) else if i < 191 then aheads (i - 186) else if i < 192 then tc else if i < 193 then ru else if i < 194 then trc else if i < 195 then gc else sc
def RO (g a : Nat → Int32) : Prop := ∀ i, 74 ≤ i → i < 196 → g i = a (ix i) ∧ lo i ≤ g i ∧ g i ≤ hi i
def RT (t g a : Nat → Int32) : Prop := ∀ i, i < 8 → (nI i < a 5 → t i = 2 * a (151 + 2 * i) + a (152 + 2 * i) ∧ 0 ≤ a (151 + 2 * i) ∧ a (151 + 2 * i) ≤ 99 ∧ (a (152 + 2 * i) = 0 ∨ a (152 + 2 * i) = 1)) ∧ (nI i < a 6 → g i = 10 * a (188 + 2 * i) + a (189 + 2 * i) ∧ 0 ≤ a (188 + 2 * i) ∧ a (188 + 2 * i) ≤ 5 ∧ 0 ≤ a (189 + 2 * i) ∧ a (189 + 2 * i) ≤ 9)
def asTold (u v td : Nat → Int32) : Prop := u 72 ≤ v 72 ∧ u 73 ≤ v 73 ∧ (∀ h, h < 6 → u 72 ≤ nI h → nI h < v 72 → v h = td h ∧ v (6 + h) = 0 ∧ v (12 + h) = -1 ∧ v (18 + h) = 0) ∧ (∀ c, c < 5 → u 73 ≤ nI c → nI c < v 73 → v (24 + c) = 0 ∧ v (29 + c) = -1 ∧ v (34 + c) = 0)
def RS (rows : Nat → Int32) (first : Int32) (a : Nat → Int32) : Prop := ∃ p n : Nat, first = nI p ∧ p < 30 ∧ a 4 = nI n ∧ n ≤ 30 ∧ (∀ j, j < n → ∀ i, i < 74 → rows (74 * ((p + j) % 30) + i) = a (204 + 74 * j + jx i) ∧ lo i ≤ a (204 + 74 * j + jx i) ∧ a (204 + 74 * j + jx i) ≤ hi i) ∧ (∀ j, j + 1 < n → asTold (fun i => a (204 + 74 * j + jx i)) (fun i => a (204 + 74 * (j + 1) + jx i)) (fun h => a (15 + 6 * h)))
def Top (a : Nat → Int32) : Prop := ∀ n : Nat, n < 30 → a 4 = nI (n + 1) → asTold (fun i => a (204 + 74 * n + jx i)) (fun i => a (ix i)) (fun h => a (15 + 6 * h))
/-! texts -/
def nmOk (s k : Nat) : Bool := if s = 2 then k < 6 || k == 11 else k < 11
def tyStep (s : Nat) (q : Nat × Nat) (T : List Bool) : Option (List Bool) :=
  if q.1 = 0 then (if q.2 ≤ 9999 ∧ T.length < 64 then some (true :: T) else none)
  else if q.1 = 1 then (if nmOk s q.2 = true ∧ T.length < 64 then some (true :: T) else none)
  else if q.1 = 2 ∨ q.1 = 5 then (match T with | true :: T1 => some (true :: T1) | _ => none)
  else if q.1 = 3 then (match T with | true :: true :: false :: T1 => some (true :: T1) | _ => none)
  else if q.1 = 4 then (match T with | true :: true :: true :: T1 => some (true :: T1) | _ => none)
  else if 6 ≤ q.1 ∧ q.1 ≤ 9 then (match T with | true :: true :: T1 => some (true :: T1) | _ => none)
  else if 10 ≤ q.1 ∧ q.1 ≤ 15 then (match T with | true :: true :: T1 => some (false :: T1) | _ => none)
  else if q.1 = 20 then (match T with | false :: T1 => some (false :: T1) | _ => none)
  else if q.1 = 21 ∨ q.1 = 22 then (match T with | false :: false :: T1 => some (false :: T1) | _ => none)
  else none
def tyRun (s : Nat) : List (Nat × Nat) → List Bool → Option (List Bool)
  | [], T => some T
  | q :: L, T => (tyStep s q T).bind (tyRun s L)
/-- the class's number of the reference's operation -/
def opC (k : Nat) : Nat := [32, 47, 22, 23, 20, 46, 39, 40, 41, 42, 35, 33, 36, 34, 37, 38, 0, 0, 0, 0, 29, 28, 27].getD k 0
/-- the class's word of the reference's sort of clause, and how many numbers it has -/
def soC (k : Nat) : Nat := [12, 13, 14, 5, 15, 3, 16, 9, 17, 0].getD k 0
def soN (k : Nat) : Nat := [0, 0, 0, 2, 2, 3, 2, 2, 1, 1].getD k 0
def trLaw (n : Nat) (x bd cd : Nat → Int32) (cl s : Nat) : Prop := ((∀ k, k < n → x (1 + 4 * k) ≠ nI s) ∧ bd (2 * s) = 0 ∧ bd (2 * s + 1) = 0) ∨ (∃ (k i0 : Nat) (L : List (Nat × Nat)), k < n ∧ x (1 + 4 * k) = nI s ∧ (∀ k', k' < n → x (1 + 4 * k') = nI s → k' = k) ∧ x (2 + 4 * k) = nI i0 ∧ x (3 + 4 * k) = nI (i0 + L.length) ∧ bd (2 * s) = nI i0 ∧ bd (2 * s + 1) = nI (i0 + L.length) ∧ i0 + L.length ≤ cl ∧ 0 < L.length ∧ (∀ j, j < L.length → ∃ q : Nat × Nat, L[j]? = some q ∧ cd (i0 + j) = nI (opC q.1 + 64 * q.2) ∧ x (97 + 2 * (i0 + j)) = nI q.1 ∧ x (98 + 2 * (i0 + j)) = nI q.2) ∧ tyRun s L [] = some [true])
def trDeed (n : Nat) (x cl : Nat → Int32) : Prop := ∀ k, k < n → ∃ so : Nat, so < 10 ∧ x (1 + 4 * k) = nI so ∧ cl (4 * k) = nI (soC so) ∧ (∀ j, j < soN so → cl (4 * k + (j + 1)) = x (2 + 4 * k + j)) ∧ (so = 9 → 1 ≤ x (2 + 4 * k) ∧ x (2 + 4 * k) ≤ 60)
def TR (B : TB) (x : Nat → Int32) : Prop := ∃ n : Nat, n ≤ 24 ∧ B.1 = nI n ∧ x 0 = nI n ∧ B.2.2.1.1 = 4 * n ∧ B.2.2.2.2.1 = 6 ∧ B.2.2.2.1.1 ≤ 300 ∧ trDeed n x B.2.2.1.2 ∧ (∀ s, s < 3 → trLaw n x B.2.2.2.2.2 B.2.2.2.1.2 B.2.2.2.1.1 s)
def RX (px : List (Nat × TB)) (tx : Nat → Option Nat) (tc : Int32) (kx : Nat → Option Nat) (kc : Int32) (y : Nat → Int32) : Prop := (∀ t, t < 4 → nI t < tc → ∃ (ad : Nat) (B : TB), tx t = some ad ∧ (ad, B) ∈ px ∧ TR B (fun k => y (705 * t + k))) ∧ kc ≤ tc ∧ (∀ t, t < 4 → nI t < kc → kx t = tx t) ∧ (∀ t, t < 4 → ∀ ad : Nat, tx t = some ad → ∃ B : TB, (ad, B) ∈ px) ∧ (∀ t, t < 4 → ∀ ad : Nat, kx t = some ad → ∃ B : TB, (ad, B) ∈ px)
def RP (ln : Int32) (tp : Nat → Int32) (fa pl : Int32) (mt : Nat → Int32) (md mf mp : Int32) : Prop := ln = md ∧ 0 ≤ ln ∧ ln ≤ 300 ∧ (∀ i, i < 300 → nI i < ln → tp i = mt i ∧ 0 ≤ tp i ∧ tp i ≤ 255) ∧ fa = mf ∧ pl = mp
def oc (S : CS) : Nat → Int32 := oC (cx_c_kinds S) (cx_c_skills S) (cx_c_ages S) (cx_c_turns S) (cx_c_costs S) (cx_c_worths S) (cx_c_aheads S) (cx_c_textCount S) (cx_c_ruling S) (cx_c_trialCount S) (cx_c_grownCount S) (cx_cs_count S)
def ok (S : CS) : Nat → Int32 := oC (cx_k_kinds S) (cx_k_skills S) (cx_k_ages S) (cx_k_turns S) (cx_k_costs S) (cx_k_worths S) (cx_k_aheads S) (cx_k_textCount S) (cx_k_ruling S) (cx_k_trialCount S) (cx_k_grownCount S) (cx_ks_count S)
def Rel (cs : CS) (ms : MS) : Prop := RN (cx_c_now cs) (ms_a ms) ∧ RO (oc cs) (ms_a ms) ∧ RT (cx_c_trials cs) (cx_c_growns cs) (ms_a ms) ∧ RS (cx_cs_rows cs) (cx_cs_first cs) (ms_a ms) ∧ Top (ms_a ms) ∧ RN (cx_k_now cs) (ms_image ms) ∧ RO (ok cs) (ms_image ms) ∧ RT (cx_k_trials cs) (cx_k_growns cs) (ms_image ms) ∧ RS (cx_ks_rows cs) (cx_ks_first cs) (ms_image ms) ∧ Top (ms_image ms) ∧ RX (cx_px cs) (cx_c_texts cs) (cx_c_textCount cs) (cx_k_texts cs) (cx_k_textCount cs) (ms_texts ms) ∧ RP (cx_r_length cs) (cx_r_tape cs) (cx_r_lastFault cs) (cx_r_lastPlace cs) (ms_tape ms) (ms_taped ms) (ms_fault ms) (ms_faultPlace ms)
/-! reading rows -/
theorem ix_grief {h : Nat} (hh : h < 6) : ix h = 10 + 6 * h := by
  unfold ix
  (repeat' split) <;> omega
theorem lo_grief {h : Nat} (hh : h < 6) : lo h = 0 := by
  unfold lo
  (repeat' split) <;> first | rfl | (exfalso; omega)
theorem hi_grief {h : Nat} (hh : h < 6) : hi h = 99 := by
  unfold hi
  (repeat' split) <;> first | rfl | (exfalso; omega)
theorem rd_grief {f a : Nat → Int32} (R : RN f a) {h : Nat} (hh : h < 6) : f h = a (10 + 6 * h) := by
  rw [(R h (by omega)).1, ix_grief hh]
theorem bd_grief {f a : Nat → Int32} (R : RN f a) {h : Nat} (hh : h < 6) : 0 ≤ f h ∧ f h ≤ 99 := by
  have := (R h (by omega)).2
  rw [lo_grief hh, hi_grief hh] at this
  exact this
theorem ix_mood {h : Nat} (hh : h < 6) : ix (6 + h) = 11 + 6 * h := by
  unfold ix
  (repeat' split) <;> omega
theorem lo_mood {h : Nat} (hh : h < 6) : lo (6 + h) = 0 := by
  unfold lo
  (repeat' split) <;> first | rfl | (exfalso; omega)
theorem hi_mood {h : Nat} (hh : h < 6) : hi (6 + h) = 9 := by
  unfold hi
  (repeat' split) <;> first | rfl | (exfalso; omega)
theorem rd_mood {f a : Nat → Int32} (R : RN f a) {h : Nat} (hh : h < 6) : f (6 + h) = a (11 + 6 * h) := by
  rw [(R (6 + h) (by omega)).1, ix_mood hh]
theorem bd_mood {f a : Nat → Int32} (R : RN f a) {h : Nat} (hh : h < 6) : 0 ≤ f (6 + h) ∧ f (6 + h) ≤ 9 := by
  have := (R (6 + h) (by omega)).2
  rw [lo_mood hh, hi_mood hh] at this
  exact this
theorem ix_clock {h : Nat} (hh : h < 6) : ix (12 + h) = 12 + 6 * h := by
  unfold ix
  (repeat' split) <;> omega
theorem lo_clock {h : Nat} (hh : h < 6) : lo (12 + h) = (-1) := by
  unfold lo
  (repeat' split) <;> first | rfl | (exfalso; omega)
theorem hi_clock {h : Nat} (hh : h < 6) : hi (12 + h) = 4 := by
  unfold hi
  (repeat' split) <;> first | rfl | (exfalso; omega)
theorem rd_clock {f a : Nat → Int32} (R : RN f a) {h : Nat} (hh : h < 6) : f (12 + h) = a (12 + 6 * h) := by
  rw [(R (12 + h) (by omega)).1, ix_clock hh]
theorem bd_clock {f a : Nat → Int32} (R : RN f a) {h : Nat} (hh : h < 6) : (-1) ≤ f (12 + h) ∧ f (12 + h) ≤ 4 := by
  have := (R (12 + h) (by omega)).2
  rw [lo_clock hh, hi_clock hh] at this
  exact this
theorem ix_laughed {h : Nat} (hh : h < 6) : ix (18 + h) = 13 + 6 * h := by
  unfold ix
  (repeat' split) <;> omega
theorem lo_laughed {h : Nat} (hh : h < 6) : lo (18 + h) = 0 := by
  unfold lo
  (repeat' split) <;> first | rfl | (exfalso; omega)
theorem hi_laughed {h : Nat} (hh : h < 6) : hi (18 + h) = 99 := by
  unfold hi
  (repeat' split) <;> first | rfl | (exfalso; omega)
theorem rd_laughed {f a : Nat → Int32} (R : RN f a) {h : Nat} (hh : h < 6) : f (18 + h) = a (13 + 6 * h) := by
  rw [(R (18 + h) (by omega)).1, ix_laughed hh]
theorem bd_laughed {f a : Nat → Int32} (R : RN f a) {h : Nat} (hh : h < 6) : 0 ≤ f (18 + h) ∧ f (18 + h) ≤ 99 := by
  have := (R (18 + h) (by omega)).2
  rw [lo_laughed hh, hi_laughed hh] at this
  exact this
theorem ix_tired {h : Nat} (hh : h < 5) : ix (24 + h) = 46 + 5 * h := by
  unfold ix
  (repeat' split) <;> omega
theorem lo_tired {h : Nat} (hh : h < 5) : lo (24 + h) = 0 := by
  unfold lo
  (repeat' split) <;> first | rfl | (exfalso; omega)
theorem hi_tired {h : Nat} (hh : h < 5) : hi (24 + h) = 9 := by
  unfold hi
  (repeat' split) <;> first | rfl | (exfalso; omega)
theorem rd_tired {f a : Nat → Int32} (R : RN f a) {h : Nat} (hh : h < 5) : f (24 + h) = a (46 + 5 * h) := by
  rw [(R (24 + h) (by omega)).1, ix_tired hh]
theorem bd_tired {f a : Nat → Int32} (R : RN f a) {h : Nat} (hh : h < 5) : 0 ≤ f (24 + h) ∧ f (24 + h) ≤ 9 := by
  have := (R (24 + h) (by omega)).2
  rw [lo_tired hh, hi_tired hh] at this
  exact this
theorem ix_place {h : Nat} (hh : h < 5) : ix (29 + h) = 47 + 5 * h := by
  unfold ix
  (repeat' split) <;> omega
theorem lo_place {h : Nat} (hh : h < 5) : lo (29 + h) = (-1) := by
  unfold lo
  (repeat' split) <;> first | rfl | (exfalso; omega)
theorem hi_place {h : Nat} (hh : h < 5) : hi (29 + h) = 5 := by
  unfold hi
  (repeat' split) <;> first | rfl | (exfalso; omega)
theorem rd_place {f a : Nat → Int32} (R : RN f a) {h : Nat} (hh : h < 5) : f (29 + h) = a (47 + 5 * h) := by
  rw [(R (29 + h) (by omega)).1, ix_place hh]
theorem bd_place {f a : Nat → Int32} (R : RN f a) {h : Nat} (hh : h < 5) : (-1) ≤ f (29 + h) ∧ f (29 + h) ≤ 5 := by
  have := (R (29 + h) (by omega)).2
  rw [lo_place hh, hi_place hh] at this
  exact this
theorem ix_falls {h : Nat} (hh : h < 5) : ix (34 + h) = 48 + 5 * h := by
  unfold ix
  (repeat' split) <;> omega
theorem lo_falls {h : Nat} (hh : h < 5) : lo (34 + h) = 0 := by
  unfold lo
  (repeat' split) <;> first | rfl | (exfalso; omega)
theorem hi_falls {h : Nat} (hh : h < 5) : hi (34 + h) = 9999 := by
  unfold hi
  (repeat' split) <;> first | rfl | (exfalso; omega)
theorem rd_falls {f a : Nat → Int32} (R : RN f a) {h : Nat} (hh : h < 5) : f (34 + h) = a (48 + 5 * h) := by
  rw [(R (34 + h) (by omega)).1, ix_falls hh]
theorem bd_falls {f a : Nat → Int32} (R : RN f a) {h : Nat} (hh : h < 5) : 0 ≤ f (34 + h) ∧ f (34 + h) ≤ 9999 := by
  have := (R (34 + h) (by omega)).2
  rw [lo_falls hh, hi_falls hh] at this
  exact this
theorem ix_book {h : Nat} (hh : h < 30) : ix (42 + h) = 2424 + h := by
  unfold ix
  (repeat' split) <;> omega
theorem lo_book {h : Nat} (hh : h < 30) : lo (42 + h) = 0 := by
  unfold lo
  (repeat' split) <;> first | rfl | (exfalso; omega)
theorem hi_book {h : Nat} (hh : h < 30) : hi (42 + h) = 639999 := by
  unfold hi
  (repeat' split) <;> first | rfl | (exfalso; omega)
theorem rd_book {f a : Nat → Int32} (R : RN f a) {h : Nat} (hh : h < 30) : f (42 + h) = a (2424 + h) := by
  rw [(R (42 + h) (by omega)).1, ix_book hh]
theorem bd_book {f a : Nat → Int32} (R : RN f a) {h : Nat} (hh : h < 30) : 0 ≤ f (42 + h) ∧ f (42 + h) ≤ 639999 := by
  have := (R (42 + h) (by omega)).2
  rw [lo_book hh, hi_book hh] at this
  exact this
theorem rd_day {f a : Nat → Int32} (R : RN f a) : f 39 = a 7 := (R 39 (by decide)).1
theorem bd_day {f a : Nat → Int32} (R : RN f a) : 0 ≤ f 39 ∧ f 39 ≤ 9999 := (R 39 (by decide)).2
theorem rd_draw {f a : Nat → Int32} (R : RN f a) : f 40 = a 8 := (R 40 (by decide)).1
theorem bd_draw {f a : Nat → Int32} (R : RN f a) : 0 ≤ f 40 ∧ f 40 ≤ 30528 := (R 40 (by decide)).2
theorem rd_written {f a : Nat → Int32} (R : RN f a) : f 41 = a 9 := (R 41 (by decide)).1
theorem bd_written {f a : Nat → Int32} (R : RN f a) : 0 ≤ f 41 ∧ f 41 ≤ 30 := (R 41 (by decide)).2
theorem rd_houses {f a : Nat → Int32} (R : RN f a) : f 72 = a 0 := (R 72 (by decide)).1
theorem bd_houses {f a : Nat → Int32} (R : RN f a) : 0 ≤ f 72 ∧ f 72 ≤ 6 := (R 72 (by decide)).2
theorem rd_clowns {f a : Nat → Int32} (R : RN f a) : f 73 = a 1 := (R 73 (by decide)).1
theorem bd_clowns {f a : Nat → Int32} (R : RN f a) : 0 ≤ f 73 ∧ f 73 ≤ 5 := (R 73 (by decide)).2
theorem rd_c_kinds {S : CS} {a : Nat → Int32} (R : RO (oc S) a) {h : Nat} (hh : h < 6) : cx_c_kinds S h = a (14 + 6 * h) ∧ 0 ≤ cx_c_kinds S h ∧ cx_c_kinds S h ≤ 3 := by
  have e : oc S (74 + h) = cx_c_kinds S h := by
    unfold oc oC
    (repeat' split) <;> first | (exfalso; omega) | (congr 1; omega)
  have e1 : ix (74 + h) = 14 + 6 * h := by
    unfold ix
    (repeat' split) <;> omega
  have e2 : lo (74 + h) = 0 := by
    unfold lo
    (repeat' split) <;> first | rfl | (exfalso; omega)
  have e3 : hi (74 + h) = 3 := by
    unfold hi
    (repeat' split) <;> first | rfl | (exfalso; omega)
  have := R (74 + h) (by omega) (by omega)
  rw [e, e1, e2, e3] at this
  exact this
theorem rd_c_skills {S : CS} {a : Nat → Int32} (R : RO (oc S) a) {h : Nat} (hh : h < 5) : cx_c_skills S h = a (49 + 5 * h) ∧ 0 ≤ cx_c_skills S h ∧ cx_c_skills S h ≤ 9 := by
  have e : oc S (80 + h) = cx_c_skills S h := by
    unfold oc oC
    (repeat' split) <;> first | (exfalso; omega) | (congr 1; omega)
  have e1 : ix (80 + h) = 49 + 5 * h := by
    unfold ix
    (repeat' split) <;> omega
  have e2 : lo (80 + h) = 0 := by
    unfold lo
    (repeat' split) <;> first | rfl | (exfalso; omega)
  have e3 : hi (80 + h) = 9 := by
    unfold hi
    (repeat' split) <;> first | rfl | (exfalso; omega)
  have := R (80 + h) (by omega) (by omega)
  rw [e, e1, e2, e3] at this
  exact this
theorem rd_c_ages {S : CS} {a : Nat → Int32} (R : RO (oc S) a) {h : Nat} (hh : h < 5) : cx_c_ages S h = a (50 + 5 * h) ∧ 0 ≤ cx_c_ages S h ∧ cx_c_ages S h ≤ 99 := by
  have e : oc S (85 + h) = cx_c_ages S h := by
    unfold oc oC
    (repeat' split) <;> first | (exfalso; omega) | (congr 1; omega)
  have e1 : ix (85 + h) = 50 + 5 * h := by
    unfold ix
    (repeat' split) <;> omega
  have e2 : lo (85 + h) = 0 := by
    unfold lo
    (repeat' split) <;> first | rfl | (exfalso; omega)
  have e3 : hi (85 + h) = 99 := by
    unfold hi
    (repeat' split) <;> first | rfl | (exfalso; omega)
  have := R (85 + h) (by omega) (by omega)
  rw [e, e1, e2, e3] at this
  exact this
theorem rd_c_turns {S : CS} {a : Nat → Int32} (R : RO (oc S) a) {h : Nat} (hh : h < 50) : cx_c_turns S h = a (71 + h) ∧ 0 ≤ cx_c_turns S h ∧ cx_c_turns S h ≤ 9 := by
  have e : oc S (90 + h) = cx_c_turns S h := by
    unfold oc oC
    (repeat' split) <;> first | (exfalso; omega) | (congr 1; omega)
  have e1 : ix (90 + h) = 71 + h := by
    unfold ix
    (repeat' split) <;> omega
  have e2 : lo (90 + h) = 0 := by
    unfold lo
    (repeat' split) <;> first | rfl | (exfalso; omega)
  have e3 : hi (90 + h) = 9 := by
    unfold hi
    (repeat' split) <;> first | rfl | (exfalso; omega)
  have := R (90 + h) (by omega) (by omega)
  rw [e, e1, e2, e3] at this
  exact this
theorem rd_c_costs {S : CS} {a : Nat → Int32} (R : RO (oc S) a) {h : Nat} (hh : h < 30) : cx_c_costs S h = a (121 + h) ∧ 0 ≤ cx_c_costs S h ∧ cx_c_costs S h ≤ 99 := by
  have e : oc S (140 + h) = cx_c_costs S h := by
    unfold oc oC
    (repeat' split) <;> first | (exfalso; omega) | (congr 1; omega)
  have e1 : ix (140 + h) = 121 + h := by
    unfold ix
    (repeat' split) <;> omega
  have e2 : lo (140 + h) = 0 := by
    unfold lo
    (repeat' split) <;> first | rfl | (exfalso; omega)
  have e3 : hi (140 + h) = 99 := by
    unfold hi
    (repeat' split) <;> first | rfl | (exfalso; omega)
  have := R (140 + h) (by omega) (by omega)
  rw [e, e1, e2, e3] at this
  exact this
theorem rd_c_worths {S : CS} {a : Nat → Int32} (R : RO (oc S) a) {h : Nat} (hh : h < 16) : cx_c_worths S h = a (167 + h) ∧ 0 ≤ cx_c_worths S h ∧ cx_c_worths S h ≤ 999 := by
  have e : oc S (170 + h) = cx_c_worths S h := by
    unfold oc oC
    (repeat' split) <;> first | (exfalso; omega) | (congr 1; omega)
  have e1 : ix (170 + h) = 167 + h := by
    unfold ix
    (repeat' split) <;> omega
  have e2 : lo (170 + h) = 0 := by
    unfold lo
    (repeat' split) <;> first | rfl | (exfalso; omega)
  have e3 : hi (170 + h) = 999 := by
    unfold hi
    (repeat' split) <;> first | rfl | (exfalso; omega)
  have := R (170 + h) (by omega) (by omega)
  rw [e, e1, e2, e3] at this
  exact this
theorem rd_c_aheads {S : CS} {a : Nat → Int32} (R : RO (oc S) a) {h : Nat} (hh : h < 5) : cx_c_aheads S h = a (183 + h) ∧ 0 ≤ cx_c_aheads S h ∧ cx_c_aheads S h ≤ 31 := by
  have e : oc S (186 + h) = cx_c_aheads S h := by
    unfold oc oC
    (repeat' split) <;> first | (exfalso; omega) | (congr 1; omega)
  have e1 : ix (186 + h) = 183 + h := by
    unfold ix
    (repeat' split) <;> omega
  have e2 : lo (186 + h) = 0 := by
    unfold lo
    (repeat' split) <;> first | rfl | (exfalso; omega)
  have e3 : hi (186 + h) = 31 := by
    unfold hi
    (repeat' split) <;> first | rfl | (exfalso; omega)
  have := R (186 + h) (by omega) (by omega)
  rw [e, e1, e2, e3] at this
  exact this
theorem rd_c_textCount {S : CS} {a : Nat → Int32} (R : RO (oc S) a) : cx_c_textCount S = a 2 ∧ 0 ≤ cx_c_textCount S ∧ cx_c_textCount S ≤ 4 := R 191 (by decide) (by decide)
theorem rd_c_ruling {S : CS} {a : Nat → Int32} (R : RO (oc S) a) : cx_c_ruling S = a 3 ∧ (-1) ≤ cx_c_ruling S ∧ cx_c_ruling S ≤ 3 := R 192 (by decide) (by decide)
theorem rd_c_trialCount {S : CS} {a : Nat → Int32} (R : RO (oc S) a) : cx_c_trialCount S = a 5 ∧ 0 ≤ cx_c_trialCount S ∧ cx_c_trialCount S ≤ 8 := R 193 (by decide) (by decide)
theorem rd_c_grownCount {S : CS} {a : Nat → Int32} (R : RO (oc S) a) : cx_c_grownCount S = a 6 ∧ 0 ≤ cx_c_grownCount S ∧ cx_c_grownCount S ≤ 8 := R 194 (by decide) (by decide)
theorem rd_c_count {S : CS} {a : Nat → Int32} (R : RO (oc S) a) : cx_cs_count S = a 4 ∧ 0 ≤ cx_cs_count S ∧ cx_cs_count S ≤ 30 := R 195 (by decide) (by decide)
theorem rd_k_kinds {S : CS} {a : Nat → Int32} (R : RO (ok S) a) {h : Nat} (hh : h < 6) : cx_k_kinds S h = a (14 + 6 * h) ∧ 0 ≤ cx_k_kinds S h ∧ cx_k_kinds S h ≤ 3 := by
  have e : ok S (74 + h) = cx_k_kinds S h := by
    unfold ok oC
    (repeat' split) <;> first | (exfalso; omega) | (congr 1; omega)
  have e1 : ix (74 + h) = 14 + 6 * h := by
    unfold ix
    (repeat' split) <;> omega
  have e2 : lo (74 + h) = 0 := by
    unfold lo
    (repeat' split) <;> first | rfl | (exfalso; omega)
  have e3 : hi (74 + h) = 3 := by
    unfold hi
    (repeat' split) <;> first | rfl | (exfalso; omega)
  have := R (74 + h) (by omega) (by omega)
  rw [e, e1, e2, e3] at this
  exact this
theorem rd_k_skills {S : CS} {a : Nat → Int32} (R : RO (ok S) a) {h : Nat} (hh : h < 5) : cx_k_skills S h = a (49 + 5 * h) ∧ 0 ≤ cx_k_skills S h ∧ cx_k_skills S h ≤ 9 := by
  have e : ok S (80 + h) = cx_k_skills S h := by
    unfold ok oC
    (repeat' split) <;> first | (exfalso; omega) | (congr 1; omega)
  have e1 : ix (80 + h) = 49 + 5 * h := by
    unfold ix
    (repeat' split) <;> omega
  have e2 : lo (80 + h) = 0 := by
    unfold lo
    (repeat' split) <;> first | rfl | (exfalso; omega)
  have e3 : hi (80 + h) = 9 := by
    unfold hi
    (repeat' split) <;> first | rfl | (exfalso; omega)
  have := R (80 + h) (by omega) (by omega)
  rw [e, e1, e2, e3] at this
  exact this
theorem rd_k_ages {S : CS} {a : Nat → Int32} (R : RO (ok S) a) {h : Nat} (hh : h < 5) : cx_k_ages S h = a (50 + 5 * h) ∧ 0 ≤ cx_k_ages S h ∧ cx_k_ages S h ≤ 99 := by
  have e : ok S (85 + h) = cx_k_ages S h := by
    unfold ok oC
    (repeat' split) <;> first | (exfalso; omega) | (congr 1; omega)
  have e1 : ix (85 + h) = 50 + 5 * h := by
    unfold ix
    (repeat' split) <;> omega
  have e2 : lo (85 + h) = 0 := by
    unfold lo
    (repeat' split) <;> first | rfl | (exfalso; omega)
  have e3 : hi (85 + h) = 99 := by
    unfold hi
    (repeat' split) <;> first | rfl | (exfalso; omega)
  have := R (85 + h) (by omega) (by omega)
  rw [e, e1, e2, e3] at this
  exact this
theorem rd_k_turns {S : CS} {a : Nat → Int32} (R : RO (ok S) a) {h : Nat} (hh : h < 50) : cx_k_turns S h = a (71 + h) ∧ 0 ≤ cx_k_turns S h ∧ cx_k_turns S h ≤ 9 := by
  have e : ok S (90 + h) = cx_k_turns S h := by
    unfold ok oC
    (repeat' split) <;> first | (exfalso; omega) | (congr 1; omega)
  have e1 : ix (90 + h) = 71 + h := by
    unfold ix
    (repeat' split) <;> omega
  have e2 : lo (90 + h) = 0 := by
    unfold lo
    (repeat' split) <;> first | rfl | (exfalso; omega)
  have e3 : hi (90 + h) = 9 := by
    unfold hi
    (repeat' split) <;> first | rfl | (exfalso; omega)
  have := R (90 + h) (by omega) (by omega)
  rw [e, e1, e2, e3] at this
  exact this
theorem rd_k_costs {S : CS} {a : Nat → Int32} (R : RO (ok S) a) {h : Nat} (hh : h < 30) : cx_k_costs S h = a (121 + h) ∧ 0 ≤ cx_k_costs S h ∧ cx_k_costs S h ≤ 99 := by
  have e : ok S (140 + h) = cx_k_costs S h := by
    unfold ok oC
    (repeat' split) <;> first | (exfalso; omega) | (congr 1; omega)
  have e1 : ix (140 + h) = 121 + h := by
    unfold ix
    (repeat' split) <;> omega
  have e2 : lo (140 + h) = 0 := by
    unfold lo
    (repeat' split) <;> first | rfl | (exfalso; omega)
  have e3 : hi (140 + h) = 99 := by
    unfold hi
    (repeat' split) <;> first | rfl | (exfalso; omega)
  have := R (140 + h) (by omega) (by omega)
  rw [e, e1, e2, e3] at this
  exact this
theorem rd_k_worths {S : CS} {a : Nat → Int32} (R : RO (ok S) a) {h : Nat} (hh : h < 16) : cx_k_worths S h = a (167 + h) ∧ 0 ≤ cx_k_worths S h ∧ cx_k_worths S h ≤ 999 := by
  have e : ok S (170 + h) = cx_k_worths S h := by
    unfold ok oC
    (repeat' split) <;> first | (exfalso; omega) | (congr 1; omega)
  have e1 : ix (170 + h) = 167 + h := by
    unfold ix
    (repeat' split) <;> omega
  have e2 : lo (170 + h) = 0 := by
    unfold lo
    (repeat' split) <;> first | rfl | (exfalso; omega)
  have e3 : hi (170 + h) = 999 := by
    unfold hi
    (repeat' split) <;> first | rfl | (exfalso; omega)
  have := R (170 + h) (by omega) (by omega)
  rw [e, e1, e2, e3] at this
  exact this
theorem rd_k_aheads {S : CS} {a : Nat → Int32} (R : RO (ok S) a) {h : Nat} (hh : h < 5) : cx_k_aheads S h = a (183 + h) ∧ 0 ≤ cx_k_aheads S h ∧ cx_k_aheads S h ≤ 31 := by
  have e : ok S (186 + h) = cx_k_aheads S h := by
    unfold ok oC
    (repeat' split) <;> first | (exfalso; omega) | (congr 1; omega)
  have e1 : ix (186 + h) = 183 + h := by
    unfold ix
    (repeat' split) <;> omega
  have e2 : lo (186 + h) = 0 := by
    unfold lo
    (repeat' split) <;> first | rfl | (exfalso; omega)
  have e3 : hi (186 + h) = 31 := by
    unfold hi
    (repeat' split) <;> first | rfl | (exfalso; omega)
  have := R (186 + h) (by omega) (by omega)
  rw [e, e1, e2, e3] at this
  exact this
theorem rd_k_textCount {S : CS} {a : Nat → Int32} (R : RO (ok S) a) : cx_k_textCount S = a 2 ∧ 0 ≤ cx_k_textCount S ∧ cx_k_textCount S ≤ 4 := R 191 (by decide) (by decide)
theorem rd_k_ruling {S : CS} {a : Nat → Int32} (R : RO (ok S) a) : cx_k_ruling S = a 3 ∧ (-1) ≤ cx_k_ruling S ∧ cx_k_ruling S ≤ 3 := R 192 (by decide) (by decide)
theorem rd_k_trialCount {S : CS} {a : Nat → Int32} (R : RO (ok S) a) : cx_k_trialCount S = a 5 ∧ 0 ≤ cx_k_trialCount S ∧ cx_k_trialCount S ≤ 8 := R 193 (by decide) (by decide)
theorem rd_k_grownCount {S : CS} {a : Nat → Int32} (R : RO (ok S) a) : cx_k_grownCount S = a 6 ∧ 0 ≤ cx_k_grownCount S ∧ cx_k_grownCount S ≤ 8 := R 194 (by decide) (by decide)
theorem rd_k_count {S : CS} {a : Nat → Int32} (R : RO (ok S) a) : cx_ks_count S = a 4 ∧ 0 ≤ cx_ks_count S ∧ cx_ks_count S ≤ 30 := R 195 (by decide) (by decide)
/-! writing rows -/
theorem RN_upd {f a : Nat → Int32} (R : RN f a) {i : Nat} (h : i < 74) {v : Int32} (h0 : lo i ≤ v) (h1 : v ≤ hi i) : RN (upd f i v) (upd a (ix i) v) := by
  intro j hj
  by_cases e : j = i
  · subst e
    rw [upd_eq, upd_eq]
    exact ⟨rfl, h0, h1⟩
  · rw [upd_ne _ _ e, upd_ne _ _ (fun e1 => e (ix_inj j (by omega) i (by omega) e1))]
    exact R j hj
theorem RO_upd {g a : Nat → Int32} (R : RO g a) {i : Nat} (h2 : 74 ≤ i) (h : i < 196) {v : Int32} (h0 : lo i ≤ v) (h1 : v ≤ hi i) : RO (upd g i v) (upd a (ix i) v) := by
  intro j hj2 hj
  by_cases e : j = i
  · subst e
    rw [upd_eq, upd_eq]
    exact ⟨rfl, h0, h1⟩
  · rw [upd_ne _ _ e, upd_ne _ _ (fun e1 => e (ix_inj j (by omega) i (by omega) e1))]
    exact R j hj2 hj
/-- what is written elsewhere -/
theorem RN_off {f a a' : Nat → Int32} (R : RN f a) (h : ∀ i, i < 74 → a' (ix i) = a (ix i)) : RN f a' := by
  intro i hi
  rw [h i hi]
  exact R i hi
theorem RO_off {g a a' : Nat → Int32} (R : RO g a) (h : ∀ i, 74 ≤ i → i < 196 → a' (ix i) = a (ix i)) : RO g a' := by
  intro i hi hi2
  rw [h i hi hi2]
  exact R i hi hi2
theorem RT_off {t g a a' : Nat → Int32} (R : RT t g a) (h : ∀ k, k = 5 ∨ k = 6 ∨ (151 ≤ k ∧ k < 167) ∨ (188 ≤ k ∧ k < 204) → a' k = a k) : RT t g a' := by
  intro i hi
  rw [h 5 (by omega), h 6 (by omega), h (151 + 2 * i) (by omega), h (152 + 2 * i) (by omega), h (188 + 2 * i) (by omega), h (189 + 2 * i) (by omega)]
  exact R i hi
theorem RS_off {rows : Nat → Int32} {first : Int32} {a a' : Nat → Int32} (R : RS rows first a) (h : ∀ k, k = 4 ∨ (204 ≤ k ∧ k < 2424) ∨ (∃ h, h < 6 ∧ k = 15 + 6 * h) → a' k = a k) : RS rows first a' := by
  obtain ⟨p, n, h1, h2, h3, h4, h5, h6⟩ := R
  have hj : ∀ j, j < n → ∀ i, i < 74 → a' (204 + 74 * j + jx i) = a (204 + 74 * j + jx i) := by
    intro j hj i hi
    have := jx_lt i hi
    exact h _ (Or.inr (Or.inl (by omega)))
  refine ⟨p, n, h1, h2, ?_, h4, ?_, ?_⟩
  · rw [h 4 (by omega)]
    exact h3
  · intro j hj1 i hi
    rw [hj j hj1 i hi]
    exact h5 j hj1 i hi
  · intro j hj1
    obtain ⟨g1, g2, g3, g4⟩ := h6 j hj1
    have w1 : ∀ i, i < 74 → a' (204 + 74 * j + jx i) = a (204 + 74 * j + jx i) := hj j (by omega)
    have w2 : ∀ i, i < 74 → a' (204 + 74 * (j + 1) + jx i) = a (204 + 74 * (j + 1) + jx i) := hj (j + 1) (by omega)
    refine ⟨?_, ?_, ?_, ?_⟩
    · show a' _ ≤ a' _
      rw [w1 72 (by omega), w2 72 (by omega)]
      exact g1
    · show a' _ ≤ a' _
      rw [w1 73 (by omega), w2 73 (by omega)]
      exact g2
    · intro k hk
      show a' _ ≤ _ → _ < a' _ → a' _ = a' _ ∧ a' _ = 0 ∧ a' _ = -1 ∧ a' _ = 0
      rw [w1 72 (by omega), w2 72 (by omega), w2 k (by omega), w2 (6 + k) (by omega), w2 (12 + k) (by omega), w2 (18 + k) (by omega), h (15 + 6 * k) (Or.inr (Or.inr ⟨k, hk, rfl⟩))]
      exact g3 k hk
    · intro k hk
      show a' _ ≤ _ → _ < a' _ → a' _ = 0 ∧ a' _ = -1 ∧ a' _ = 0
      rw [w1 73 (by omega), w2 73 (by omega), w2 (24 + k) (by omega), w2 (29 + k) (by omega), w2 (34 + k) (by omega)]
      exact g4 k hk
theorem Top_off {a a' : Nat → Int32} (R : Top a) (h : ∀ k, k < 5 ∨ (204 ≤ k ∧ k < 2424) ∨ (∃ h, h < 6 ∧ k = 15 + 6 * h) → a' k = a k) (h2 : ∀ i, i < 74 → a' (ix i) = a (ix i)) : Top a' := by
  intro n hn e
  rw [h 4 (by omega)] at e
  obtain ⟨g1, g2, g3, g4⟩ := R n hn e
  have w1 : ∀ i, i < 74 → a' (204 + 74 * n + jx i) = a (204 + 74 * n + jx i) := by
    intro i hi
    have := jx_lt i hi
    exact h _ (Or.inr (Or.inl (by omega)))
  refine ⟨?_, ?_, ?_, ?_⟩
  · show a' _ ≤ a' _
    rw [w1 72 (by omega), h2 72 (by omega)]
    exact g1
  · show a' _ ≤ a' _
    rw [w1 73 (by omega), h2 73 (by omega)]
    exact g2
  · intro k hk
    show a' _ ≤ _ → _ < a' _ → a' _ = a' _ ∧ a' _ = 0 ∧ a' _ = -1 ∧ a' _ = 0
    rw [w1 72 (by omega), h2 72 (by omega), h2 k (by omega), h2 (6 + k) (by omega), h2 (12 + k) (by omega), h2 (18 + k) (by omega), h (15 + 6 * k) (Or.inr (Or.inr ⟨k, hk, rfl⟩))]
    exact g3 k hk
  · intro k hk
    show a' _ ≤ _ → _ < a' _ → a' _ = 0 ∧ a' _ = -1 ∧ a' _ = 0
    rw [w1 73 (by omega), h2 73 (by omega), h2 (24 + k) (by omega), h2 (29 + k) (by omega), h2 (34 + k) (by omega)]
    exact g4 k hk
