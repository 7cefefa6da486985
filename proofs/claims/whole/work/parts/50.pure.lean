/-! PURE LAYER, base -/
/-- what a predicate comes to -/
def rt {α σ : Type} (W : (α → σ → Prop) → Prop) (r : α) (S : σ) : Prop := ∀ post : α → σ → Prop, post r S → W post
def rv {σ : Type} (W : (σ → Prop) → Prop) (S : σ) : Prop := ∀ post : σ → Prop, post S → W post
theorem p_if (c A B : Prop) [Decidable c] : ((c → A) ∧ (¬ c → B)) = (if c then A else B) := by
  by_cases h : c
  · simp [h]
  · simp [h]
theorem p_all {α : Type} (b : α) (P : α → Prop) : (∀ x : α, x = b → P x) = P b := by
  apply propext
  constructor
  · intro h
    exact h b rfl
  · intro h x e
    rw [e]
    exact h
theorem p_lit (n : Nat) : (no_index (OfNat.ofNat n : Int32)) = nI n := rfl
theorem nI_mul (a b : Nat) : nI a * nI b = nI (a * b) := by
  unfold nI
  exact (Int32.ofNat_mul a b).symm
theorem nI_la (m n : Nat) : (no_index (OfNat.ofNat m : Int32)) + nI n = nI (m + n) := nI_add m n
theorem nI_al (m n : Nat) : nI n + (no_index (OfNat.ofNat m : Int32)) = nI (n + m) := nI_add n m
theorem nI_lm (m n : Nat) : (no_index (OfNat.ofNat m : Int32)) * nI n = nI (m * n) := nI_mul m n
theorem nI_ml (m n : Nat) : nI n * (no_index (OfNat.ofNat m : Int32)) = nI (n * m) := nI_mul n m
theorem p_at {n : Nat} (hn : n < 2 ^ 31) (f : Nat → Int32) {i : Nat} (hi : i < n) : k_at n f (nI i) = f i := by
  unfold k_at
  rw [if_neg (nI_pos (by omega)), if_neg (nI_ge hi hn), nI_clamp (by omega)]
theorem p_put {n : Nat} (hn : n < 2 ^ 31) (f : Nat → Int32) {i : Nat} (hi : i < n) (v : Int32) : k_put n f (nI i) v = upd f i v := by
  unfold k_put
  rw [if_neg (nI_pos (by omega)), if_neg (nI_ge hi hn), nI_clamp (by omega)]
theorem upd_eq (f : Nat → Int32) (k : Nat) (v : Int32) : upd f k v k = v := if_pos rfl
theorem upd_ne (f : Nat → Int32) {k j : Nat} (v : Int32) (h : j ≠ k) : upd f k v j = f j := if_neg h
theorem p_rng {x : Int32} {n : Nat} (hn : n < 2 ^ 31) (h0 : 0 ≤ x) (h1 : x < nI n) : ∃ j : Nat, j < n ∧ x = nI j := by
  obtain ⟨j, hj, e⟩ := nI_of (x := x) (Int32.not_lt.mpr h0)
  refine ⟨j, ?_, e⟩
  rw [e] at h1
  exact (nI_ltI hj hn).mp h1
theorem p_rng2 {x : Int32} {n : Nat} (hn : n < 2 ^ 31) (h0 : 0 ≤ x) (h1 : x ≤ nI n) : ∃ j : Nat, j ≤ n ∧ x = nI j := by
  obtain ⟨j, hj, e⟩ := nI_of (x := x) (Int32.not_lt.mpr h0)
  refine ⟨j, ?_, e⟩
  rw [e] at h1
  exact (nI_leI hj hn).mp h1
theorem p_bool {r : Int32} (h : r = 0 ∨ r = 1) : narrow .boolean (.int r) = .int r := by
  rcases h with h | h <;> subst h <;> rfl
theorem p_bool0 : narrow .boolean (.int 0) = .int 0 := rfl
theorem p_bool1 : narrow .boolean (.int 1) = .int 1 := rfl
/-! places: cell i of the class (now 0 .. 73, kinds 74, skills 80, ages 85, turns 90, costs 140, worths 170, aheads 186, counts 191 ..) in the reference's row, in a kept step -/
def ix (i : Nat) : Nat := if i < 24 then 10 + 6 * (i % 6) + i / 6 else if i < 39 then 46 + 5 * ((i - 24) % 5) + (i - 24) / 5 else if i < 42 then i - 32 else if i < 72 then 2382 + i else if i < 74 then i - 72 else if i < 80 then 14 + 6 * (i - 74) else if i < 85 then 49 + 5 * (i - 80) else if i < 90 then 50 + 5 * (i - 85) else if i < 140 then i - 19 else if i < 170 then i - 19 else if i < 186 then i - 3 else if i < 191 then i - 3 else if i = 191 then 2 else if i = 192 then 3 else if i = 193 then 5 else if i = 194 then 6 else 4
def jx (i : Nat) : Nat := if i < 24 then 5 + 4 * (i % 6) + i / 6 else if i < 39 then 29 + 3 * ((i - 24) % 5) + (i - 24) / 5 else if i < 42 then i - 37 else if i < 72 then 2 + i else i - 72
def lo (i : Nat) : Int32 := if i < 12 then 0 else if i < 18 then -1 else if i < 29 then 0 else if i < 34 then -1 else if i = 192 then -1 else 0
def hi (i : Nat) : Int32 := if i < 6 then 99 else if i < 12 then 9 else if i < 18 then 4 else if i < 24 then 99 else if i < 29 then 9 else if i < 34 then 5 else if i < 40 then 9999 else if i < 41 then 30528 else if i < 42 then 30 else if i < 72 then 639999 else if i < 73 then 6 else if i < 74 then 5 else if i < 80 then 3 else if i < 85 then 9 else if i < 90 then 99 else if i < 140 then 9 else if i < 170 then 99 else if i < 186 then 999 else if i < 191 then 31 else if i < 192 then 4 else if i < 193 then 3 else if i < 195 then 8 else 30
def ixR (k : Nat) : Nat := if k = 0 then 72 else if k = 1 then 73 else if k = 2 then 191 else if k = 3 then 192 else if k = 4 then 195 else if k = 5 then 193 else if k = 6 then 194 else if k < 10 then k + 32 else if k < 46 then (if (k - 10) % 6 < 4 then 6 * ((k - 10) % 6) + (k - 10) / 6 else if (k - 10) % 6 = 4 then 74 + (k - 10) / 6 else 999) else if k < 71 then (if (k - 46) % 5 < 3 then 24 + 5 * ((k - 46) % 5) + (k - 46) / 5 else if (k - 46) % 5 = 3 then 80 + (k - 46) / 5 else 85 + (k - 46) / 5) else if k < 151 then k + 19 else if k < 188 then k + 3 else k - 2382
def jxR (k : Nat) : Nat := if k < 2 then 72 + k else if k < 5 then 37 + k else if k < 29 then 6 * ((k - 5) % 4) + (k - 5) / 4 else if k < 44 then 24 + 5 * ((k - 29) % 3) + (k - 29) / 3 else k - 2
theorem ixR_ix : ∀ i, i < 196 → ixR (ix i) = i := by decide +kernel
theorem jxR_jx : ∀ i, i < 74 → jxR (jx i) = i := by decide +kernel
theorem jx_jxR : ∀ k, k < 74 → jx (jxR k) = k ∧ jxR k < 74 := by decide +kernel
theorem ix_inj : ∀ i, i < 196 → ∀ j, j < 196 → ix i = ix j → i = j := by
  intro i hi j hj e
  rw [← ixR_ix i hi, ← ixR_ix j hj, e]
theorem jx_inj : ∀ i, i < 74 → ∀ j, j < 74 → jx i = jx j → i = j := by
  intro i hi j hj e
  rw [← jxR_jx i hi, ← jxR_jx j hj, e]
theorem ix_now : ∀ i, i < 74 → (ix i < 71 ∨ 2424 ≤ ix i) ∧ ix i < 2454 ∧ ix i ≠ 2 ∧ ix i ≠ 3 ∧ ix i ≠ 4 ∧ ix i ≠ 5 ∧ ix i ≠ 6 := by decide +kernel
theorem ix_deed72 : ∀ i, i < 72 → 7 ≤ ix i ∧ (ix i < 71 ∨ 2424 ≤ ix i) ∧ ix i < 2454 ∧ (ix i < 10 ∨ 46 ≤ ix i ∨ (ix i - 10) % 6 < 4) ∧ (ix i < 46 ∨ 71 ≤ ix i ∨ (ix i - 46) % 5 < 3) := by decide +kernel
theorem jx_lt : ∀ i, i < 74 → jx i < 74 := by decide +kernel
theorem ix_lt : ∀ i, i < 196 → ix i < 2454 ∧ (ix i < 204 ∨ 2424 ≤ ix i) ∧ (ix i < 151 ∨ 167 ≤ ix i) ∧ (ix i < 188 ∨ 204 ≤ ix i) := by decide +kernel
theorem ix_told : ∀ i, i < 196 → ∀ h, h < 6 → ix i ≠ 15 + 6 * h := by decide +kernel
/-! the relation -/
def RN (f a : Nat → Int32) : Prop := ∀ i, i < 74 → f i = a (ix i) ∧ lo i ≤ f i ∧ f i ≤ hi i
def cc_now (c : CS_c) : Nat → Int32 := c.1
def cc_kinds (c : CS_c) : Nat → Int32 := c.2.1
def cc_skills (c : CS_c) : Nat → Int32 := c.2.2.1
def cc_ages (c : CS_c) : Nat → Int32 := c.2.2.2.1
def cc_turns (c : CS_c) : Nat → Int32 := c.2.2.2.2.1
def cc_texts (c : CS_c) : Nat → Option Nat := c.2.2.2.2.2.1
def cc_textCount (c : CS_c) : Int32 := c.2.2.2.2.2.2.1
def cc_ruling (c : CS_c) : Int32 := c.2.2.2.2.2.2.2.1
def cc_costs (c : CS_c) : Nat → Int32 := c.2.2.2.2.2.2.2.2.1
def cc_trials (c : CS_c) : Nat → Int32 := c.2.2.2.2.2.2.2.2.2.1
def cc_trialCount (c : CS_c) : Int32 := c.2.2.2.2.2.2.2.2.2.2.1
def cc_worths (c : CS_c) : Nat → Int32 := c.2.2.2.2.2.2.2.2.2.2.2.1
def cc_aheads (c : CS_c) : Nat → Int32 := c.2.2.2.2.2.2.2.2.2.2.2.2.1
def cc_growns (c : CS_c) : Nat → Int32 := c.2.2.2.2.2.2.2.2.2.2.2.2.2.1
def cc_grownCount (c : CS_c) : Int32 := c.2.2.2.2.2.2.2.2.2.2.2.2.2.2.1
def cc_rows (c : CS_c) : Nat → Int32 := c.2.2.2.2.2.2.2.2.2.2.2.2.2.2.2.1
def cc_first (c : CS_c) : Int32 := c.2.2.2.2.2.2.2.2.2.2.2.2.2.2.2.2.1
def cc_count (c : CS_c) : Int32 := c.2.2.2.2.2.2.2.2.2.2.2.2.2.2.2.2.2
def oC (c : CS_c) (i : Nat) : Int32 := if i < 80 then cc_kinds c (i - 74) else if i < 85 then cc_skills c (i - 80) else if i < 90 then cc_ages c (i - 85) else if i < 140 then cc_turns c (i - 90) else if i < 170 then cc_costs c (i - 140) else if i < 186 then cc_worths c (i - 170) else if i < 191 then cc_aheads c (i - 186) else if i < 192 then cc_textCount c else if i < 193 then cc_ruling c else if i < 194 then cc_trialCount c else if i < 195 then cc_grownCount c else cc_count c
def RO (g a : Nat → Int32) : Prop := ∀ i, 74 ≤ i → i < 196 → g i = a (ix i) ∧ lo i ≤ g i ∧ g i ≤ hi i
def RT (t g a : Nat → Int32) : Prop := ∀ i, i < 8 → (nI i < a 5 → t i = 2 * a (151 + 2 * i) + a (152 + 2 * i) ∧ 0 ≤ a (151 + 2 * i) ∧ a (151 + 2 * i) ≤ 99 ∧ (a (152 + 2 * i) = 0 ∨ a (152 + 2 * i) = 1)) ∧ (nI i < a 6 → g i = 10 * a (188 + 2 * i) + a (189 + 2 * i) ∧ 0 ≤ a (188 + 2 * i) ∧ a (188 + 2 * i) ≤ 5 ∧ 0 ≤ a (189 + 2 * i) ∧ a (189 + 2 * i) ≤ 9)
def asTold (u v td : Nat → Int32) : Prop := u 72 ≤ v 72 ∧ u 73 ≤ v 73 ∧ (∀ h, h < 6 → u 72 ≤ nI h → nI h < v 72 → v h = td h ∧ v (6 + h) = 0 ∧ v (12 + h) = -1 ∧ v (18 + h) = 0) ∧ (∀ c, c < 5 → u 73 ≤ nI c → nI c < v 73 → v (24 + c) = 0 ∧ v (29 + c) = -1 ∧ v (34 + c) = 0)
def RS (rows : Nat → Int32) (first : Int32) (a : Nat → Int32) : Prop := ∃ p n : Nat, first = nI p ∧ p < 30 ∧ a 4 = nI n ∧ n ≤ 30 ∧ (∀ j, j < n → ∀ i, i < 74 → rows (74 * ((p + j) % 30) + i) = a (204 + 74 * j + jx i) ∧ lo i ≤ a (204 + 74 * j + jx i) ∧ a (204 + 74 * j + jx i) ≤ hi i) ∧ (∀ j, j + 1 < n → asTold (fun i => a (204 + 74 * j + jx i)) (fun i => a (204 + 74 * (j + 1) + jx i)) (fun h => a (15 + 6 * h))) ∧ (∀ j, j < n → a (204 + 74 * j) ≤ a 0 ∧ a (205 + 74 * j) ≤ a 1)
def Top (a : Nat → Int32) : Prop := ∀ n : Nat, n < 30 → a 4 = nI (n + 1) → asTold (fun i => a (204 + 74 * n + jx i)) (fun i => a (ix i)) (fun h => a (15 + 6 * h))
/-! texts -/
def nmOk (s k : Nat) : Bool := if s = 2 then k < 6 || k == 11 else k < 11
def tyStep (s : Nat) (q : Nat × Nat) (T : List Bool) : Option (List Bool) :=
  if 9999 < q.2 then none
  else if q.1 = 0 then (if T.length < 64 then some (true :: T) else none)
  else if q.1 = 1 then (if nmOk s q.2 = true ∧ T.length < 64 then some (true :: T) else none)
  else if q.1 = 2 ∨ q.1 = 5 then (match T with | true :: T1 => some (true :: T1) | _ => none)
  else if q.1 = 3 then (match T with | true :: true :: false :: T1 => some (true :: T1) | _ => none)
  else if q.1 = 4 then (match T with | true :: true :: true :: T1 => some (true :: T1) | _ => none)
  else if 6 ≤ q.1 ∧ q.1 ≤ 9 then (match T with | true :: true :: T1 => some (true :: T1) | _ => none)
  else if 10 ≤ q.1 ∧ q.1 ≤ 15 then (match T with | true :: true :: T1 => some (false :: T1) | _ => none)
  else if q.1 = 20 then (match T with | false :: T1 => some (false :: T1) | _ => none)
  else if q.1 = 21 ∨ q.1 = 22 then (match T with | false :: false :: T1 => some (false :: T1) | _ => none)
  else none
def tyRun (s : Nat) : List (Nat × Nat) → List Bool → Option (List Bool)
  | [], T => some T
  | q :: L, T => (tyStep s q T).bind (tyRun s L)
/-- the class's number of the reference's operation -/
def opC (k : Nat) : Nat := [32, 47, 22, 23, 20, 46, 39, 40, 41, 42, 35, 33, 36, 34, 37, 38, 0, 0, 0, 0, 29, 28, 27].getD k 0
/-- the class's word of the reference's sort of clause, and how many numbers it has -/
def soC (k : Nat) : Nat := [12, 13, 14, 5, 15, 3, 16, 9, 17, 0].getD k 0
def soN (k : Nat) : Nat := [0, 0, 0, 2, 2, 3, 2, 2, 1, 1].getD k 0
def trLaw (n : Nat) (x bd cd : Nat → Int32) (cl s : Nat) : Prop := ((∀ k, k < n → x (1 + 4 * k) ≠ nI s) ∧ bd (2 * s) = 0 ∧ bd (2 * s + 1) = 0) ∨ (∃ (k i0 : Nat) (L : List (Nat × Nat)), k < n ∧ x (1 + 4 * k) = nI s ∧ (∀ k', k' < n → x (1 + 4 * k') = nI s → k' = k) ∧ x (2 + 4 * k) = nI i0 ∧ x (3 + 4 * k) = nI (i0 + L.length) ∧ bd (2 * s) = nI i0 ∧ bd (2 * s + 1) = nI (i0 + L.length) ∧ i0 + L.length ≤ cl ∧ 0 < L.length ∧ (∀ j, j < L.length → ∃ q : Nat × Nat, L[j]? = some q ∧ cd (i0 + j) = nI (opC q.1 + 64 * q.2) ∧ x (97 + 2 * (i0 + j)) = nI q.1 ∧ x (98 + 2 * (i0 + j)) = nI q.2) ∧ tyRun s L [] = some [true])
def trDeed (n : Nat) (x cl : Nat → Int32) : Prop := ∀ k, k < n → ∃ so : Nat, so < 10 ∧ x (1 + 4 * k) = nI so ∧ cl (4 * k) = nI (soC so) ∧ (∀ j, j < soN so → cl (4 * k + (j + 1)) = x (2 + 4 * k + j)) ∧ (so = 9 → 1 ≤ x (2 + 4 * k) ∧ x (2 + 4 * k) ≤ 60)
def TR (B : TB) (x : Nat → Int32) : Prop := ∃ n : Nat, n ≤ 24 ∧ B.1 = nI n ∧ x 0 = nI n ∧ B.2.2.1.1 = 4 * n ∧ B.2.2.2.2.1 = 6 ∧ B.2.2.2.1.1 ≤ 300 ∧ trDeed n x B.2.2.1.2 ∧ (∀ s, s < 3 → trLaw n x B.2.2.2.2.2 B.2.2.2.1.2 B.2.2.2.1.1 s)
def RX (px : List (Nat × TB)) (tx : Nat → Option Nat) (tc : Int32) (kx : Nat → Option Nat) (kc : Int32) (y : Nat → Int32) : Prop := (∀ t, t < 4 → nI t < tc → ∃ (ad : Nat) (B : TB), tx t = some ad ∧ (ad, B) ∈ px ∧ TR B (fun k => y (705 * t + k))) ∧ kc ≤ tc ∧ (∀ t, t < 4 → nI t < kc → kx t = tx t) ∧ (∀ t, t < 4 → ∀ ad : Nat, tx t = some ad → ∃ B : TB, (ad, B) ∈ px) ∧ (∀ t, t < 4 → ∀ ad : Nat, kx t = some ad → ∃ B : TB, (ad, B) ∈ px)
def RP (ln : Int32) (tp : Nat → Int32) (fa pl : Int32) (mt : Nat → Int32) (md mf mp : Int32) : Prop := ln = md ∧ 0 ≤ ln ∧ ln ≤ 300 ∧ (∀ i, i < 300 → nI i < ln → tp i = mt i ∧ 0 ≤ tp i ∧ tp i ≤ 255) ∧ fa = mf ∧ pl = mp
def RC (c : CS_c) (a : Nat → Int32) : Prop := RN (cc_now c) a ∧ RO (oC c) a ∧ RT (cc_trials c) (cc_growns c) a ∧ RS (cc_rows c) (cc_first c) a ∧ a 3 < a 2
def RelV (c k : CS_c) (r : CS_r) (px : List (Nat × TB)) (a b y : Nat → Int32) (tp : Nat → Int32) (td fa fp : Int32) : Prop := RC c a ∧ RC k b ∧ Top b ∧ RX px (cc_texts c) (cc_textCount c) (cc_texts k) (cc_textCount k) y ∧ RP r.1 r.2.2.2.1 r.2.1 r.2.2.1 tp td fa fp
/-- all but what the last kept step says of now -/
def Rel0 (cs : CS) (ms : MS) : Prop := RelV cs.1 cs.2.1 cs.2.2.1 cs.2.2.2.2 (ms_a ms) (ms_image ms) (ms_texts ms) (ms_tape ms) (ms_taped ms) (ms_fault ms) (ms_faultPlace ms)
def Rel (cs : CS) (ms : MS) : Prop := Rel0 cs ms ∧ Top (ms_a ms)
/-- the same but for the laws' scratch -/
def sC (S S' : CS) : Prop := S'.1 = S.1 ∧ S'.2.1 = S.2.1 ∧ S'.2.2.1 = S.2.2.1 ∧ S'.2.2.2.2 = S.2.2.2.2 ∧ S'.2.2.2.1.2.2.2 = S.2.2.2.1.2.2.2
def sM (S S' : MS) : Prop := ms_a S' = ms_a S ∧ ms_image S' = ms_image S ∧ ms_texts S' = ms_texts S ∧ ms_tape S' = ms_tape S ∧ ms_taped S' = ms_taped S ∧ ms_fault S' = ms_fault S ∧ ms_faultPlace S' = ms_faultPlace S ∧ S'.2.2.2.2.2.2.2.2.2.2.2.2.2.2.2.2.2.2.2.2.2.2.2 = S.2.2.2.2.2.2.2.2.2.2.2.2.2.2.2.2.2.2.2.2.2.2.2
/-- the same but for the laws' scratch and now -/
def dC (S S' : CS) : Prop := S'.1.2 = S.1.2 ∧ S'.2.1 = S.2.1 ∧ S'.2.2.1 = S.2.2.1 ∧ S'.2.2.2.2 = S.2.2.2.2 ∧ S'.2.2.2.1.2.2.2 = S.2.2.2.1.2.2.2
def dM (S S' : MS) : Prop := ms_image S' = ms_image S ∧ ms_texts S' = ms_texts S ∧ ms_tape S' = ms_tape S ∧ ms_taped S' = ms_taped S ∧ ms_fault S' = ms_fault S ∧ ms_faultPlace S' = ms_faultPlace S ∧ S'.2.2.2.2.2.2.2.2.2.2.2.2.2.2.2.2.2.2.2.2.2.2.2 = S.2.2.2.2.2.2.2.2.2.2.2.2.2.2.2.2.2.2.2.2.2.2.2
/-- cells of the row that no deed writes -/
def fr (a a' : Nat → Int32) : Prop := ∀ k, (∀ i, i < 72 → ix i ≠ k) → a' k = a k
/-! reading rows -/
theorem ilh_grief : ∀ h : Nat, h < 6 → ix h = 10 + 6 * h ∧ lo h = 0 ∧ hi h = 99 := by decide +kernel
theorem ix_grief {h : Nat} (hh : h < 6) : ix h = 10 + 6 * h := (ilh_grief h hh).1
theorem lo_grief {h : Nat} (hh : h < 6) : lo h = 0 := (ilh_grief h hh).2.1
theorem hi_grief {h : Nat} (hh : h < 6) : hi h = 99 := (ilh_grief h hh).2.2
theorem rn_grief {f a : Nat → Int32} (R : RN f a) {h : Nat} (hh : h < 6) : f h = a (10 + 6 * h) := by
  rw [(R h (by omega)).1, ix_grief hh]
theorem bn_grief {f a : Nat → Int32} (R : RN f a) {h : Nat} (hh : h < 6) : 0 ≤ a (10 + 6 * h) ∧ a (10 + 6 * h) ≤ 99 := by
  have := (R h (by omega)).2
  rw [lo_grief hh, hi_grief hh, rn_grief R hh] at this
  exact this
theorem rd_grief {S : CS} {a : Nat → Int32} (R : RC S.1 a) {h : Nat} (hh : h < 6) : cx_c_now S h = a (10 + 6 * h) := rn_grief R.1 hh
theorem bd_grief {c : CS_c} {a : Nat → Int32} (R : RC c a) {h : Nat} (hh : h < 6) : 0 ≤ a (10 + 6 * h) ∧ a (10 + 6 * h) ≤ 99 := bn_grief R.1 hh
theorem ilh_mood : ∀ h : Nat, h < 6 → ix (6 + h) = 11 + 6 * h ∧ lo (6 + h) = 0 ∧ hi (6 + h) = 9 := by decide +kernel
theorem ix_mood {h : Nat} (hh : h < 6) : ix (6 + h) = 11 + 6 * h := (ilh_mood h hh).1
theorem lo_mood {h : Nat} (hh : h < 6) : lo (6 + h) = 0 := (ilh_mood h hh).2.1
theorem hi_mood {h : Nat} (hh : h < 6) : hi (6 + h) = 9 := (ilh_mood h hh).2.2
theorem rn_mood {f a : Nat → Int32} (R : RN f a) {h : Nat} (hh : h < 6) : f (6 + h) = a (11 + 6 * h) := by
  rw [(R (6 + h) (by omega)).1, ix_mood hh]
theorem bn_mood {f a : Nat → Int32} (R : RN f a) {h : Nat} (hh : h < 6) : 0 ≤ a (11 + 6 * h) ∧ a (11 + 6 * h) ≤ 9 := by
  have := (R (6 + h) (by omega)).2
  rw [lo_mood hh, hi_mood hh, rn_mood R hh] at this
  exact this
theorem rd_mood {S : CS} {a : Nat → Int32} (R : RC S.1 a) {h : Nat} (hh : h < 6) : cx_c_now S (6 + h) = a (11 + 6 * h) := rn_mood R.1 hh
theorem bd_mood {c : CS_c} {a : Nat → Int32} (R : RC c a) {h : Nat} (hh : h < 6) : 0 ≤ a (11 + 6 * h) ∧ a (11 + 6 * h) ≤ 9 := bn_mood R.1 hh
theorem ilh_clock : ∀ h : Nat, h < 6 → ix (12 + h) = 12 + 6 * h ∧ lo (12 + h) = (-1) ∧ hi (12 + h) = 4 := by decide +kernel
theorem ix_clock {h : Nat} (hh : h < 6) : ix (12 + h) = 12 + 6 * h := (ilh_clock h hh).1
theorem lo_clock {h : Nat} (hh : h < 6) : lo (12 + h) = (-1) := (ilh_clock h hh).2.1
theorem hi_clock {h : Nat} (hh : h < 6) : hi (12 + h) = 4 := (ilh_clock h hh).2.2
theorem rn_clock {f a : Nat → Int32} (R : RN f a) {h : Nat} (hh : h < 6) : f (12 + h) = a (12 + 6 * h) := by
  rw [(R (12 + h) (by omega)).1, ix_clock hh]
theorem bn_clock {f a : Nat → Int32} (R : RN f a) {h : Nat} (hh : h < 6) : (-1) ≤ a (12 + 6 * h) ∧ a (12 + 6 * h) ≤ 4 := by
  have := (R (12 + h) (by omega)).2
  rw [lo_clock hh, hi_clock hh, rn_clock R hh] at this
  exact this
theorem rd_clock {S : CS} {a : Nat → Int32} (R : RC S.1 a) {h : Nat} (hh : h < 6) : cx_c_now S (12 + h) = a (12 + 6 * h) := rn_clock R.1 hh
theorem bd_clock {c : CS_c} {a : Nat → Int32} (R : RC c a) {h : Nat} (hh : h < 6) : (-1) ≤ a (12 + 6 * h) ∧ a (12 + 6 * h) ≤ 4 := bn_clock R.1 hh
theorem ilh_laughed : ∀ h : Nat, h < 6 → ix (18 + h) = 13 + 6 * h ∧ lo (18 + h) = 0 ∧ hi (18 + h) = 99 := by decide +kernel
theorem ix_laughed {h : Nat} (hh : h < 6) : ix (18 + h) = 13 + 6 * h := (ilh_laughed h hh).1
theorem lo_laughed {h : Nat} (hh : h < 6) : lo (18 + h) = 0 := (ilh_laughed h hh).2.1
theorem hi_laughed {h : Nat} (hh : h < 6) : hi (18 + h) = 99 := (ilh_laughed h hh).2.2
theorem rn_laughed {f a : Nat → Int32} (R : RN f a) {h : Nat} (hh : h < 6) : f (18 + h) = a (13 + 6 * h) := by
  rw [(R (18 + h) (by omega)).1, ix_laughed hh]
theorem bn_laughed {f a : Nat → Int32} (R : RN f a) {h : Nat} (hh : h < 6) : 0 ≤ a (13 + 6 * h) ∧ a (13 + 6 * h) ≤ 99 := by
  have := (R (18 + h) (by omega)).2
  rw [lo_laughed hh, hi_laughed hh, rn_laughed R hh] at this
  exact this
theorem rd_laughed {S : CS} {a : Nat → Int32} (R : RC S.1 a) {h : Nat} (hh : h < 6) : cx_c_now S (18 + h) = a (13 + 6 * h) := rn_laughed R.1 hh
theorem bd_laughed {c : CS_c} {a : Nat → Int32} (R : RC c a) {h : Nat} (hh : h < 6) : 0 ≤ a (13 + 6 * h) ∧ a (13 + 6 * h) ≤ 99 := bn_laughed R.1 hh
theorem ilh_tired : ∀ h : Nat, h < 5 → ix (24 + h) = 46 + 5 * h ∧ lo (24 + h) = 0 ∧ hi (24 + h) = 9 := by decide +kernel
theorem ix_tired {h : Nat} (hh : h < 5) : ix (24 + h) = 46 + 5 * h := (ilh_tired h hh).1
theorem lo_tired {h : Nat} (hh : h < 5) : lo (24 + h) = 0 := (ilh_tired h hh).2.1
theorem hi_tired {h : Nat} (hh : h < 5) : hi (24 + h) = 9 := (ilh_tired h hh).2.2
theorem rn_tired {f a : Nat → Int32} (R : RN f a) {h : Nat} (hh : h < 5) : f (24 + h) = a (46 + 5 * h) := by
  rw [(R (24 + h) (by omega)).1, ix_tired hh]
theorem bn_tired {f a : Nat → Int32} (R : RN f a) {h : Nat} (hh : h < 5) : 0 ≤ a (46 + 5 * h) ∧ a (46 + 5 * h) ≤ 9 := by
  have := (R (24 + h) (by omega)).2
  rw [lo_tired hh, hi_tired hh, rn_tired R hh] at this
  exact this
theorem rd_tired {S : CS} {a : Nat → Int32} (R : RC S.1 a) {h : Nat} (hh : h < 5) : cx_c_now S (24 + h) = a (46 + 5 * h) := rn_tired R.1 hh
theorem bd_tired {c : CS_c} {a : Nat → Int32} (R : RC c a) {h : Nat} (hh : h < 5) : 0 ≤ a (46 + 5 * h) ∧ a (46 + 5 * h) ≤ 9 := bn_tired R.1 hh
theorem ilh_place : ∀ h : Nat, h < 5 → ix (29 + h) = 47 + 5 * h ∧ lo (29 + h) = (-1) ∧ hi (29 + h) = 5 := by decide +kernel
theorem ix_place {h : Nat} (hh : h < 5) : ix (29 + h) = 47 + 5 * h := (ilh_place h hh).1
theorem lo_place {h : Nat} (hh : h < 5) : lo (29 + h) = (-1) := (ilh_place h hh).2.1
theorem hi_place {h : Nat} (hh : h < 5) : hi (29 + h) = 5 := (ilh_place h hh).2.2
theorem rn_place {f a : Nat → Int32} (R : RN f a) {h : Nat} (hh : h < 5) : f (29 + h) = a (47 + 5 * h) := by
  rw [(R (29 + h) (by omega)).1, ix_place hh]
theorem bn_place {f a : Nat → Int32} (R : RN f a) {h : Nat} (hh : h < 5) : (-1) ≤ a (47 + 5 * h) ∧ a (47 + 5 * h) ≤ 5 := by
  have := (R (29 + h) (by omega)).2
  rw [lo_place hh, hi_place hh, rn_place R hh] at this
  exact this
theorem rd_place {S : CS} {a : Nat → Int32} (R : RC S.1 a) {h : Nat} (hh : h < 5) : cx_c_now S (29 + h) = a (47 + 5 * h) := rn_place R.1 hh
theorem bd_place {c : CS_c} {a : Nat → Int32} (R : RC c a) {h : Nat} (hh : h < 5) : (-1) ≤ a (47 + 5 * h) ∧ a (47 + 5 * h) ≤ 5 := bn_place R.1 hh
theorem ilh_falls : ∀ h : Nat, h < 5 → ix (34 + h) = 48 + 5 * h ∧ lo (34 + h) = 0 ∧ hi (34 + h) = 9999 := by decide +kernel
theorem ix_falls {h : Nat} (hh : h < 5) : ix (34 + h) = 48 + 5 * h := (ilh_falls h hh).1
theorem lo_falls {h : Nat} (hh : h < 5) : lo (34 + h) = 0 := (ilh_falls h hh).2.1
theorem hi_falls {h : Nat} (hh : h < 5) : hi (34 + h) = 9999 := (ilh_falls h hh).2.2
theorem rn_falls {f a : Nat → Int32} (R : RN f a) {h : Nat} (hh : h < 5) : f (34 + h) = a (48 + 5 * h) := by
  rw [(R (34 + h) (by omega)).1, ix_falls hh]
theorem bn_falls {f a : Nat → Int32} (R : RN f a) {h : Nat} (hh : h < 5) : 0 ≤ a (48 + 5 * h) ∧ a (48 + 5 * h) ≤ 9999 := by
  have := (R (34 + h) (by omega)).2
  rw [lo_falls hh, hi_falls hh, rn_falls R hh] at this
  exact this
theorem rd_falls {S : CS} {a : Nat → Int32} (R : RC S.1 a) {h : Nat} (hh : h < 5) : cx_c_now S (34 + h) = a (48 + 5 * h) := rn_falls R.1 hh
theorem bd_falls {c : CS_c} {a : Nat → Int32} (R : RC c a) {h : Nat} (hh : h < 5) : 0 ≤ a (48 + 5 * h) ∧ a (48 + 5 * h) ≤ 9999 := bn_falls R.1 hh
theorem ilh_book : ∀ h : Nat, h < 30 → ix (42 + h) = 2424 + h ∧ lo (42 + h) = 0 ∧ hi (42 + h) = 639999 := by decide +kernel
theorem ix_book {h : Nat} (hh : h < 30) : ix (42 + h) = 2424 + h := (ilh_book h hh).1
theorem lo_book {h : Nat} (hh : h < 30) : lo (42 + h) = 0 := (ilh_book h hh).2.1
theorem hi_book {h : Nat} (hh : h < 30) : hi (42 + h) = 639999 := (ilh_book h hh).2.2
theorem rn_book {f a : Nat → Int32} (R : RN f a) {h : Nat} (hh : h < 30) : f (42 + h) = a (2424 + h) := by
  rw [(R (42 + h) (by omega)).1, ix_book hh]
theorem bn_book {f a : Nat → Int32} (R : RN f a) {h : Nat} (hh : h < 30) : 0 ≤ a (2424 + h) ∧ a (2424 + h) ≤ 639999 := by
  have := (R (42 + h) (by omega)).2
  rw [lo_book hh, hi_book hh, rn_book R hh] at this
  exact this
theorem rd_book {S : CS} {a : Nat → Int32} (R : RC S.1 a) {h : Nat} (hh : h < 30) : cx_c_now S (42 + h) = a (2424 + h) := rn_book R.1 hh
theorem bd_book {c : CS_c} {a : Nat → Int32} (R : RC c a) {h : Nat} (hh : h < 30) : 0 ≤ a (2424 + h) ∧ a (2424 + h) ≤ 639999 := bn_book R.1 hh
theorem rn_day {f a : Nat → Int32} (R : RN f a) : f 39 = a 7 := (R 39 (by decide)).1
theorem bn_day {f a : Nat → Int32} (R : RN f a) : 0 ≤ a 7 ∧ a 7 ≤ 9999 := by
  rw [← rn_day R]
  exact (R 39 (by decide)).2
theorem rd_day {S : CS} {a : Nat → Int32} (R : RC S.1 a) : cx_c_now S 39 = a 7 := rn_day R.1
theorem bd_day {c : CS_c} {a : Nat → Int32} (R : RC c a) : 0 ≤ a 7 ∧ a 7 ≤ 9999 := bn_day R.1
theorem rn_draw {f a : Nat → Int32} (R : RN f a) : f 40 = a 8 := (R 40 (by decide)).1
theorem bn_draw {f a : Nat → Int32} (R : RN f a) : 0 ≤ a 8 ∧ a 8 ≤ 30528 := by
  rw [← rn_draw R]
  exact (R 40 (by decide)).2
theorem rd_draw {S : CS} {a : Nat → Int32} (R : RC S.1 a) : cx_c_now S 40 = a 8 := rn_draw R.1
theorem bd_draw {c : CS_c} {a : Nat → Int32} (R : RC c a) : 0 ≤ a 8 ∧ a 8 ≤ 30528 := bn_draw R.1
theorem rn_written {f a : Nat → Int32} (R : RN f a) : f 41 = a 9 := (R 41 (by decide)).1
theorem bn_written {f a : Nat → Int32} (R : RN f a) : 0 ≤ a 9 ∧ a 9 ≤ 30 := by
  rw [← rn_written R]
  exact (R 41 (by decide)).2
theorem rd_written {S : CS} {a : Nat → Int32} (R : RC S.1 a) : cx_c_now S 41 = a 9 := rn_written R.1
theorem bd_written {c : CS_c} {a : Nat → Int32} (R : RC c a) : 0 ≤ a 9 ∧ a 9 ≤ 30 := bn_written R.1
theorem rn_houses {f a : Nat → Int32} (R : RN f a) : f 72 = a 0 := (R 72 (by decide)).1
theorem bn_houses {f a : Nat → Int32} (R : RN f a) : 0 ≤ a 0 ∧ a 0 ≤ 6 := by
  rw [← rn_houses R]
  exact (R 72 (by decide)).2
theorem rd_houses {S : CS} {a : Nat → Int32} (R : RC S.1 a) : cx_c_now S 72 = a 0 := rn_houses R.1
theorem bd_houses {c : CS_c} {a : Nat → Int32} (R : RC c a) : 0 ≤ a 0 ∧ a 0 ≤ 6 := bn_houses R.1
theorem rn_clowns {f a : Nat → Int32} (R : RN f a) : f 73 = a 1 := (R 73 (by decide)).1
theorem bn_clowns {f a : Nat → Int32} (R : RN f a) : 0 ≤ a 1 ∧ a 1 ≤ 5 := by
  rw [← rn_clowns R]
  exact (R 73 (by decide)).2
theorem rd_clowns {S : CS} {a : Nat → Int32} (R : RC S.1 a) : cx_c_now S 73 = a 1 := rn_clowns R.1
theorem bd_clowns {c : CS_c} {a : Nat → Int32} (R : RC c a) : 0 ≤ a 1 ∧ a 1 ≤ 5 := bn_clowns R.1
theorem oC_kinds (c : CS_c) {h : Nat} (hh : h < 6) : oC c (74 + h) = cc_kinds c h := by
  unfold oC
  rw [if_pos (by omega), Nat.add_sub_cancel_left]
theorem ilh_kinds : ∀ h : Nat, h < 6 → ix (74 + h) = 14 + 6 * h ∧ lo (74 + h) = 0 ∧ hi (74 + h) = 3 := by decide +kernel
theorem ix_kinds {h : Nat} (hh : h < 6) : ix (74 + h) = 14 + 6 * h := (ilh_kinds h hh).1
theorem lo_kinds {h : Nat} (hh : h < 6) : lo (74 + h) = 0 := (ilh_kinds h hh).2.1
theorem hi_kinds {h : Nat} (hh : h < 6) : hi (74 + h) = 3 := (ilh_kinds h hh).2.2
theorem rc_kinds {c : CS_c} {a : Nat → Int32} (R : RC c a) {h : Nat} (hh : h < 6) : cc_kinds c h = a (14 + 6 * h) ∧ 0 ≤ a (14 + 6 * h) ∧ a (14 + 6 * h) ≤ 3 := by
  have := R.2.1 (74 + h) (by omega) (by omega)
  rw [oC_kinds c hh, ix_kinds hh, lo_kinds hh, hi_kinds hh] at this
  exact ⟨this.1, this.1 ▸ this.2⟩
theorem rd_kinds {S : CS} {a : Nat → Int32} (R : RC S.1 a) {h : Nat} (hh : h < 6) : cx_c_kinds S h = a (14 + 6 * h) := (rc_kinds R hh).1
theorem bd_kinds {c : CS_c} {a : Nat → Int32} (R : RC c a) {h : Nat} (hh : h < 6) : 0 ≤ a (14 + 6 * h) ∧ a (14 + 6 * h) ≤ 3 := (rc_kinds R hh).2
theorem oC_skills (c : CS_c) {h : Nat} (hh : h < 5) : oC c (80 + h) = cc_skills c h := by
  unfold oC
  rw [if_neg (by omega), if_pos (by omega), Nat.add_sub_cancel_left]
theorem ilh_skills : ∀ h : Nat, h < 5 → ix (80 + h) = 49 + 5 * h ∧ lo (80 + h) = 0 ∧ hi (80 + h) = 9 := by decide +kernel
theorem ix_skills {h : Nat} (hh : h < 5) : ix (80 + h) = 49 + 5 * h := (ilh_skills h hh).1
theorem lo_skills {h : Nat} (hh : h < 5) : lo (80 + h) = 0 := (ilh_skills h hh).2.1
theorem hi_skills {h : Nat} (hh : h < 5) : hi (80 + h) = 9 := (ilh_skills h hh).2.2
theorem rc_skills {c : CS_c} {a : Nat → Int32} (R : RC c a) {h : Nat} (hh : h < 5) : cc_skills c h = a (49 + 5 * h) ∧ 0 ≤ a (49 + 5 * h) ∧ a (49 + 5 * h) ≤ 9 := by
  have := R.2.1 (80 + h) (by omega) (by omega)
  rw [oC_skills c hh, ix_skills hh, lo_skills hh, hi_skills hh] at this
  exact ⟨this.1, this.1 ▸ this.2⟩
theorem rd_skills {S : CS} {a : Nat → Int32} (R : RC S.1 a) {h : Nat} (hh : h < 5) : cx_c_skills S h = a (49 + 5 * h) := (rc_skills R hh).1
theorem bd_skills {c : CS_c} {a : Nat → Int32} (R : RC c a) {h : Nat} (hh : h < 5) : 0 ≤ a (49 + 5 * h) ∧ a (49 + 5 * h) ≤ 9 := (rc_skills R hh).2
theorem oC_ages (c : CS_c) {h : Nat} (hh : h < 5) : oC c (85 + h) = cc_ages c h := by
  unfold oC
  rw [if_neg (by omega), if_neg (by omega), if_pos (by omega), Nat.add_sub_cancel_left]
theorem ilh_ages : ∀ h : Nat, h < 5 → ix (85 + h) = 50 + 5 * h ∧ lo (85 + h) = 0 ∧ hi (85 + h) = 99 := by decide +kernel
theorem ix_ages {h : Nat} (hh : h < 5) : ix (85 + h) = 50 + 5 * h := (ilh_ages h hh).1
theorem lo_ages {h : Nat} (hh : h < 5) : lo (85 + h) = 0 := (ilh_ages h hh).2.1
theorem hi_ages {h : Nat} (hh : h < 5) : hi (85 + h) = 99 := (ilh_ages h hh).2.2
theorem rc_ages {c : CS_c} {a : Nat → Int32} (R : RC c a) {h : Nat} (hh : h < 5) : cc_ages c h = a (50 + 5 * h) ∧ 0 ≤ a (50 + 5 * h) ∧ a (50 + 5 * h) ≤ 99 := by
  have := R.2.1 (85 + h) (by omega) (by omega)
  rw [oC_ages c hh, ix_ages hh, lo_ages hh, hi_ages hh] at this
  exact ⟨this.1, this.1 ▸ this.2⟩
theorem rd_ages {S : CS} {a : Nat → Int32} (R : RC S.1 a) {h : Nat} (hh : h < 5) : cx_c_ages S h = a (50 + 5 * h) := (rc_ages R hh).1
theorem bd_ages {c : CS_c} {a : Nat → Int32} (R : RC c a) {h : Nat} (hh : h < 5) : 0 ≤ a (50 + 5 * h) ∧ a (50 + 5 * h) ≤ 99 := (rc_ages R hh).2
theorem oC_turns (c : CS_c) {h : Nat} (hh : h < 50) : oC c (90 + h) = cc_turns c h := by
  unfold oC
  rw [if_neg (by omega), if_neg (by omega), if_neg (by omega), if_pos (by omega), Nat.add_sub_cancel_left]
theorem ilh_turns : ∀ h : Nat, h < 50 → ix (90 + h) = 71 + h ∧ lo (90 + h) = 0 ∧ hi (90 + h) = 9 := by decide +kernel
theorem ix_turns {h : Nat} (hh : h < 50) : ix (90 + h) = 71 + h := (ilh_turns h hh).1
theorem lo_turns {h : Nat} (hh : h < 50) : lo (90 + h) = 0 := (ilh_turns h hh).2.1
theorem hi_turns {h : Nat} (hh : h < 50) : hi (90 + h) = 9 := (ilh_turns h hh).2.2
theorem rc_turns {c : CS_c} {a : Nat → Int32} (R : RC c a) {h : Nat} (hh : h < 50) : cc_turns c h = a (71 + h) ∧ 0 ≤ a (71 + h) ∧ a (71 + h) ≤ 9 := by
  have := R.2.1 (90 + h) (by omega) (by omega)
  rw [oC_turns c hh, ix_turns hh, lo_turns hh, hi_turns hh] at this
  exact ⟨this.1, this.1 ▸ this.2⟩
theorem rd_turns {S : CS} {a : Nat → Int32} (R : RC S.1 a) {h : Nat} (hh : h < 50) : cx_c_turns S h = a (71 + h) := (rc_turns R hh).1
theorem bd_turns {c : CS_c} {a : Nat → Int32} (R : RC c a) {h : Nat} (hh : h < 50) : 0 ≤ a (71 + h) ∧ a (71 + h) ≤ 9 := (rc_turns R hh).2
theorem oC_costs (c : CS_c) {h : Nat} (hh : h < 30) : oC c (140 + h) = cc_costs c h := by
  unfold oC
  rw [if_neg (by omega), if_neg (by omega), if_neg (by omega), if_neg (by omega), if_pos (by omega), Nat.add_sub_cancel_left]
theorem ilh_costs : ∀ h : Nat, h < 30 → ix (140 + h) = 121 + h ∧ lo (140 + h) = 0 ∧ hi (140 + h) = 99 := by decide +kernel
theorem ix_costs {h : Nat} (hh : h < 30) : ix (140 + h) = 121 + h := (ilh_costs h hh).1
theorem lo_costs {h : Nat} (hh : h < 30) : lo (140 + h) = 0 := (ilh_costs h hh).2.1
theorem hi_costs {h : Nat} (hh : h < 30) : hi (140 + h) = 99 := (ilh_costs h hh).2.2
theorem rc_costs {c : CS_c} {a : Nat → Int32} (R : RC c a) {h : Nat} (hh : h < 30) : cc_costs c h = a (121 + h) ∧ 0 ≤ a (121 + h) ∧ a (121 + h) ≤ 99 := by
  have := R.2.1 (140 + h) (by omega) (by omega)
  rw [oC_costs c hh, ix_costs hh, lo_costs hh, hi_costs hh] at this
  exact ⟨this.1, this.1 ▸ this.2⟩
theorem rd_costs {S : CS} {a : Nat → Int32} (R : RC S.1 a) {h : Nat} (hh : h < 30) : cx_c_costs S h = a (121 + h) := (rc_costs R hh).1
theorem bd_costs {c : CS_c} {a : Nat → Int32} (R : RC c a) {h : Nat} (hh : h < 30) : 0 ≤ a (121 + h) ∧ a (121 + h) ≤ 99 := (rc_costs R hh).2
theorem oC_worths (c : CS_c) {h : Nat} (hh : h < 16) : oC c (170 + h) = cc_worths c h := by
  unfold oC
  rw [if_neg (by omega), if_neg (by omega), if_neg (by omega), if_neg (by omega), if_neg (by omega), if_pos (by omega), Nat.add_sub_cancel_left]
theorem ilh_worths : ∀ h : Nat, h < 16 → ix (170 + h) = 167 + h ∧ lo (170 + h) = 0 ∧ hi (170 + h) = 999 := by decide +kernel
theorem ix_worths {h : Nat} (hh : h < 16) : ix (170 + h) = 167 + h := (ilh_worths h hh).1
theorem lo_worths {h : Nat} (hh : h < 16) : lo (170 + h) = 0 := (ilh_worths h hh).2.1
theorem hi_worths {h : Nat} (hh : h < 16) : hi (170 + h) = 999 := (ilh_worths h hh).2.2
theorem rc_worths {c : CS_c} {a : Nat → Int32} (R : RC c a) {h : Nat} (hh : h < 16) : cc_worths c h = a (167 + h) ∧ 0 ≤ a (167 + h) ∧ a (167 + h) ≤ 999 := by
  have := R.2.1 (170 + h) (by omega) (by omega)
  rw [oC_worths c hh, ix_worths hh, lo_worths hh, hi_worths hh] at this
  exact ⟨this.1, this.1 ▸ this.2⟩
theorem rd_worths {S : CS} {a : Nat → Int32} (R : RC S.1 a) {h : Nat} (hh : h < 16) : cx_c_worths S h = a (167 + h) := (rc_worths R hh).1
theorem bd_worths {c : CS_c} {a : Nat → Int32} (R : RC c a) {h : Nat} (hh : h < 16) : 0 ≤ a (167 + h) ∧ a (167 + h) ≤ 999 := (rc_worths R hh).2
theorem oC_aheads (c : CS_c) {h : Nat} (hh : h < 5) : oC c (186 + h) = cc_aheads c h := by
  unfold oC
  rw [if_neg (by omega), if_neg (by omega), if_neg (by omega), if_neg (by omega), if_neg (by omega), if_neg (by omega), if_pos (by omega), Nat.add_sub_cancel_left]
theorem ilh_aheads : ∀ h : Nat, h < 5 → ix (186 + h) = 183 + h ∧ lo (186 + h) = 0 ∧ hi (186 + h) = 31 := by decide +kernel
theorem ix_aheads {h : Nat} (hh : h < 5) : ix (186 + h) = 183 + h := (ilh_aheads h hh).1
theorem lo_aheads {h : Nat} (hh : h < 5) : lo (186 + h) = 0 := (ilh_aheads h hh).2.1
theorem hi_aheads {h : Nat} (hh : h < 5) : hi (186 + h) = 31 := (ilh_aheads h hh).2.2
theorem rc_aheads {c : CS_c} {a : Nat → Int32} (R : RC c a) {h : Nat} (hh : h < 5) : cc_aheads c h = a (183 + h) ∧ 0 ≤ a (183 + h) ∧ a (183 + h) ≤ 31 := by
  have := R.2.1 (186 + h) (by omega) (by omega)
  rw [oC_aheads c hh, ix_aheads hh, lo_aheads hh, hi_aheads hh] at this
  exact ⟨this.1, this.1 ▸ this.2⟩
theorem rd_aheads {S : CS} {a : Nat → Int32} (R : RC S.1 a) {h : Nat} (hh : h < 5) : cx_c_aheads S h = a (183 + h) := (rc_aheads R hh).1
theorem bd_aheads {c : CS_c} {a : Nat → Int32} (R : RC c a) {h : Nat} (hh : h < 5) : 0 ≤ a (183 + h) ∧ a (183 + h) ≤ 31 := (rc_aheads R hh).2
theorem rc_textCount {c : CS_c} {a : Nat → Int32} (R : RC c a) : cc_textCount c = a 2 := (R.2.1 191 (by decide) (by decide)).1
theorem rd_textCount {S : CS} {a : Nat → Int32} (R : RC S.1 a) : cx_c_textCount S = a 2 := rc_textCount R
theorem bd_textCount {c : CS_c} {a : Nat → Int32} (R : RC c a) : 0 ≤ a 2 ∧ a 2 ≤ 4 := by
  rw [← rc_textCount R]
  exact (R.2.1 191 (by decide) (by decide)).2
theorem rc_ruling {c : CS_c} {a : Nat → Int32} (R : RC c a) : cc_ruling c = a 3 := (R.2.1 192 (by decide) (by decide)).1
theorem rd_ruling {S : CS} {a : Nat → Int32} (R : RC S.1 a) : cx_c_ruling S = a 3 := rc_ruling R
theorem bd_ruling {c : CS_c} {a : Nat → Int32} (R : RC c a) : (-1) ≤ a 3 ∧ a 3 ≤ 3 := by
  rw [← rc_ruling R]
  exact (R.2.1 192 (by decide) (by decide)).2
theorem rc_trialCount {c : CS_c} {a : Nat → Int32} (R : RC c a) : cc_trialCount c = a 5 := (R.2.1 193 (by decide) (by decide)).1
theorem rd_trialCount {S : CS} {a : Nat → Int32} (R : RC S.1 a) : cx_c_trialCount S = a 5 := rc_trialCount R
theorem bd_trialCount {c : CS_c} {a : Nat → Int32} (R : RC c a) : 0 ≤ a 5 ∧ a 5 ≤ 8 := by
  rw [← rc_trialCount R]
  exact (R.2.1 193 (by decide) (by decide)).2
theorem rc_grownCount {c : CS_c} {a : Nat → Int32} (R : RC c a) : cc_grownCount c = a 6 := (R.2.1 194 (by decide) (by decide)).1
theorem rd_grownCount {S : CS} {a : Nat → Int32} (R : RC S.1 a) : cx_c_grownCount S = a 6 := rc_grownCount R
theorem bd_grownCount {c : CS_c} {a : Nat → Int32} (R : RC c a) : 0 ≤ a 6 ∧ a 6 ≤ 8 := by
  rw [← rc_grownCount R]
  exact (R.2.1 194 (by decide) (by decide)).2
theorem rc_count {c : CS_c} {a : Nat → Int32} (R : RC c a) : cc_count c = a 4 := (R.2.1 195 (by decide) (by decide)).1
theorem rd_count {S : CS} {a : Nat → Int32} (R : RC S.1 a) : cx_cs_count S = a 4 := rc_count R
theorem bd_count {c : CS_c} {a : Nat → Int32} (R : RC c a) : 0 ≤ a 4 ∧ a 4 ≤ 30 := by
  rw [← rc_count R]
  exact (R.2.1 195 (by decide) (by decide)).2
/-! writing rows -/
theorem RN_upd {f a : Nat → Int32} (R : RN f a) {i : Nat} (h : i < 74) {v : Int32} (h0 : lo i ≤ v) (h1 : v ≤ hi i) : RN (upd f i v) (upd a (ix i) v) := by
  intro j hj
  by_cases e : j = i
  · subst e
    rw [upd_eq, upd_eq]
    exact ⟨rfl, h0, h1⟩
  · rw [upd_ne _ _ e, upd_ne _ _ (fun e1 => e (ix_inj j (by omega) i (by omega) e1))]
    exact R j hj
theorem RO_upd {g a : Nat → Int32} (R : RO g a) {i : Nat} (h2 : 74 ≤ i) (h : i < 196) {v : Int32} (h0 : lo i ≤ v) (h1 : v ≤ hi i) : RO (upd g i v) (upd a (ix i) v) := by
  intro j hj2 hj
  by_cases e : j = i
  · subst e
    rw [upd_eq, upd_eq]
    exact ⟨rfl, h0, h1⟩
  · rw [upd_ne _ _ e, upd_ne _ _ (fun e1 => e (ix_inj j (by omega) i (by omega) e1))]
    exact R j hj2 hj
/-- what is written elsewhere -/
theorem RN_off {f a a' : Nat → Int32} (R : RN f a) (h : ∀ i, i < 74 → a' (ix i) = a (ix i)) : RN f a' := by
  intro i hi
  rw [h i hi]
  exact R i hi
theorem RO_off {g a a' : Nat → Int32} (R : RO g a) (h : ∀ i, 74 ≤ i → i < 196 → a' (ix i) = a (ix i)) : RO g a' := by
  intro i hi hi2
  rw [h i hi hi2]
  exact R i hi hi2
theorem RT_off {t g a a' : Nat → Int32} (R : RT t g a) (h : ∀ k, k = 5 ∨ k = 6 ∨ (151 ≤ k ∧ k < 167) ∨ (188 ≤ k ∧ k < 204) → a' k = a k) : RT t g a' := by
  intro i hi
  rw [h 5 (by omega), h 6 (by omega), h (151 + 2 * i) (by omega), h (152 + 2 * i) (by omega), h (188 + 2 * i) (by omega), h (189 + 2 * i) (by omega)]
  exact R i hi
theorem asTold_off {u v td u' v' td' : Nat → Int32} (R : asTold u v td) (hu : ∀ i, i < 74 → u' i = u i) (hv : ∀ i, i < 74 → v' i = v i) (ht : ∀ h, h < 6 → nI h < v 72 → td' h = td h) : asTold u' v' td' := by
  obtain ⟨g1, g2, g3, g4⟩ := R
  unfold asTold
  rw [hu 72 (by omega), hu 73 (by omega), hv 72 (by omega), hv 73 (by omega)]
  refine ⟨g1, g2, ?_, ?_⟩
  · intro k hk h1 h2
    rw [hv k (by omega), hv (6 + k) (by omega), hv (12 + k) (by omega), hv (18 + k) (by omega), ht k hk h2]
    exact g3 k hk h1 h2
  · intro k hk h1 h2
    rw [hv (24 + k) (by omega), hv (29 + k) (by omega), hv (34 + k) (by omega)]
    exact g4 k hk h1 h2
theorem jx_72 : jx 72 = 0 := rfl
theorem jx_73 : jx 73 = 1 := rfl
theorem RS_off {rows : Nat → Int32} {first : Int32} {a a' : Nat → Int32} (R : RS rows first a) (h : ∀ k, k = 4 ∨ (204 ≤ k ∧ k < 2424) → a' k = a k) (ht : ∀ k, k < 6 → nI k < a 0 → a' (15 + 6 * k) = a (15 + 6 * k)) (h0 : a 0 ≤ a' 0) (h1 : a 1 ≤ a' 1) : RS rows first a' := by
  obtain ⟨p, n, q1, q2, q3, q4, q5, q6, q7⟩ := R
  have hj : ∀ j, j < n → ∀ i, i < 74 → a' (204 + 74 * j + i) = a (204 + 74 * j + i) := by
    intro j hj i hi
    exact h _ (Or.inr (by omega))
  have hj2 : ∀ j, j < n → ∀ i, i < 74 → a' (204 + 74 * j + jx i) = a (204 + 74 * j + jx i) := fun j hj1 i hi => hj j hj1 _ (jx_lt i hi)
  refine ⟨p, n, q1, q2, ?_, q4, ?_, ?_, ?_⟩
  · rw [h 4 (by omega)]
    exact q3
  · intro j hj1 i hi
    rw [hj2 j hj1 i hi]
    exact q5 j hj1 i hi
  · intro j hj1
    refine asTold_off (q6 j hj1) (hj2 j (by omega)) (hj2 (j + 1) (by omega)) ?_
    intro k hk hl
    refine ht k hk ?_
    have := (q7 (j + 1) hj1).1
    exact Int32.lt_of_lt_of_le hl this
  · intro j hj1
    have e0 := hj j hj1 0 (by omega)
    have e1 := hj j hj1 1 (by omega)
    rw [show 204 + 74 * j + 0 = 204 + 74 * j by omega] at e0
    rw [show 204 + 74 * j + 1 = 205 + 74 * j by omega] at e1
    rw [e0, e1]
    exact ⟨Int32.le_trans (q7 j hj1).1 h0, Int32.le_trans (q7 j hj1).2 h1⟩
theorem Top_off {a a' : Nat → Int32} (R : Top a) (h : ∀ k, k = 4 ∨ (204 ≤ k ∧ k < 2424) → a' k = a k) (h2 : ∀ i, i < 74 → a' (ix i) = a (ix i)) (ht : ∀ k, k < 6 → nI k < a 0 → a' (15 + 6 * k) = a (15 + 6 * k)) : Top a' := by
  intro n hn e
  rw [h 4 (by omega)] at e
  refine asTold_off (R n hn e) ?_ h2 ht
  intro i hi
  have := jx_lt i hi
  exact h _ (Or.inr (by omega))
/-- the last kept step was kept right ahead -/
def Fresh (a : Nat → Int32) : Prop := ∀ n : Nat, n < 30 → a 4 = nI (n + 1) → a (204 + 74 * n) = a 0 ∧ a (205 + 74 * n) = a 1
theorem Top_fresh {a : Nat → Int32} (h : Fresh a) : Top a := by
  intro n hn e
  obtain ⟨e0, e1⟩ := h n hn e
  have e2 : a (204 + 74 * n + jx 72) = a (ix 72) := e0
  have e3 : a (204 + 74 * n + jx 73) = a (ix 73) := by
    rw [show 204 + 74 * n + jx 73 = 205 + 74 * n by rw [jx_73]; omega]
    exact e1
  refine ⟨?_, ?_, ?_, ?_⟩
  · show a _ ≤ a _
    rw [e2]
    exact Int32.le_refl _
  · show a _ ≤ a _
    rw [e3]
    exact Int32.le_refl _
  · intro k hk h1 h2
    have h1' : a (204 + 74 * n + jx 72) ≤ nI k := h1
    have h2' : nI k < a (ix 72) := h2
    rw [e2] at h1'
    exact absurd h2' (Int32.not_lt.mpr h1')
  · intro k hk h1 h2
    have h1' : a (204 + 74 * n + jx 73) ≤ nI k := h1
    have h2' : nI k < a (ix 73) := h2
    rw [e3] at h1'
    exact absurd h2' (Int32.not_lt.mpr h1')
theorem fr_off {a a' : Nat → Int32} (F : fr a a') {k : Nat} (h : k < 7 ∨ k = 14 ∨ k = 15 ∨ k = 20 ∨ k = 21 ∨ k = 26 ∨ k = 27 ∨ k = 32 ∨ k = 33 ∨ k = 38 ∨ k = 39 ∨ k = 44 ∨ k = 45 ∨ k = 49 ∨ k = 50 ∨ k = 54 ∨ k = 55 ∨ k = 59 ∨ k = 60 ∨ k = 64 ∨ k = 65 ∨ k = 69 ∨ k = 70 ∨ (71 ≤ k ∧ k < 2424) ∨ 2454 ≤ k) : a' k = a k := by
  refine F k ?_
  intro i hi
  have := ix_deed72 i hi
  omega
theorem fr_told {a a' : Nat → Int32} (F : fr a a') {k : Nat} (h : k < 6) : a' (15 + 6 * k) = a (15 + 6 * k) := fr_off F (by omega)
theorem fr_refl (a : Nat → Int32) : fr a a := fun _ _ => rfl
theorem fr_trans {a b c : Nat → Int32} (h : fr a b) (h2 : fr b c) : fr a c := fun k hk => (h2 k hk).trans (h k hk)
theorem fr_upd (a : Nat → Int32) {i : Nat} (hi : i < 72) (v : Int32) : fr a (upd a (ix i) v) := fun k hk => upd_ne _ _ (fun e => hk i hi e.symm)
theorem fr_Fresh {a a' : Nat → Int32} (F : fr a a') (h : Fresh a) : Fresh a' := by
  intro n hn e
  rw [fr_off F (by omega)] at e
  rw [fr_off F (k := 0) (by omega), fr_off F (k := 1) (by omega), fr_off F (by omega), fr_off F (by omega)]
  exact h n hn e
theorem ix_deed : ∀ i, 74 ≤ i → i < 196 → ∀ j, j < 72 → ix j ≠ ix i := by
  intro i h1 h2 j hj e
  have := ix_inj j (by omega) i h2 e
  omega
theorem RC_now {c : CS_c} {a a' : Nat → Int32} {f : Nat → Int32} (R : RC c a) (N : RN f a') (F : fr a a') : RC (f, c.2) a' := by
  refine ⟨N, ?_, ?_, ?_, ?_⟩
  · intro i h1 h2
    have := R.2.1 i h1 h2
    rw [F (ix i) (ix_deed i h1 h2)]
    exact this
  · refine RT_off R.2.2.1 ?_
    intro k hk
    exact fr_off F (by omega)
  · refine RS_off R.2.2.2.1 ?_ ?_ ?_ ?_
    · intro k hk
      exact fr_off F (by omega)
    · intro k hk _
      exact fr_told F hk
    · rw [fr_off F (k := 0) (by omega)]
      exact Int32.le_refl _
    · rw [fr_off F (k := 1) (by omega)]
      exact Int32.le_refl _
  · rw [fr_off F (k := 3) (by omega), fr_off F (k := 2) (by omega)]
    exact R.2.2.2.2
theorem sC_refl (S : CS) : sC S S := ⟨rfl, rfl, rfl, rfl, rfl⟩
theorem sM_refl (S : MS) : sM S S := ⟨rfl, rfl, rfl, rfl, rfl, rfl, rfl, rfl⟩
theorem sC_trans {S T U : CS} (h : sC S T) (g : sC T U) : sC S U := ⟨g.1.trans h.1, g.2.1.trans h.2.1, g.2.2.1.trans h.2.2.1, g.2.2.2.1.trans h.2.2.2.1, g.2.2.2.2.trans h.2.2.2.2⟩
theorem sM_trans {S T U : MS} (h : sM S T) (g : sM T U) : sM S U := ⟨g.1.trans h.1, g.2.1.trans h.2.1, g.2.2.1.trans h.2.2.1, g.2.2.2.1.trans h.2.2.2.1, g.2.2.2.2.1.trans h.2.2.2.2.1, g.2.2.2.2.2.1.trans h.2.2.2.2.2.1, g.2.2.2.2.2.2.1.trans h.2.2.2.2.2.2.1, g.2.2.2.2.2.2.2.trans h.2.2.2.2.2.2.2⟩
theorem dC_refl (S : CS) : dC S S := ⟨rfl, rfl, rfl, rfl, rfl⟩
theorem dM_refl (S : MS) : dM S S := ⟨rfl, rfl, rfl, rfl, rfl, rfl, rfl⟩
theorem dC_trans {S T U : CS} (h : dC S T) (g : dC T U) : dC S U := ⟨g.1.trans h.1, g.2.1.trans h.2.1, g.2.2.1.trans h.2.2.1, g.2.2.2.1.trans h.2.2.2.1, g.2.2.2.2.trans h.2.2.2.2⟩
theorem dM_trans {S T U : MS} (h : dM S T) (g : dM T U) : dM S U := ⟨g.1.trans h.1, g.2.1.trans h.2.1, g.2.2.1.trans h.2.2.1, g.2.2.2.1.trans h.2.2.2.1, g.2.2.2.2.1.trans h.2.2.2.2.1, g.2.2.2.2.2.1.trans h.2.2.2.2.2.1, g.2.2.2.2.2.2.trans h.2.2.2.2.2.2⟩
theorem sC_d {S T : CS} (h : sC S T) : dC S T := ⟨congrArg (fun c : CS_c => c.2) h.1, h.2.1, h.2.2.1, h.2.2.2⟩
theorem sM_d {S T : MS} (h : sM S T) : dM S T := h.2
theorem sC_now {S T : CS} (h : sC S T) : cx_c_now T = cx_c_now S := congrArg (fun c : CS_c => c.1) h.1
theorem dC_s {S T : CS} (h : dC S T) (e : cx_c_now T = cx_c_now S) : sC S T := ⟨Prod.ext e h.1, h.2.1, h.2.2.1, h.2.2.2⟩
theorem Rel0_s {cs cs' : CS} {ms ms' : MS} (R : Rel0 cs ms) (h : sC cs cs') (g : sM ms ms') : Rel0 cs' ms' := by
  unfold Rel0 at R ⊢
  rw [h.1, h.2.1, h.2.2.1, h.2.2.2.1, g.1, g.2.1, g.2.2.1, g.2.2.2.1, g.2.2.2.2.1, g.2.2.2.2.2.1, g.2.2.2.2.2.2.1]
  exact R
theorem Rel_s {cs cs' : CS} {ms ms' : MS} (R : Rel cs ms) (h : sC cs cs') (g : sM ms ms') : Rel cs' ms' := by
  refine ⟨Rel0_s R.1 h g, ?_⟩
  rw [g.1]
  exact R.2
theorem Rel0_d {cs cs' : CS} {ms ms' : MS} (R : Rel0 cs ms) (h : dC cs cs') (g : dM ms ms') (N : RN (cx_c_now cs') (ms_a ms')) (F : fr (ms_a ms) (ms_a ms')) : Rel0 cs' ms' := by
  unfold Rel0 RelV at R ⊢
  obtain ⟨r1, r2, r3, r4, r5⟩ := R
  have e : cs'.1 = (cx_c_now cs', cs.1.2) := Prod.ext rfl h.1
  rw [h.2.1, h.2.2.1, h.2.2.2.1, g.1, g.2.1, g.2.2.1, g.2.2.2.1, g.2.2.2.2.1, g.2.2.2.2.2.1, e]
  exact ⟨RC_now r1 N F, r2, r3, r4, r5⟩
