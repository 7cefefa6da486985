/-! PURE LAYER: matched -/
def mtF (H t : Nat) : Nat := upf (fun h n => if hasI t h = 0 then n + 1 else n) H 0 0
theorem mt_t1 : ∀ H, H < 7 → ∀ t, t < 64 → ∀ h, h < H → hasI t h = 0 → mtF H (t ||| 2 ^ h) + 1 = mtF H t ∧ t ||| 2 ^ h < 64 := by decide +kernel
theorem mt_t2 : ∀ H, H < 7 → mtF H 0 = H := by decide +kernel
theorem mt_t3 : ∀ t, t < 64 → ∀ h, h < 6 → hasI t h = 0 ∨ hasI t h = 1 := by decide +kernel
theorem mt_t4 : ∀ H, H < 7 → ∀ t, t < 64 → mtF H t ≤ 6 ∧ (0 < mtF H t → ∃ h, h < H ∧ hasI t h = 0) := by decide +kernel
theorem mt_t5 : ∀ t, t < 64 → ∀ h, h < 6 → t ||| 2 ^ h < 64 := by decide +kernel
def mtV (H : Nat) (w : Nat → Nat → Nat) : Nat → Nat → Nat → Nat
  | 0, _, _ => 0
  | k + 1, c, t => upf (fun h m => if hasI t h = 0 then (if w c h + mtV H w k (c + 1) (t ||| 2 ^ h) < m then w c h + mtV H w k (c + 1) (t ||| 2 ^ h) else m) else m) H 0 (mtV H w k (c + 1) t + (if k + 1 ≤ mtF H t then 10000 else 0))
def mtX (H : Nat) (w : Nat → Nat → Nat) (k c t h : Nat) : Nat := w c h + mtV H w k (c + 1) (t ||| 2 ^ h)
def mtI (H : Nat) (w : Nat → Nat → Nat) (k c t : Nat) : Nat := mtV H w k (c + 1) t + (if k + 1 ≤ mtF H t then 10000 else 0)
def mtS (H : Nat) (w : Nat → Nat → Nat) (k c t h m : Nat) : Nat := if hasI t h = 0 then (if mtX H w k c t h < m then mtX H w k c t h else m) else m
theorem mtV_s (H : Nat) (w : Nat → Nat → Nat) (k c t : Nat) : mtV H w (k + 1) c t = upf (mtS H w k c t) H 0 (mtI H w k c t) := rfl
theorem mtV_spec (H : Nat) (w : Nat → Nat → Nat) (k c t : Nat) : mtV H w (k + 1) c t ≤ mtI H w k c t ∧ (∀ h, h < H → hasI t h = 0 → mtV H w (k + 1) c t ≤ mtX H w k c t h) ∧ (mtV H w (k + 1) c t = mtI H w k c t ∨ ∃ h, h < H ∧ hasI t h = 0 ∧ mtX H w k c t h = mtV H w (k + 1) c t) := by
  rw [mtV_s]
  refine upf_I (mtS H w k c t) (fun i m => m ≤ mtI H w k c t ∧ (∀ h, h < i → hasI t h = 0 → m ≤ mtX H w k c t h) ∧ (m = mtI H w k c t ∨ ∃ h, h < i ∧ hasI t h = 0 ∧ mtX H w k c t h = m)) H ?_ H 0 _ (by omega) ⟨Nat.le_refl _, fun h hh => absurd hh (Nat.not_lt_zero h), Or.inl rfl⟩
  intro i m hi I
  obtain ⟨i1, i2, i3⟩ := I
  have skip : ∀ m' : Nat, m' = m → (hasI t i = 0 → m ≤ mtX H w k c t i) → m' ≤ mtI H w k c t ∧ (∀ h, h < i + 1 → hasI t h = 0 → m' ≤ mtX H w k c t h) ∧ (m' = mtI H w k c t ∨ ∃ h, h < i + 1 ∧ hasI t h = 0 ∧ mtX H w k c t h = m') := by
    intro m' e hle
    subst e
    refine ⟨i1, ?_, ?_⟩
    · intro h hh h0
      by_cases e : h = i
      · rw [e] at h0 ⊢
        exact hle h0
      · exact i2 h (by omega) h0
    · rcases i3 with q | ⟨h, q1, q2, q3⟩
      · exact Or.inl q
      · exact Or.inr ⟨h, by omega, q2, q3⟩
  show mtS H w k c t i m ≤ _ ∧ _
  by_cases c0 : hasI t i = 0
  · by_cases c1 : mtX H w k c t i < m
    · have e : mtS H w k c t i m = mtX H w k c t i := by
        unfold mtS
        rw [if_pos c0, if_pos c1]
      rw [e]
      refine ⟨by omega, ?_, Or.inr ⟨i, by omega, c0, rfl⟩⟩
      intro h hh h0
      by_cases e : h = i
      · rw [e]
        exact Nat.le_refl _
      · have := i2 h (by omega) h0
        omega
    · refine skip _ ?_ (fun _ => by omega)
      unfold mtS
      rw [if_pos c0, if_neg c1]
  · refine skip _ ?_ (fun q => absurd q c0)
    unfold mtS
    rw [if_neg c0]
def mtO (w : Nat → Nat → Nat) : Prop := ∀ c, c < 5 → ∀ h, h < 6 → w c h ≤ 99
theorem mtV_bd {H : Nat} (hH : H < 7) {w : Nat → Nat → Nat} (hw : mtO w) : ∀ k c t, c + k ≤ 5 → t < 64 → mtV H w k c t ≤ 99 * k := by
  intro k
  induction k with
  | zero => intro c t _ _; exact Nat.le_refl _
  | succ k ih =>
    intro c t hc ht
    obtain ⟨s1, s2, s3⟩ := mtV_spec H w k c t
    by_cases e : k + 1 ≤ mtF H t
    · obtain ⟨h, hh, h0⟩ := (mt_t4 H hH t ht).2 (by omega)
      have a := s2 h hh h0
      have b := ih (c + 1) (t ||| 2 ^ h) (by omega) (mt_t1 H hH t ht h hh h0).2
      have d := hw c (by omega) h (by omega)
      unfold mtX at a
      omega
    · have b := ih (c + 1) t (by omega) ht
      unfold mtI at s1
      rw [if_neg e] at s1
      omega
def fstI (q : Nat → Bool) : Nat → Nat → Int32
  | 0, _ => -1
  | d + 1, i => if q i = true then nI i else fstI q d (i + 1)
theorem fstI_spec (q : Nat → Bool) : ∀ d i, (∃ h, i ≤ h ∧ h < i + d ∧ q h = true ∧ (∀ j, i ≤ j → j < h → ¬ q j = true) ∧ fstI q d i = nI h) ∨ ((∀ h, i ≤ h → h < i + d → ¬ q h = true) ∧ fstI q d i = -1) := by
  intro d
  induction d with
  | zero =>
    intro i
    exact Or.inr ⟨fun h h1 h2 => by omega, rfl⟩
  | succ d ih =>
    intro i
    by_cases c : q i = true
    · refine Or.inl ⟨i, Nat.le_refl _, by omega, c, fun j h1 h2 => by omega, ?_⟩
      unfold fstI
      rw [if_pos c]
    · have e : fstI q (d + 1) i = fstI q d (i + 1) := by
        show (if q i = true then nI i else fstI q d (i + 1)) = _
        rw [if_neg c]
      rw [e]
      rcases ih (i + 1) with ⟨h, h1, h2, h3, h4, h5⟩ | ⟨h1, h2⟩
      · refine Or.inl ⟨h, by omega, by omega, h3, ?_, h5⟩
        intro j j1 j2
        by_cases e : j = i
        · rw [e]
          exact c
        · exact h4 j (by omega) j2
      · refine Or.inr ⟨?_, h2⟩
        intro h j1 j2
        by_cases e : h = i
        · rw [e]
          exact c
        · exact h1 h (by omega) (by omega)
def mtQ (H : Nat) (w : Nat → Nat → Nat) (k c t h : Nat) : Bool := decide (hasI t h = 0 ∧ mtX H w k c t h = mtV H w (k + 1) c t)
def mtC (H : Nat) (w : Nat → Nat → Nat) (k c t : Nat) : Int32 := fstI (mtQ H w k c t) H 0
def mtN (t : Nat) (x : Int32) : Nat := if x = -1 then t else t ||| 2 ^ x.toNatClampNeg
def mtW (H : Nat) (w : Nat → Nat → Nat) : Nat → Nat → Nat → Nat → Int32
  | 0, _, _, _ => -1
  | k + 1, c, t, j => if j = c then mtC H w k c t else mtW H w k (c + 1) (mtN t (mtC H w k c t)) j
theorem nI_nm1 {n : Nat} (h : n < 2 ^ 31) : ¬ nI n = -1 := by
  intro e
  have := nI_pos' h
  rw [e] at this
  exact absurd this (by decide)
theorem mtN_h {t h : Nat} (hh : h < 2 ^ 31) : mtN t (nI h) = t ||| 2 ^ h := by
  unfold mtN
  rw [if_neg (nI_nm1 hh), nI_clamp hh]
theorem mtN_n (t : Nat) : mtN t (-1) = t := if_pos rfl
/-- the first house by which the least is come to -/
theorem mtC_h {H : Nat} (hH : H < 7) {w : Nat → Nat → Nat} {k c t h : Nat} (hh : h < H) (h0 : hasI t h = 0) (hm : mtX H w k c t h = mtV H w (k + 1) c t) (hf : ∀ j, j < h → hasI t j = 0 → mtV H w (k + 1) c t < mtX H w k c t j) : mtC H w k c t = nI h := by
  rcases fstI_spec (mtQ H w k c t) H 0 with ⟨g, g1, g2, g3, g4, g5⟩ | ⟨g1, g2⟩
  · have q := of_decide_eq_true g3
    have e : g = h := by
      by_cases lt : g < h
      · have := hf g lt q.1
        omega
      · by_cases e : h < g
        · exact absurd (decide_eq_true ⟨h0, hm⟩) (g4 h (by omega) e)
        · omega
    rw [← e]
    exact g5
  · exact absurd (decide_eq_true ⟨h0, hm⟩) (g1 h (by omega) (by omega))
theorem mtC_n {H : Nat} {w : Nat → Nat → Nat} {k c t : Nat} (hn : ∀ h, h < H → hasI t h = 0 → mtV H w (k + 1) c t < mtX H w k c t h) : mtC H w k c t = -1 := by
  rcases fstI_spec (mtQ H w k c t) H 0 with ⟨g, g1, g2, g3, g4, g5⟩ | ⟨g1, g2⟩
  · have q := of_decide_eq_true g3
    have := hn g (by omega) q.1
    omega
  · exact g2
theorem mtC_or {H : Nat} (hH : H < 7) (w : Nat → Nat → Nat) {k c t : Nat} (ht : t < 64) : mtN t (mtC H w k c t) < 64 ∧ (mtC H w k c t = -1 ∨ ∃ h, h < H ∧ mtC H w k c t = nI h) := by
  rcases fstI_spec (mtQ H w k c t) H 0 with ⟨g, g1, g2, g3, g4, g5⟩ | ⟨g1, g2⟩
  · have e : mtC H w k c t = nI g := g5
    rw [e, mtN_h (by omega)]
    exact ⟨mt_t5 t ht g (by omega), Or.inr ⟨g, by omega, rfl⟩⟩
  · have e : mtC H w k c t = -1 := g2
    rw [e, mtN_n]
    exact ⟨ht, Or.inl rfl⟩
/-! the reference -/
def mtM (H k t : Nat) : Nat := if k ≤ mtF H t then k else mtF H t
def mtG (H : Nat) (w : Nat → Nat → Nat) (k c t : Nat) : Int32 := nI (mtV H w k c t) - nI (10000 * mtM H k t)
theorem sub_le {a b K : Nat} (ha : a ≤ 50000) (hb : b ≤ 50000) (hK : K ≤ 100000) : (nI a - nI K ≤ nI b - nI K) = (a ≤ b) := by
  have e1 : (nI a - nI K).toInt = (a : Int) - K := by
    rw [Int32.toInt_sub, nI_toInt (by omega), nI_toInt (by omega), Int.bmod_eq_of_le (by omega) (by omega)]
  have e2 : (nI b - nI K).toInt = (b : Int) - K := by
    rw [Int32.toInt_sub, nI_toInt (by omega), nI_toInt (by omega), Int.bmod_eq_of_le (by omega) (by omega)]
  apply propext
  rw [Int32.le_iff_toInt_le, e1, e2]
  omega
theorem sub_eq {a b K : Nat} (ha : a ≤ 50000) (hb : b ≤ 50000) (hK : K ≤ 100000) : (nI a - nI K = nI b - nI K) = (a = b) := by
  apply propext
  constructor
  · intro h
    have h1 := Int32.le_of_eq h
    have h2 := Int32.le_of_eq h.symm
    rw [sub_le ha hb hK] at h1
    rw [sub_le hb ha hK] at h2
    omega
  · intro h
    rw [h]
theorem ch_t1 (S : MS) (f : Nat → Int32) : ms_a (ms_set_cheap S f) = ms_a S := by
  simp only [ms_a, ms_set_cheap]
theorem ch_t2 (S : MS) (f : Nat → Int32) : ms_cheap (ms_set_cheap S f) = f := by
  simp only [ms_cheap, ms_set_cheap]
theorem ch_t3 (S : MS) (f g : Nat → Int32) : ms_set_cheap (ms_set_cheap S f) g = ms_set_cheap S g := by
  simp only [ms_set_cheap]
theorem ch_eM (S : MS) (f : Nat → Int32) : eM S (ms_set_cheap S f) := by
  refine ⟨?_, ?_, ?_, ?_, ?_, ?_⟩ <;> simp only [ms_image, ms_texts, ms_tape, ms_taped, ms_fault, ms_faultPlace, ms_set_cheap]
def costsAre (w : Nat → Nat → Nat) (a : Nat → Int32) : Prop := ∀ c, c < 5 → ∀ h, h < 6 → a (121 + (6 * c + h)) = nI (w c h)
/-- what going to a house comes to -/
theorem m_going {ms : MS} {H : Nat} (hH : H < 7) {w : Nat → Nat → Nat} (hc : costsAre w (ms_a ms)) {g : Nat → Int32} {k c t h : Nat} (hck : c + (k + 1) ≤ 5) (ht : t < 64) (hh : h < H) (h0 : hasI t h = 0) (hg : g (64 * (c + 1) + (t ||| 2 ^ h)) = mtG H w k (c + 1) (t ||| 2 ^ h)) (post : Int32 → MS → Prop) (hp : post (nI (mtX H w k c t h) - nI (10000 * mtM H (k + 1) t)) (ms_set_cheap ms g)) : wM_goingTo (nI c) (nI h) (nI t) (ms_set_cheap ms g) post := by
  obtain ⟨t1, t2⟩ := mt_t1 H hH t ht h hh h0
  unfold wM_goingTo
  rw [nI_lm 6 c, nI_la 121 (6 * c), nI_add, nI_1, nI_lm 64 (c + 1), nI_shl h (by omega), nI_or, nI_add, nI_clamp (by omega), nI_clamp (by omega), ch_t1, ch_t2, hg, Nat.add_assoc, hc c (by omega) h (by omega)]
  refine ⟨vp_in_nI (by omega) (by decide), vp_in_nI (by omega) (by decide), ?_⟩
  have e : (nI (w c h) - 10000) + mtG H w k (c + 1) (t ||| 2 ^ h) = nI (mtX H w k c t h) - nI (10000 * mtM H (k + 1) t) := by
    have em : mtM H (k + 1) t = mtM H k (t ||| 2 ^ h) + 1 := by
      unfold mtM
      split <;> split <;> omega
    unfold mtG mtX
    rw [em, Nat.mul_add, ← nI_add, ← nI_add]
    show (nI (w c h) - nI 10000) + _ = nI (w c h) + nI _ - (_ + nI 10000)
    generalize nI (w c h) = x
    generalize nI (mtV H w k (c + 1) (t ||| 2 ^ h)) = y
    generalize nI (10000 * mtM H k (t ||| 2 ^ h)) = z
    generalize nI 10000 = u
    grind
  rw [e]
  exact hp
theorem m_hasT {t h : Nat} (ht : t < 64) (hh : h < 6) (S : MS) (post : Int32 → MS → Prop) (h1 : hasI t h = 0 → post 0 S) (h2 : ¬ hasI t h = 0 → post 1 S) : wM_has (nI t) (nI h) S post := by
  unfold wM_has
  refine p_two (fun c => ?_) (fun c => ?_)
  · refine h2 (fun q => ?_)
    have c' : hasI t h = 1 := c
    rw [q] at c'
    exact absurd c' (by decide)
  · refine h1 ?_
    rcases mt_t3 t ht h hh with q | q
    · exact q
    · exact absurd q c
def GoodC (H : Nat) (w : Nat → Nat → Nat) (C m : Nat) (g : Nat → Int32) : Prop := ∀ c, m ≤ c → c ≤ C → ∀ t, t < 64 → g (64 * c + t) = mtG H w (C - c) c t
theorem mtV_lim {H : Nat} (hH : H < 7) {w : Nat → Nat → Nat} (hw : mtO w) {k c t : Nat} (hck : c + (k + 1) ≤ 5) (ht : t < 64) : mtI H w k c t ≤ 20000 ∧ (∀ h, h < H → hasI t h = 0 → mtX H w k c t h ≤ 20000) := by
  constructor
  · unfold mtI
    have := mtV_bd hH hw k (c + 1) t (by omega) ht
    split <;> omega
  · intro h hh h0
    have a := mtV_bd hH hw k (c + 1) (t ||| 2 ^ h) (by omega) (mt_t1 H hH t ht h hh h0).2
    have b := hw c (by omega) h (by omega)
    unfold mtX
    omega
theorem mtM_lim {H : Nat} (k t : Nat) (hk : k ≤ 5) : 10000 * mtM H k t ≤ 100000 := by
  unfold mtM
  split <;> omega
theorem mtI_G {H : Nat} (w : Nat → Nat → Nat) (k c t : Nat) : mtG H w k (c + 1) t = nI (mtI H w k c t) - nI (10000 * mtM H (k + 1) t) := by
  unfold mtG mtI
  by_cases e : k + 1 ≤ mtF H t
  · rw [if_pos e]
    have e1 : mtM H (k + 1) t = k + 1 := if_pos e
    have e2 : mtM H k t = k := if_pos (by omega)
    rw [e1, e2, Nat.mul_add, ← nI_add, ← nI_add, Nat.mul_one]
    generalize nI (mtV H w k (c + 1) t) = y
    generalize nI (10000 * k) = z
    generalize nI 10000 = u
    grind
  · have e1 : mtM H (k + 1) t = mtF H t := if_neg e
    have e2 : mtM H k t = mtF H t := by
      unfold mtM
      split <;> omega
    rw [if_neg e, e1, e2]
    rfl
theorem ch_in {ms : MS} {H C : Nat} (hH : H < 7) (hC : C ≤ 5) (e0 : ms_a ms 0 = nI H) {w : Nat → Nat → Nat} (hw : mtO w) (hc : costsAre w (ms_a ms)) {g : Nat → Int32} {k c t : Nat} (hck : c + (k + 1) = C) (ht : t < 64) (hg : GoodC H w C (c + 1) g) (post : MS → Prop) (K40 : Int32 → MS → Prop) (K46 : Int32 → Int32 → MS → Prop) (hp : K46 (nI c) (nI (t + 1)) (ms_set_cheap ms (upd g (64 * c + t) (mtG H w (k + 1) c t)))) : wM_layCheap_69 post K40 K46 (H + 1) (nI c) (nI t) (g (64 * (c + 1) + t)) 0 (ms_set_cheap ms g) := by
  obtain ⟨l1, l2⟩ := mtV_lim hH hw (k := k) (c := c) (t := t) (by omega) ht
  have lM := mtM_lim (H := H) (k + 1) t (by omega)
  have ek : C - (c + 1) = k := by omega
  have ei : g (64 * (c + 1) + t) = nI (mtI H w k c t) - nI (10000 * mtM H (k + 1) t) := by
    rw [hg (c + 1) (by omega) (by omega) t ht, ek]
    exact mtI_G w k c t
  rw [ei]
  have hp' : K46 (nI c) (nI (t + 1)) (ms_set_cheap ms (upd g (64 * c + t) (nI (upf (mtS H w k c t) H 0 (mtI H w k c t)) - nI (10000 * mtM H (k + 1) t)))) := hp
  refine up_loopI (fun n m i => wM_layCheap_69 post K40 K46 n (nI c) (nI t) (nI m - nI (10000 * mtM H (k + 1) t)) i (ms_set_cheap ms g)) (mtS H w k c t) (fun m => K46 (nI c) (nI (t + 1)) (ms_set_cheap ms (upd g (64 * c + t) (nI m - nI (10000 * mtM H (k + 1) t))))) (fun _ m => m ≤ 20000) H ?_ ?_ ?_ H 0 _ (by omega) l1 hp'
  · intro i m hi hm
    unfold mtS
    split
    · rename_i c0
      split
      · exact l2 i hi c0
      · exact hm
    · exact hm
  · intro n m hm q
    show wM_layCheap_69 post K40 K46 (n + 1) (nI c) (nI t) (nI m - nI (10000 * mtM H (k + 1) t)) (nI H) (ms_set_cheap ms g)
    rw [wM_layCheap_69, ch_t1, e0]
    refine p_yes (Int32.le_refl _) ?_
    rw [nI_lm 64 c, nI_add, nI_1, nI_clamp (by omega), p_all, ch_t2, ch_t3]
    exact ⟨vp_in_nI (by omega) (by decide), q⟩
  · intro n i m hi hm q
    have q' : wM_layCheap_69 post K40 K46 n (nI c) (nI t) (nI (mtS H w k c t i m) - nI (10000 * mtM H (k + 1) t)) (nI (i + 1)) (ms_set_cheap ms g) := q
    show wM_layCheap_69 post K40 K46 (n + 1) (nI c) (nI t) (nI m - nI (10000 * mtM H (k + 1) t)) (nI i) (ms_set_cheap ms g)
    rw [wM_layCheap_69, ch_t1, e0, nI_1 i]
    refine p_no (nI_ge hi (by omega)) (m_hasT ht (by omega) _ _ (fun c0 => p_yes rfl ?_) (fun c0 => p_no (by decide) ?_))
    · have hgo : ∀ post2 : Int32 → MS → Prop, post2 (nI (mtX H w k c t i) - nI (10000 * mtM H (k + 1) t)) (ms_set_cheap ms g) → wM_goingTo (nI c) (nI i) (nI t) (ms_set_cheap ms g) post2 := fun post2 h => m_going hH hc (by omega) ht hi c0 (by rw [hg (c + 1) (by omega) (by omega) _ (mt_t1 H hH t ht i hi c0).2, ek]) post2 h
      refine hgo _ ?_
      rw [sub_le (by omega) (by have := l2 i hi c0; omega) lM]
      unfold mtS at q'
      rw [if_pos c0] at q'
      refine p_two (fun le => ?_) (fun le => hgo _ ?_)
      · rw [if_neg (by omega)] at q'
        exact q'
      · rw [if_pos (by omega)] at q'
        exact q'
    · unfold mtS at q'
      rw [if_neg c0] at q'
      exact q'
theorem ch_mid {ms : MS} {H C : Nat} (hH : H < 7) (hC : C ≤ 5) (e0 : ms_a ms 0 = nI H) {w : Nat → Nat → Nat} (hw : mtO w) (hc : costsAre w (ms_a ms)) {k c : Nat} (hck : c + (k + 1) = C) : ∀ (d t : Nat) (g : Nat → Int32), t + d = 64 → GoodC H w C (c + 1) g → (∀ t', t' < t → g (64 * c + t') = mtG H w (k + 1) c t') → ∃ g' : Nat → Int32, GoodC H w C c g' ∧ ∀ (post : MS → Prop) (K40 : Int32 → MS → Prop), K40 (nI c + (-1)) (ms_set_cheap ms g') → wM_layCheap_46 post K40 (d + 1) (nI c) (nI t) (ms_set_cheap ms g) := by
  intro d
  induction d with
  | zero =>
    intro t g e hg hd
    have et : t = 64 := by omega
    subst et
    refine ⟨g, ?_, ?_⟩
    · intro c' h1 h2 t ht
      by_cases e : c' = c
      · rw [e, show C - c = k + 1 by omega]
        exact hd t ht
      · exact hg c' (by omega) h2 t ht
    · intro post K40 hp
      rw [wM_layCheap_46]
      exact p_yes (by decide) hp
  | succ d ih =>
    intro t g e hg hd
    obtain ⟨g', hg', h⟩ := ih (t + 1) (upd g (64 * c + t) (mtG H w (k + 1) c t)) (by omega) (by
      intro c' h1 h2 t' ht'
      rw [upd_ne _ _ (by omega)]
      exact hg c' h1 h2 t' ht') (by
      intro t' ht'
      by_cases e : t' = t
      · rw [e, upd_eq]
      · rw [upd_ne _ _ (by omega)]
        exact hd t' (by omega))
    refine ⟨g', hg', ?_⟩
    intro post K40 hp
    rw [wM_layCheap_46, nI_1, nI_lm 64 (c + 1), nI_add, nI_clamp (by omega), ch_t2]
    refine p_no (nI_ge (b := 64) (by omega) (by decide)) ⟨vp_in_nI (by omega) (by decide), H + 1, ?_⟩
    exact ch_in hH hC e0 hw hc hck (by omega) hg post K40 _ (h post K40 hp)
theorem ch_out {ms : MS} {H C : Nat} (hH : H < 7) (hC : C ≤ 5) (e0 : ms_a ms 0 = nI H) {w : Nat → Nat → Nat} (hw : mtO w) (hc : costsAre w (ms_a ms)) : ∀ (m : Nat) (g : Nat → Int32), m ≤ C → GoodC H w C m g → ∃ g' : Nat → Int32, GoodC H w C 0 g' ∧ ∀ post : MS → Prop, post (ms_set_cheap ms g') → wM_layCheap_40 post (m + 1) (nI m + (-1)) (ms_set_cheap ms g) := by
  intro m
  induction m with
  | zero =>
    intro g _ hg
    refine ⟨g, hg, ?_⟩
    intro post hp
    rw [wM_layCheap_40]
    exact p_yes (by decide) hp
  | succ m ih =>
    intro g hm hg
    obtain ⟨g1, hg1, h1⟩ := ch_mid hH hC e0 hw hc (k := C - m - 1) (c := m) (by omega) 64 0 g (by omega) hg (fun t' ht' => absurd ht' (Nat.not_lt_zero _))
    obtain ⟨g', hg', h⟩ := ih g1 (by omega) hg1
    refine ⟨g', hg', ?_⟩
    intro post hp
    rw [wM_layCheap_40, nI_m1]
    exact p_no (nI_pos (by omega)) ⟨65, h1 post _ (h post hp)⟩
theorem ch_first {ms : MS} {C : Nat} (hC : C ≤ 5) (e1 : ms_a ms 1 = nI C) : ∀ (d t : Nat) (g : Nat → Int32), t + d = 64 → (∀ t', t' < t → g (64 * C + t') = 0) → ∃ g' : Nat → Int32, (∀ t', t' < 64 → g' (64 * C + t') = 0) ∧ ∀ post : MS → Prop, (∃ k_ : Nat, wM_layCheap_40 post k_ (nI C + (-1)) (ms_set_cheap ms g')) → wM_layCheap_2 post (d + 1) (nI t) (ms_set_cheap ms g) := by
  intro d
  induction d with
  | zero =>
    intro t g e hg
    have et : t = 64 := by omega
    subst et
    refine ⟨g, hg, ?_⟩
    intro post q
    rw [wM_layCheap_2, ch_t1, e1]
    refine p_yes (by decide) ?_
    rw [Int32.sub_eq_add_neg]
    exact q
  | succ d ih =>
    intro t g e hg
    obtain ⟨g', hg', h⟩ := ih (t + 1) (upd g (64 * C + t) 0) (by omega) (by
      intro t' ht'
      by_cases e : t' = t
      · rw [e, upd_eq]
      · rw [upd_ne _ _ (by omega)]
        exact hg t' (by omega))
    refine ⟨g', hg', ?_⟩
    intro post q
    rw [wM_layCheap_2, ch_t1, e1, nI_1, nI_lm 64 C, nI_add, nI_clamp (by omega), p_all, ch_t2, ch_t3]
    exact p_no (nI_ge (b := 64) (by omega) (by decide)) ⟨vp_in_nI (by omega) (by decide), h post q⟩
theorem ch_id (S : MS) : ms_set_cheap S (ms_cheap S) = S := rfl
theorem m_layCheap {ms : MS} {H C : Nat} (hH : H < 7) (hC : C ≤ 5) (e0 : ms_a ms 0 = nI H) (e1 : ms_a ms 1 = nI C) {w : Nat → Nat → Nat} (hw : mtO w) (hc : costsAre w (ms_a ms)) : ∃ g : Nat → Int32, GoodC H w C 0 g ∧ rv (wM_layCheap ms) (ms_set_cheap ms g) := by
  obtain ⟨g1, hg1, h1⟩ := ch_first hC e1 64 0 (ms_cheap ms) (by omega) (fun t' ht' => absurd ht' (Nat.not_lt_zero _))
  obtain ⟨g, hg, h⟩ := ch_out hH hC e0 hw hc C g1 (Nat.le_refl _) (by
    intro c a1 a2 t ht
    have e : c = C := by omega
    subst e
    rw [hg1 t ht, Nat.sub_self]
    show (0 : Int32) = nI 0 - nI (10000 * mtM H 0 t)
    have : mtM H 0 t = 0 := if_pos (Nat.zero_le _)
    rw [this]
    decide)
  refine ⟨g, hg, ?_⟩
  intro post hp
  have q := h1 post ⟨C + 1, h post hp⟩
  rw [ch_id] at q
  exact ⟨65, q⟩
