/-! PURE LAYER: lessons -/
def okL (x L f : Nat) : Bool := decide (hasI L f = 0 ∧ (nI x &&& (nI L ^^^ (-1))) = 0)
theorem ls_t1 : ∀ L, L < 32 → ∀ f, f < 5 → ∀ g, g < 5 → g ≠ f → hasI (L ||| 2 ^ g) f = hasI L f := by decide +kernel
theorem ls_t2 : ∀ x, x < 32 → ∀ L, L < 32 → ∀ g, g < 5 → (nI x &&& (nI L ^^^ (-1))) = 0 → (nI x &&& (nI (L ||| 2 ^ g) ^^^ (-1))) = 0 := by decide +kernel
theorem ls_t3 : ∀ L, L < 32 → ∀ f, f < 5 → hasI L f = 0 → popN (L ||| 2 ^ f) = popN L + 1 ∧ L ||| 2 ^ f < 32 ∧ L < L ||| 2 ^ f := by decide +kernel
theorem ls_t4 : ∀ L, L < 32 → popN L ≤ 5 ∧ (popN L = 5 → L = 31) ∧ (L = 31 → popN L = 5) := by decide +kernel
theorem ls_t5 : ∀ L, L < 32 → ∀ f, f < 5 → hasI L f = 0 ∨ hasI L f = 1 := by decide +kernel
theorem ls_t6 : ∀ L, L < 32 → ∀ f, f < 5 → ∀ g, g < 5 → (L ||| 2 ^ f) ||| 2 ^ g = (L ||| 2 ^ g) ||| 2 ^ f := by decide +kernel
theorem ok_has {x L f : Nat} (h : okL x L f = true) : hasI L f = 0 := (of_decide_eq_true h).1
theorem ok_more {x L f g : Nat} (hx : x < 32) (hL : L < 32) (hf : f < 5) (hg : g < 5) (n : g ≠ f) (h : okL x L f = true) : okL x (L ||| 2 ^ g) f = true := by
  have q := of_decide_eq_true h
  refine decide_eq_true ⟨?_, ls_t2 x hx L hL g hg q.2⟩
  rw [ls_t1 L hL f hf g hg n]
  exact q.1
def leV (b : Nat → Nat) : Nat → Nat → Nat
  | 0, _ => 1
  | k + 1, L => upf (fun i v => v + (if okL (b i) L i = true then leV b k (L ||| 2 ^ i) else 0)) 5 0 0
theorem leV_sum (b : Nat → Nat) (k L : Nat) : leV b (k + 1) L = 0 + (if okL (b 0) L 0 = true then leV b k (L ||| 2 ^ 0) else 0) + (if okL (b 1) L 1 = true then leV b k (L ||| 2 ^ 1) else 0) + (if okL (b 2) L 2 = true then leV b k (L ||| 2 ^ 2) else 0) + (if okL (b 3) L 3 = true then leV b k (L ||| 2 ^ 3) else 0) + (if okL (b 4) L 4 = true then leV b k (L ||| 2 ^ 4) else 0) := rfl
theorem leV_bd (b : Nat → Nat) : ∀ k L, leV b k L ≤ 5 ^ k := by
  intro k
  induction k with
  | zero => intro L; exact Nat.le_refl _
  | succ k ih =>
    intro L
    have t : ∀ i, (if okL (b i) L i = true then leV b k (L ||| 2 ^ i) else 0) ≤ 5 ^ k := by
      intro i
      split
      · exact ih _
      · exact Nat.zero_le _
    have t0 := t 0
    have t1 := t 1
    have t2 := t 2
    have t3 := t 3
    have t4 := t 4
    have e5 : (5 : Nat) ^ (k + 1) = 5 ^ k * 5 := Nat.pow_succ 5 k
    rw [leV_sum, e5]
    omega
theorem leV_ex {b : Nat → Nat} {k L : Nat} (h : 0 < leV b (k + 1) L) : ∃ i, i < 5 ∧ okL (b i) L i = true ∧ 0 < leV b k (L ||| 2 ^ i) := by
  have t : ∀ i, ¬ (okL (b i) L i = true ∧ 0 < leV b k (L ||| 2 ^ i)) → (if okL (b i) L i = true then leV b k (L ||| 2 ^ i) else 0) = 0 := by
    intro i hn
    split
    · rename_i c
      have : ¬ 0 < leV b k (L ||| 2 ^ i) := fun q => hn ⟨c, q⟩
      omega
    · rfl
  by_cases c0 : okL (b 0) L 0 = true ∧ 0 < leV b k (L ||| 2 ^ 0)
  · exact ⟨0, by omega, c0⟩
  by_cases c1 : okL (b 1) L 1 = true ∧ 0 < leV b k (L ||| 2 ^ 1)
  · exact ⟨1, by omega, c1⟩
  by_cases c2 : okL (b 2) L 2 = true ∧ 0 < leV b k (L ||| 2 ^ 2)
  · exact ⟨2, by omega, c2⟩
  by_cases c3 : okL (b 3) L 3 = true ∧ 0 < leV b k (L ||| 2 ^ 3)
  · exact ⟨3, by omega, c3⟩
  by_cases c4 : okL (b 4) L 4 = true ∧ 0 < leV b k (L ||| 2 ^ 4)
  · exact ⟨4, by omega, c4⟩
  rw [leV_sum, t 0 c0, t 1 c1, t 2 c2, t 3 c3, t 4 c4] at h
  omega
theorem leV_in {b : Nat → Nat} {k L i : Nat} (hi : i < 5) (h1 : okL (b i) L i = true) (h2 : 0 < leV b k (L ||| 2 ^ i)) : 0 < leV b (k + 1) L := by
  rw [leV_sum]
  have : i = 0 ∨ i = 1 ∨ i = 2 ∨ i = 3 ∨ i = 4 := by omega
  rcases this with e | e | e | e | e <;> subst e <;> rw [if_pos h1] <;> omega
theorem leV_exch {b : Nat → Nat} (hb : ∀ f, f < 5 → b f < 32) : ∀ k L f, L < 32 → f < 5 → okL (b f) L f = true → 0 < leV b (k + 1) L → 0 < leV b k (L ||| 2 ^ f) := by
  intro k
  induction k with
  | zero =>
    intro L f _ _ _ _
    exact Nat.zero_lt_one
  | succ k ih =>
    intro L f hL hf ok hv
    obtain ⟨g, hg, ok2, hv2⟩ := leV_ex hv
    by_cases e : g = f
    · rw [← e]
      exact hv2
    · have o1 := ok_more (hb f hf) hL hf hg e ok
      have o2 := ok_more (hb g hg) hL hg hf (fun q => e q.symm) ok2
      have l1 := (ls_t3 L hL g hg (ok_has ok2)).2.1
      have v := ih (L ||| 2 ^ g) f l1 hf o1 hv2
      rw [ls_t6 L hL g hg f hf] at v
      exact leV_in hg o2 v
theorem q_canLearn {cs : CS} {b : Nat → Nat} (hb : ∀ f, f < 5 → cx_c_aheads cs f = nI (b f)) {L f : Nat} (hf : f < 5) (post : Int32 → CS → Prop) (h : (okL (b f) L f = true → post 1 cs) ∧ (¬ okL (b f) L f = true → post 0 cs)) : wC_X11_canLearn_city_aheads (nI L) (nI f) cs post := by
  unfold wC_X11_canLearn_city_aheads
  rw [p_at (by decide) _ hf, hb f hf]
  refine p_two (fun c1 => p_two (fun c2 => h.1 (decide_eq_true ⟨c1, c2⟩)) (fun c2 => h.2 ?_)) (fun c1 => h.2 ?_)
  · intro q
    exact c2 (of_decide_eq_true q).2
  · intro q
    exact c1 (of_decide_eq_true q).1
theorem m_canLearn {ms : MS} {b : Nat → Nat} (hb : ∀ f, f < 5 → ms_a ms (183 + f) = nI (b f)) {L f : Nat} (hL : L < 32) (hf : f < 5) (post : Int32 → MS → Prop) (h : (okL (b f) L f = true → post 1 ms) ∧ (¬ okL (b f) L f = true → post 0 ms)) : wM_canLearn (nI f) (nI L) ms post := by
  unfold wM_canLearn wM_has
  dsimp only
  rw [nI_la 183 f, nI_clamp (by omega), hb f hf]
  refine p_two (fun c1 => p_no (by decide) (h.2 ?_)) (fun c1 => p_yes rfl ⟨vp_in_nI (by omega) (by decide), p_two (fun c2 => h.1 ?_) (fun c2 => h.2 ?_)⟩)
  · intro q
    have q1 : hasI L f = 1 := c1
    rw [ok_has q] at q1
    exact absurd q1 (by decide)
  · have q1 : hasI L f = 0 := by
      rcases ls_t5 L hL f hf with e | e
      · exact e
      · exact absurd e c1
    exact decide_eq_true ⟨q1, c2⟩
  · intro q
    exact c2 (of_decide_eq_true q).2
theorem nI_bit {L f : Nat} (hf : f < 5) : (nI L ||| k_shl 1 (nI f)) = nI (L ||| 2 ^ f) := by
  rw [nI_shl f (by omega), nI_or]
theorem q_ord {cs : CS} {b : Nat → Nat} (hb : ∀ f, f < 5 → cx_c_aheads cs f = nI (b f)) : ∀ (k L d : Nat) (post : Int32 → CS → Prop), L < 32 → popN L + k = 5 → k + 1 ≤ d → post (nI (leV b k L)) cs → wD_X11_ordersFrom_city_aheads d (nI L) cs post := by
  intro k
  induction k with
  | zero =>
    intro L d post hL hk hd hp
    obtain ⟨d', rfl⟩ : ∃ d', d = d' + 1 := ⟨d - 1, by omega⟩
    have e := (ls_t4 L hL).2.1 (by omega)
    subst e
    exact p_yes rfl hp
  | succ k ih =>
    intro L d post hL hk hd hp
    obtain ⟨d', rfl⟩ : ∃ d', d = d' + 1 := ⟨d - 1, by omega⟩
    have nz : ¬ nI L = 31 := by
      intro h
      have e := (nI_eq (b := 31) (by omega) (by decide)).mp h
      have := (ls_t4 L hL).2.2 e
      omega
    refine p_no nz ⟨6, up_loop (fun n x i => wC_X11_ordersFrom_city_aheads_12 (wD_X11_ordersFrom_city_aheads d') post n (nI L) (nI x) i cs) (fun i v => v + (if okL (b i) L i = true then leV b k (L ||| 2 ^ i) else 0)) (fun x => post (nI x) cs) 5 ?_ ?_ 0 hp⟩
    · intro n x q
      show wC_X11_ordersFrom_city_aheads_12 (wD_X11_ordersFrom_city_aheads d') post (n + 1) (nI L) (nI x) (nI 5) cs
      rw [wC_X11_ordersFrom_city_aheads_12]
      exact p_yes (by decide) q
    · intro n i x hi q
      have q' : wC_X11_ordersFrom_city_aheads_12 (wD_X11_ordersFrom_city_aheads d') post n (nI L) (nI (x + (if okL (b i) L i = true then leV b k (L ||| 2 ^ i) else 0))) (nI (i + 1)) cs := q
      show wC_X11_ordersFrom_city_aheads_12 (wD_X11_ordersFrom_city_aheads d') post (n + 1) (nI L) (nI x) (nI i) cs
      rw [wC_X11_ordersFrom_city_aheads_12, nI_1]
      refine p_no (nI_ge (b := 5) hi (by decide)) (q_canLearn hb hi _ (p_two (fun c => p_no (by decide) ?_) (fun c => p_yes rfl ?_)))
      · rw [if_pos c] at q'
        obtain ⟨t1, t2, t3⟩ := ls_t3 L hL i hi (ok_has c)
        rw [nI_bit hi]
        refine ih (L ||| 2 ^ i) d' _ t2 (by omega) (by omega) ?_
        rw [nI_add]
        exact q'
      · rw [if_neg c, Nat.add_zero] at q'
        exact q'
theorem upd_upd (f : Nat → Int32) (k : Nat) (x y : Int32) : upd (upd f k x) k y = upd f k y := by
  funext j
  by_cases e : j = k
  · rw [e, upd_eq, upd_eq]
  · rw [upd_ne _ _ e, upd_ne _ _ e, upd_ne _ _ e]
def leW (b : Nat → Nat) (L : Nat) : Nat := leV b (5 - popN L) L
def GoodL (b : Nat → Nat) (m : Nat) (g : Nat → Int32) : Prop := ∀ L, m ≤ L → L < 32 → g L = nI (leW b L)
theorem or_t1 (S : MS) (f : Nat → Int32) : ms_a (ms_set_ordersOf S f) = ms_a S := by
  simp only [ms_a, ms_set_ordersOf]
theorem or_t2 (S : MS) (f : Nat → Int32) : ms_ordersOf (ms_set_ordersOf S f) = f := by
  simp only [ms_ordersOf, ms_set_ordersOf]
theorem or_t3 (S : MS) (f g : Nat → Int32) : ms_set_ordersOf (ms_set_ordersOf S f) g = ms_set_ordersOf S g := by
  simp only [ms_set_ordersOf]
theorem or_eM (S : MS) (f : Nat → Int32) : eM S (ms_set_ordersOf S f) := by
  refine ⟨?_, ?_, ?_, ?_, ?_, ?_⟩ <;> simp only [ms_image, ms_texts, ms_tape, ms_taped, ms_fault, ms_faultPlace, ms_set_ordersOf]
theorem ord_in {ms : MS} {b : Nat → Nat} (hb : ∀ f, f < 5 → ms_a ms (183 + f) = nI (b f)) {L : Nat} (hL : L < 31) {g : Nat → Int32} (hg : GoodL b (L + 1) g) (post : MS → Prop) (K : Int32 → MS → Prop) (hp : K (nI L + (-1)) (ms_set_ordersOf ms (upd g L (nI (leW b L))))) : wM_layOrders_24 post K 6 (nI L) 0 (ms_set_ordersOf ms (upd g L 0)) := by
  have p5 : popN L < 5 := by
    have h1 := (ls_t4 L (by omega)).1
    by_cases e : popN L = 5
    · have := (ls_t4 L (by omega)).2.1 e
      omega
    · omega
  obtain ⟨k, hk⟩ : ∃ k, 5 - popN L = k + 1 := ⟨4 - popN L, by omega⟩
  have hp' : K (nI L + (-1)) (ms_set_ordersOf ms (upd g L (nI (upf (fun i v => v + (if okL (b i) L i = true then leV b k (L ||| 2 ^ i) else 0)) 5 0 0)))) := by
    unfold leW at hp
    rw [hk] at hp
    exact hp
  refine up_loop (fun n x i => wM_layOrders_24 post K n (nI L) i (ms_set_ordersOf ms (upd g L (nI x)))) (fun i v => v + (if okL (b i) L i = true then leV b k (L ||| 2 ^ i) else 0)) (fun x => K (nI L + (-1)) (ms_set_ordersOf ms (upd g L (nI x)))) 5 ?_ ?_ 0 hp'
  · intro n x q
    show wM_layOrders_24 post K (n + 1) (nI L) (nI 5) (ms_set_ordersOf ms (upd g L (nI x)))
    rw [wM_layOrders_24]
    exact p_yes (by decide) q
  · intro n i x hi q
    have q' : wM_layOrders_24 post K n (nI L) (nI (i + 1)) (ms_set_ordersOf ms (upd g L (nI (x + (if okL (b i) L i = true then leV b k (L ||| 2 ^ i) else 0))))) := q
    show wM_layOrders_24 post K (n + 1) (nI L) (nI i) (ms_set_ordersOf ms (upd g L (nI x)))
    rw [wM_layOrders_24, nI_1]
    refine p_no (nI_ge (b := 5) hi (by decide)) (m_canLearn (b := b) (by intro f hf; rw [or_t1]; exact hb f hf) (by omega) hi _ (p_two (fun c => p_no (by decide) ?_) (fun c => p_yes rfl ?_)))
    · rw [if_pos c] at q'
      obtain ⟨t1, t2, t3⟩ := ls_t3 L (by omega) i hi (ok_has c)
      rw [nI_bit hi, nI_clamp (by omega), nI_clamp (by omega), p_all, or_t2, or_t3, upd_upd, upd_eq, upd_ne _ _ (by omega), hg _ (by omega) t2, nI_add]
      have e : leW b (L ||| 2 ^ i) = leV b k (L ||| 2 ^ i) := by
        unfold leW
        rw [t1, show 5 - (popN L + 1) = k by omega]
      rw [e]
      exact ⟨vp_in_nI (by omega) (by decide), vp_in_nI t2 (by decide), vp_in_nI (by omega) (by decide), q'⟩
    · rw [if_neg c, Nat.add_zero] at q'
      exact q'
theorem ord_out {ms : MS} {b : Nat → Nat} (hb : ∀ f, f < 5 → ms_a ms (183 + f) = nI (b f)) : ∀ (m : Nat) (g : Nat → Int32), m ≤ 31 → GoodL b m g → ∃ g' : Nat → Int32, GoodL b 0 g' ∧ ∀ post : MS → Prop, post (ms_set_ordersOf ms g') → wM_layOrders_11 post (m + 1) (nI m + (-1)) (ms_set_ordersOf ms g) := by
  intro m
  induction m with
  | zero =>
    intro g _ hg
    refine ⟨g, hg, ?_⟩
    intro post hp
    rw [wM_layOrders_11]
    exact p_yes (by decide) hp
  | succ m ih =>
    intro g hm hg
    obtain ⟨g', hg', h⟩ := ih (upd g m (nI (leW b m))) (by omega) (by
      intro L h1 h2
      by_cases e : L = m
      · rw [e, upd_eq]
      · rw [upd_ne _ _ e]
        exact hg L (by omega) h2)
    refine ⟨g', hg', ?_⟩
    intro post hp
    rw [wM_layOrders_11, nI_m1]
    refine p_no (nI_pos (by omega)) ⟨vp_in_nI (by omega) (by decide), ?_⟩
    rw [p_all, nI_clamp (by omega), or_t2, or_t3]
    exact ⟨6, ord_in hb (by omega) hg post _ (h post hp)⟩
theorem m_layOrders {ms : MS} {b : Nat → Nat} (hb : ∀ f, f < 5 → ms_a ms (183 + f) = nI (b f)) : ∃ g : Nat → Int32, GoodL b 0 g ∧ rv (wM_layOrders ms) (ms_set_ordersOf ms g) := by
  obtain ⟨g, hg, h⟩ := ord_out hb 31 (upd (ms_ordersOf ms) 31 1) (by omega) (by
    intro L h1 h2
    have e : L = 31 := by omega
    subst e
    rw [upd_eq]
    rfl)
  refine ⟨g, hg, ?_⟩
  intro post hp
  unfold wM_layOrders
  rw [p_all]
  exact ⟨32, h post hp⟩
theorem low5 (Q : Nat → Bool) (h : ∃ i, i < 5 ∧ Q i = true) : ∃ f, f < 5 ∧ Q f = true ∧ ∀ j, j < f → ¬ Q j = true := by
  by_cases c0 : Q 0 = true
  · exact ⟨0, by omega, c0, fun j hj => by omega⟩
  by_cases c1 : Q 1 = true
  · refine ⟨1, by omega, c1, fun j hj => ?_⟩
    have : j = 0 := by omega
    subst this
    exact c0
  by_cases c2 : Q 2 = true
  · refine ⟨2, by omega, c2, fun j hj => ?_⟩
    have : j = 0 ∨ j = 1 := by omega
    rcases this with e | e <;> subst e <;> assumption
  by_cases c3 : Q 3 = true
  · refine ⟨3, by omega, c3, fun j hj => ?_⟩
    have : j = 0 ∨ j = 1 ∨ j = 2 := by omega
    rcases this with e | e | e <;> subst e <;> assumption
  by_cases c4 : Q 4 = true
  · refine ⟨4, by omega, c4, fun j hj => ?_⟩
    have : j = 0 ∨ j = 1 ∨ j = 2 ∨ j = 3 := by omega
    rcases this with e | e | e | e <;> subst e <;> assumption
  obtain ⟨i, hi, hq⟩ := h
  have : i = 0 ∨ i = 1 ∨ i = 2 ∨ i = 3 ∨ i = 4 := by omega
  rcases this with e | e | e | e | e <;> subst e <;> exact absurd hq (by assumption)
theorem ll_in {cs : CS} {b : Nat → Nat} (hb : ∀ f, f < 5 → cx_c_aheads cs f = nI (b f)) {L f : Nat} (hf : f < 5) (ok : okL (b f) L f = true) (no : ∀ j, j < f → ¬ okL (b j) L j = true) (post : Int32 → CS → Prop) (K : Int32 → Int32 → Int32 → Int32 → CS → Prop) (x1 x4 : Int32) (hp : K x1 (nI (L ||| 2 ^ f)) (nI f) (x4 + 1) cs) : ∀ (d : Nat) (x3 : Int32), d ≤ 5 → (d ≤ f → x3 = nI f) → wC_X11_lowestLesson_18 post K (d + 1) x1 (nI L) x3 x4 (nI d + (-1)) cs := by
  intro d
  induction d with
  | zero =>
    intro x3 _ h
    rw [h (by omega), wC_X11_lowestLesson_18, nI_bit hf]
    refine p_yes (by decide) (p_no ?_ hp)
    intro e
    have := nI_pos' (n := f) (by omega)
    rw [e] at this
    exact absurd this (by decide)
  | succ d ih =>
    intro x3 hd h
    rw [nI_m1, wC_X11_lowestLesson_18]
    refine p_no (nI_pos (by omega)) (q_canLearn hb (by omega) _ (p_two (fun c => p_no (by decide) (ih _ (by omega) (fun hl => ?_))) (fun c => p_yes rfl (ih _ (by omega) (fun hl => ?_)))))
    · by_cases e : d = f
      · rw [e]
      · exact absurd c (no d (by omega))
    · by_cases e : d = f
      · rw [e] at c
        exact absurd ok c
      · exact h (by omega)
theorem lm_in {ms : MS} {b : Nat → Nat} (hb : ∀ f, f < 5 → ms_a ms (183 + f) = nI (b f)) (hb2 : ∀ f, f < 5 → b f < 32) {g : Nat → Int32} (hg : GoodL b 0 g) {L f k : Nat} (hL : L < 32) (hk : popN L + (k + 1) = 5) (hv : 0 < leV b (k + 1) L) (hf : f < 5) (ok : okL (b f) L f = true) (no : ∀ j, j < f → ¬ okL (b j) L j = true) (post : Int32 → MS → Prop) (K : Int32 → Int32 → Int32 → Int32 → MS → Prop) (x1 x4 : Int32) (hp : K x1 (nI (L ||| 2 ^ f)) (nI f) (x4 + 1) (ms_set_ordersOf ms g)) : ∀ (d j : Nat), j + d = f → wM_lessons_62 post K (d + 1) x1 (nI L) (nI j) x4 (ms_set_ordersOf ms g) := by
  have hb' : ∀ f, f < 5 → ms_a (ms_set_ordersOf ms g) (183 + f) = nI (b f) := by
    intro f hf
    rw [or_t1]
    exact hb f hf
  intro d
  induction d with
  | zero =>
    intro j e
    have ej : j = f := by omega
    subst ej
    obtain ⟨t1, t2, t3⟩ := ls_t3 L hL j hf (ok_has ok)
    rw [wM_lessons_62]
    refine m_canLearn hb' hL hf _ (p_two (fun c => p_no (by decide) ?_) (fun c => absurd ok c))
    rw [nI_bit hf, nI_clamp (by omega), or_t2, hg _ (by omega) t2]
    refine ⟨vp_in_nI t2 (by decide), p_no ?_ hp⟩
    have v := leV_exch hb2 k L j hL hf ok hv
    have v2 := leV_bd b k (L ||| 2 ^ j)
    have v3 : 5 ^ k ≤ 5 ^ 5 := Nat.pow_le_pow_right (by decide) (by omega)
    have v4 : (5 : Nat) ^ 5 = 3125 := by decide
    unfold leW
    rw [t1, show 5 - (popN L + 1) = k by omega]
    exact nI_ne0 v (by omega)
  | succ d ih =>
    intro j e
    rw [wM_lessons_62]
    refine m_canLearn hb' hL (by omega) _ (p_two (fun c => absurd c (no j (by omega))) (fun c => p_yes rfl ?_))
    rw [nI_1]
    exact ih (j + 1) (by omega)
theorem ls_loop {cs : CS} {ms : MS} {b : Nat → Nat} (hc : ∀ f, f < 5 → cx_c_aheads cs f = nI (b f)) (hb : ∀ f, f < 5 → ms_a ms (183 + f) = nI (b f)) (hb2 : ∀ f, f < 5 → b f < 32) {g : Nat → Int32} (hg : GoodL b 0 g) {i : Nat} (hi : i ≤ 4) : ∀ (d k L : Nat) (x3 y3 : Int32), k + d = i + 1 → (k = 0 ∨ x3 = y3) → L < 32 → popN L = k → 0 < leV b (5 - k) L → ∃ r : Int32, (∀ post : Int32 → CS → Prop, post r cs → wC_X11_lowestLesson_7 post (d + 1) (nI i) (nI L) x3 (nI k) cs) ∧ (∀ post : Int32 → MS → Prop, post r (ms_set_ordersOf ms g) → wM_lessons_54 post (d + 1) (nI i) (nI L) y3 (nI k) (ms_set_ordersOf ms g)) := by
  intro d
  induction d with
  | zero =>
    intro k L x3 y3 e h3 hL hp hv
    have h3' : x3 = y3 := by
      rcases h3 with h | h
      · omega
      · exact h
    refine ⟨x3, ?_, ?_⟩
    · intro post h
      rw [wC_X11_lowestLesson_7]
      exact p_yes (nI_lt (by omega) (by omega)) h
    · intro post h
      rw [wM_lessons_54]
      rw [h3'] at h
      exact p_yes (nI_lt (by omega) (by omega)) h
  | succ d ih =>
    intro k L x3 y3 e h3 hL hp hv
    obtain ⟨k', hk'⟩ : ∃ k', 5 - k = k' + 1 := ⟨4 - k, by omega⟩
    rw [hk'] at hv
    obtain ⟨i0, hi0, ok0, _⟩ := leV_ex hv
    obtain ⟨f, hf, ok, no⟩ := low5 (fun j => okL (b j) L j) ⟨i0, hi0, ok0⟩
    obtain ⟨t1, t2, t3⟩ := ls_t3 L hL f hf (ok_has ok)
    have v := leV_exch hb2 k' L f hL hf ok hv
    obtain ⟨r, hC, hM⟩ := ih (k + 1) (L ||| 2 ^ f) (nI f) (nI f) (by omega) (Or.inr rfl) t2 (by omega) (by rw [show 5 - (k + 1) = k' by omega]; exact v)
    refine ⟨r, ?_, ?_⟩
    · intro post h
      rw [wC_X11_lowestLesson_7]
      refine p_no (nI_nlt (by omega) (by omega)) ⟨6, ll_in hc hf ok no post _ (nI i) (nI k) ?_ 5 (-1) (by omega) (fun q => by omega)⟩
      rw [nI_1]
      exact hC post h
    · intro post h
      rw [wM_lessons_54]
      refine p_no (nI_nlt (by omega) (by omega)) ⟨f + 1, lm_in hb hb2 hg hL (k := k') (by omega) hv hf ok no post _ (nI i) (nI k) ?_ f 0 (by omega)⟩
      rw [nI_1]
      exact hM post h
theorem sim_lessons {cs : CS} {ms : MS} (R : Rel cs ms) (p1 : Int32) : ∃ (r : Int32) (cs' : CS) (ms' : MS), rt (wC_X11_lessons p1 cs) r cs' ∧ rt (wM_lessons p1 ms) r ms' ∧ Rel cs' ms' := by
  have hx : ∀ f, f < 5 → ∃ n : Nat, n ≤ 31 ∧ ms_a ms (183 + f) = nI n := fun f hf => p_rng2 (n := 31) (by decide) (bd_aheads R.1.1 hf).1 (bd_aheads R.1.1 hf).2
  obtain ⟨b, hbm⟩ : ∃ b : Nat → Nat, ∀ f, f < 5 → b f < 32 ∧ ms_a ms (183 + f) = nI (b f) := by
    refine ⟨fun f => (ms_a ms (183 + f)).toNatClampNeg, ?_⟩
    intro f hf
    obtain ⟨n, hn, e⟩ := hx f hf
    show (ms_a ms (183 + f)).toNatClampNeg < 32 ∧ ms_a ms (183 + f) = nI (ms_a ms (183 + f)).toNatClampNeg
    rw [e, nI_clamp (by omega)]
    exact ⟨by omega, rfl⟩
  have hb : ∀ f, f < 5 → ms_a ms (183 + f) = nI (b f) := fun f hf => (hbm f hf).2
  have hb2 : ∀ f, f < 5 → b f < 32 := fun f hf => (hbm f hf).1
  have hc : ∀ f, f < 5 → cx_c_aheads cs f = nI (b f) := fun f hf => (rd_aheads R.1.1 hf).trans (hb f hf)
  obtain ⟨g, hg, hL⟩ := m_layOrders hb
  have v0 := leV_bd b 5 0
  have v1 : (5 : Nat) ^ 5 = 3125 := by decide
  have e0 : ms_ordersOf (ms_set_ordersOf ms g) 0 = nI (leV b 5 0) := by
    rw [or_t2]
    exact hg 0 (by omega) (by omega)
  have cls : ∀ post : Int32 → CS → Prop, ((p1 = (-1) → post (nI (leV b 5 0)) cs) ∧ (¬ (p1 = (-1)) → ((nI (leV b 5 0) ≤ 0 → post (-2) cs) ∧ (¬ (nI (leV b 5 0) ≤ 0) → wC_X11_within p1 0 4 cs (fun r_5 S_6 => ((r_5 = 0 → post (-2) S_6) ∧ (¬ (r_5 = 0) → wC_X11_lowestLesson p1 S_6 (fun r_8 S_9 => post r_8 S_9)))))))) → wC_X11_lessons p1 cs post := by
    intro post h
    unfold wC_X11_lessons
    exact q_ord hc 5 0 8 _ (by omega) (by decide) (by omega) h
  by_cases c0 : p1 = -1
  · subst c0
    refine ⟨nI (leV b 5 0), cs, ms_set_ordersOf ms g, ?_, ?_, Rel_e R ⟨rfl, rfl, rfl, rfl⟩ (or_eM _ _) R.1.1.1 (or_t1 _ _)⟩
    · intro post hp
      exact cls post (p_yes rfl hp)
    · intro post hp
      unfold wM_lessons
      rw [m_isIn, p_b0]
      refine p_val (by decide) (hL _ (p_yes rfl ?_))
      unfold wM_lessons_30
      rw [e0]
      exact p_yes rfl hp
  · by_cases c : 0 ≤ p1 ∧ p1 ≤ 4
    · have c' : -1 ≤ p1 ∧ p1 ≤ 4 := ⟨Int32.le_trans (by decide) c.1, c.2⟩
      obtain ⟨i, hi, rfl⟩ := p_rng2 (n := 4) (by decide) c.1 c.2
      by_cases z : leV b 5 0 = 0
      · refine ⟨-2, cs, ms_set_ordersOf ms g, ?_, ?_, Rel_e R ⟨rfl, rfl, rfl, rfl⟩ (or_eM _ _) R.1.1.1 (or_t1 _ _)⟩
        · intro post hp
          refine cls post (p_no c0 (p_yes ?_ hp))
          rw [z]
          exact Int32.le_refl _
        · intro post hp
          unfold wM_lessons
          rw [m_isIn, p_b0]
          refine p_val c' (hL _ (p_no c0 (p_yes ?_ ?_)))
          · rw [e0, z]
            rfl
          · unfold wM_lessons_30
            exact p_no c0 hp
      · obtain ⟨r, hC, hM⟩ := ls_loop hc hb hb2 hg hi (i + 1) 0 0 (-1) 0 (by omega) (Or.inl rfl) (by omega) (by decide) (show 0 < leV b 5 0 by omega)
        refine ⟨r, cs, ms_set_ordersOf ms g, ?_, ?_, Rel_e R ⟨rfl, rfl, rfl, rfl⟩ (or_eM _ _) R.1.1.1 (or_t1 _ _)⟩
        · intro post hp
          refine cls post (p_no c0 (p_no (nI_nle (by omega) (by omega)) ?_))
          rw [q_within, p_b0]
          exact p_val c ⟨i + 1 + 1, hC post hp⟩
        · intro post hp
          unfold wM_lessons
          rw [m_isIn, p_b0]
          refine p_val c' (hL _ (p_no c0 (p_no ?_ ⟨i + 1 + 1, hM post hp⟩)))
          rw [e0]
          exact nI_ne0 (by omega) (by omega)
    · have c' : ¬ (-1 ≤ p1 ∧ p1 ≤ 4) := by
        intro h
        exact c (by grind)
      refine ⟨-2, cs, ms, ?_, ?_, R⟩
      · intro post hp
        refine cls post (p_no c0 (p_two (fun _ => hp) (fun _ => ?_)))
        rw [q_within, p_b0]
        exact p_inv hp (fun c1 => absurd c1 c)
      · intro post hp
        unfold wM_lessons
        rw [m_isIn, p_b0]
        exact p_inv hp (fun c1 => absurd c1 c')
