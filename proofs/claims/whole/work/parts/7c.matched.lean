/-! PURE LAYER: matched, goesTo and the class's assign -/
theorem m_goes {ms : MS} {H C : Nat} (hH : H < 7) (hC : C ≤ 5) (e0 : ms_a ms 0 = nI H) {w : Nat → Nat → Nat} (hw : mtO w) (hc : costsAre w (ms_a ms)) {g : Nat → Int32} (hg : GoodC H w C 0 g) {k c t : Nat} (hck : c + (k + 1) = C) (ht : t < 64) (post : Int32 → MS → Prop) (hp : post (mtC H w k c t) (ms_set_cheap ms g)) : wM_goesTo (nI c) (nI t) (ms_set_cheap ms g) post := by
  obtain ⟨l1, l2⟩ := mtV_lim hH hw (k := k) (c := c) (t := t) (by omega) ht
  have lM := mtM_lim (H := H) (k + 1) t (by omega)
  have lV := mtV_bd hH hw (k + 1) c t (by omega) ht
  have loop : ∀ d i, i + d = H → post (fstI (mtQ H w k c t) d i) (ms_set_cheap ms g) → wM_goesTo_2 post (d + 1) (nI c) (nI t) (nI i) (ms_set_cheap ms g) := by
    intro d
    induction d with
    | zero =>
      intro i e q
      have ei : i = H := by omega
      subst ei
      rw [wM_goesTo_2, ch_t1, e0]
      exact p_yes (Int32.le_refl _) q
    | succ d ih =>
      intro i e q
      have q' : post (if mtQ H w k c t i = true then nI i else fstI (mtQ H w k c t) d (i + 1)) (ms_set_cheap ms g) := q
      rw [wM_goesTo_2, ch_t1, e0, nI_1]
      refine p_no (nI_ge (by omega) (by omega)) (m_hasT ht (by omega) _ _ (fun c0 => p_yes rfl ?_) (fun c0 => p_no (by decide) (ih (i + 1) (by omega) ?_)))
      · refine m_going (k := k) hH hc (by omega) ht (by omega) c0 (by rw [hg (c + 1) (by omega) (by omega) _ (mt_t1 H hH t ht i (by omega) c0).2, show C - (c + 1) = k by omega]) _ ?_
        rw [nI_lm 64 c, nI_add, nI_clamp (by omega), ch_t2, hg c (by omega) (by omega) t ht, show C - c = k + 1 by omega]
        refine ⟨vp_in_nI (by omega) (by decide), ?_⟩
        unfold mtG
        rw [sub_eq (a := mtX H w k c t i) (b := mtV H w (k + 1) c t) (by have := l2 i (by omega) c0; omega) (by omega) lM]
        refine p_two (fun eq => ?_) (fun ne => ih (i + 1) (by omega) ?_)
        · rw [if_pos (show mtQ H w k c t i = true from decide_eq_true ⟨c0, eq⟩)] at q'
          exact q'
        · rw [if_neg (fun z => ne (of_decide_eq_true z).2)] at q'
          exact q'
      · rw [if_neg (fun z => c0 (of_decide_eq_true z).1)] at q'
        exact q'
  exact ⟨H + 1, loop H 0 (by omega) hp⟩
theorem m_way {ms : MS} {H C : Nat} (hH : H < 7) (hC : C ≤ 5) (e0 : ms_a ms 0 = nI H) {w : Nat → Nat → Nat} (hw : mtO w) (hc : costsAre w (ms_a ms)) {g : Nat → Int32} (hg : GoodC H w C 0 g) {j : Nat} (hj : j < C) (post : Int32 → MS → Prop) : ∀ (d k c t : Nat) (x4 : Int32), c + d = j + 1 → c + k = C → t < 64 → (d = 0 → post x4 (ms_set_cheap ms g)) → (0 < d → post (mtW H w k c t j) (ms_set_cheap ms g)) → wM_matched_77 post (d + 1) (nI j) (nI t) x4 (nI c) (ms_set_cheap ms g) := by
  intro d
  induction d with
  | zero =>
    intro k c t x4 e1 e2 ht h1 h2
    rw [wM_matched_77]
    exact p_yes (nI_lt (by omega) (by omega)) (h1 rfl)
  | succ d ih =>
    intro k c t x4 e1 e2 ht h1 h2
    obtain ⟨k', rfl⟩ : ∃ k', k = k' + 1 := ⟨k - 1, by omega⟩
    obtain ⟨n1, n2⟩ := mtC_or hH w (k := k') (c := c) (t := t) ht
    have hq : post (if j = c then mtC H w k' c t else mtW H w k' (c + 1) (mtN t (mtC H w k' c t)) j) (ms_set_cheap ms g) := h2 (by omega)
    rw [wM_matched_77, nI_1]
    refine p_no (nI_nlt (by omega) (by omega)) (m_goes hH hC e0 hw hc hg e2 ht _ ?_)
    have go := ih k' (c + 1) (mtN t (mtC H w k' c t)) (mtC H w k' c t) (by omega) (by omega) n1 (fun z => by
      rw [if_pos (by omega)] at hq
      exact hq) (fun z => by
      rw [if_neg (by omega)] at hq
      exact hq)
    refine p_two (fun q => ?_) (fun q => ?_)
    · rw [q, mtN_n] at go
      rw [Int32.or_zero, q]
      exact go
    · rcases n2 with z | ⟨h, hh, z⟩
      · exact absurd z q
      · rw [z, mtN_h (by omega)] at go
        rw [z, nI_shl h (by omega), nI_or]
        exact go
/-! the class -/
def cT (S : CS) (l : Int32) (b g : Nat → Int32) : CS := cx_set_t_goes (cx_set_t_best (cx_set_t_least S l) b) g
theorem cT_now (S : CS) (l : Int32) (b g : Nat → Int32) : cx_c_now (cT S l b g) = cx_c_now S := by
  simp only [cT, cx_c_now, cx_set_t_goes, cx_set_t_best, cx_set_t_least]
theorem cT_costs (S : CS) (l : Int32) (b g : Nat → Int32) : cx_c_costs (cT S l b g) = cx_c_costs S := by
  simp only [cT, cx_c_costs, cx_set_t_goes, cx_set_t_best, cx_set_t_least]
theorem cT_least (S : CS) (l : Int32) (b g : Nat → Int32) : cx_t_least (cT S l b g) = l := by
  simp only [cT, cx_t_least, cx_set_t_goes, cx_set_t_best, cx_set_t_least]
theorem cT_best (S : CS) (l : Int32) (b g : Nat → Int32) : cx_t_best (cT S l b g) = b := by
  simp only [cT, cx_t_best, cx_set_t_goes, cx_set_t_best, cx_set_t_least]
theorem cT_goes (S : CS) (l : Int32) (b g : Nat → Int32) : cx_t_goes (cT S l b g) = g := by
  simp only [cT, cx_t_goes, cx_set_t_goes, cx_set_t_best, cx_set_t_least]
theorem cT_sg (S : CS) (l : Int32) (b g g' : Nat → Int32) : cx_set_t_goes (cT S l b g) g' = cT S l b g' := by
  simp only [cT, cx_set_t_goes, cx_set_t_best, cx_set_t_least]
theorem cT_sl (S : CS) (l l' : Int32) (b g : Nat → Int32) : cx_set_t_least (cT S l b g) l' = cT S l' b g := by
  simp only [cT, cx_set_t_goes, cx_set_t_best, cx_set_t_least]
theorem cT_sb (S : CS) (l : Int32) (b b' g : Nat → Int32) : cx_set_t_best (cT S l b g) b' = cT S l b' g := by
  simp only [cT, cx_set_t_goes, cx_set_t_best, cx_set_t_least]
theorem cT_eC (S : CS) (l : Int32) (b g : Nat → Int32) : eC S (cT S l b g) := by
  refine ⟨?_, ?_, ?_, ?_⟩ <;> simp only [cT, cx_set_t_goes, cx_set_t_best, cx_set_t_least]
theorem cT_0 (S : CS) (l : Int32) : cx_set_t_least S l = cT S l (cx_t_best S) (cx_t_goes S) := by
  simp only [cT, cx_t_best, cx_t_goes, cx_set_t_goes, cx_set_t_best, cx_set_t_least]
/-- what an assignment of the clowns from c on does -/
def mtA (C c : Nat) (W : Nat → Int32) (v : Nat) (l : Int32) (b g : Nat → Int32) (l' : Int32) (b' g' : Nat → Int32) : Prop := ((l = -1 ∨ nI v < l) → l' = nI v ∧ ∀ j, j < C → b' j = (if j < c then g j else W j)) ∧ (¬ (l = -1 ∨ nI v < l) → l' = l ∧ b' = b) ∧ (∀ j, j < c → g' j = g j)
def okl (l : Int32) : Prop := l = -1 ∨ ∃ n : Nat, n ≤ 1000 ∧ l = nI n
theorem cp5 (f b : Nat → Int32) {j : Nat} (hj : j < 5) : k_copyW 5 5 f b j = f j := by
  rw [cpW 5 (by decide)]
  exact cpW_at f b hj
theorem assign_all {S : CS} {H C : Nat} (hH : H < 7) (hC : C ≤ 5) (e0 : cx_c_now S 72 = nI H) (e1 : cx_c_now S 73 = nI C) {w : Nat → Nat → Nat} (hw : mtO w) (hc : ∀ c, c < 5 → ∀ h, h < 6 → cx_c_costs S (6 * c + h) = nI (w c h)) : ∀ (k c t d sum : Nat) (l : Int32) (b g : Nat → Int32), c + k = C → t < 64 → k + 1 ≤ d → sum ≤ 99 * c → okl l → ∃ (l' : Int32) (b' g' : Nat → Int32), okl l' ∧ mtA C c (mtW H w k c t) (sum + mtV H w k c t) l b g l' b' g' ∧ ∀ post : CS → Prop, post (cT S l' b' g') → wD_X4_assign d (nI c) (nI t) (nI (k - mtF H t)) (nI sum) (cT S l b g) post := by
  have c6 : ∀ (l : Int32) (b g : Nat → Int32), cx_c_now (cT S l b g) 72 ≤ 6 := by
    intro l b g
    rw [cT_now, e0]
    exact nI_le (b := 6) (by omega) (by decide)
  have c5 : ∀ (l : Int32) (b g : Nat → Int32), cx_c_now (cT S l b g) 73 ≤ 5 := by
    intro l b g
    rw [cT_now, e1]
    exact nI_le (b := 5) (by omega) (by decide)
  intro k
  induction k with
  | zero =>
    intro c t d sum l b g ec ht hd hs hl
    obtain ⟨d', rfl⟩ : ∃ d', d = d' + 1 := ⟨d - 1, by omega⟩
    have ec' : c = C := by omega
    subst ec'
    have keep : ∀ post : CS → Prop, post (cT S (nI sum) (k_copyW 5 5 g b) g) → wC_X4_assign_28 (wD_X4_assign d') post (nI sum) (cT S l b g) := by
      intro post hp
      unfold wC_X4_assign_28
      rw [p_all, p_all, cT_sl, cT_goes, cT_best, cT_sb]
      exact hp
    by_cases imp : l = -1 ∨ nI sum < l
    · refine ⟨nI sum, k_copyW 5 5 g b, g, Or.inr ⟨sum, by omega, rfl⟩, ⟨fun _ => ⟨rfl, ?_⟩, fun n => absurd imp n, fun j _ => rfl⟩, ?_⟩
      · intro j hj
        rw [if_pos hj]
        exact cp5 g b (by omega)
      · intro post hp
        show wB_X4_assign (wD_X4_assign d') (nI c) (nI t) (nI (0 - mtF H t)) (nI sum) (cT S l b g) post
        unfold wB_X4_assign
        rw [q_clownCount (c5 l b g), cT_now, e1, cT_least]
        refine p_no (nI_nlt (Nat.le_refl _) (by omega)) (p_two (fun _ => keep post hp) (fun n => p_no ?_ (keep post hp)))
        rcases imp with q | q
        · exact absurd q n
        · exact Int32.not_le.mpr q
    · refine ⟨l, b, g, hl, ⟨fun q => absurd q imp, fun _ => ⟨rfl, rfl⟩, fun j _ => rfl⟩, ?_⟩
      intro post hp
      show wB_X4_assign (wD_X4_assign d') (nI c) (nI t) (nI (0 - mtF H t)) (nI sum) (cT S l b g) post
      unfold wB_X4_assign
      rw [q_clownCount (c5 l b g), cT_now, e1, cT_least]
      exact p_no (nI_nlt (Nat.le_refl _) (by omega)) (p_no (fun q => imp (Or.inl q)) (p_yes (Int32.not_lt.mp (fun q => imp (Or.inr q))) hp))
  | succ k ih =>
    intro c t d sum l0 b0 g0 ec ht hd hs hl0
    obtain ⟨d', rfl⟩ : ∃ d', d = d' + 1 := ⟨d - 1, by omega⟩
    obtain ⟨s1, s2, s3⟩ := mtV_spec H w k c t
    have lV := mtV_bd hH hw (k + 1) c t (by omega) ht
    have lX : ∀ h, h < H → hasI t h = 0 → mtX H w k c t h ≤ 99 * (k + 1) := by
      intro h hh h0
      have a := mtV_bd hH hw k (c + 1) (t ||| 2 ^ h) (by omega) (mt_t1 H hH t ht h hh h0).2
      have b := hw c (by omega) h (by omega)
      unfold mtX
      omega
    have lI := mtV_bd hH hw k (c + 1) t (by omega) ht
    -- the state behind the houses below h
    have inv : ∃ Inv : Nat → Int32 → (Nat → Int32) → (Nat → Int32) → Prop, Inv = fun h l b g => (∀ j, j < c → g j = g0 j) ∧ okl l ∧ ((l = l0 ∧ b = b0 ∧ ∀ h', h' < h → hasI t h' = 0 → ¬ (l0 = -1 ∨ nI (sum + mtX H w k c t h') < l0)) ∨ (∃ h', h' < h ∧ h' < H ∧ hasI t h' = 0 ∧ (l0 = -1 ∨ nI (sum + mtX H w k c t h') < l0) ∧ l = nI (sum + mtX H w k c t h') ∧ (∀ h2, h2 < h → hasI t h2 = 0 → mtX H w k c t h' ≤ mtX H w k c t h2) ∧ (∀ h2, h2 < h' → hasI t h2 = 0 → mtX H w k c t h' < mtX H w k c t h2) ∧ (∀ j, j < C → b j = (if j < c then g0 j else if j = c then nI h' else mtW H w k (c + 1) (t ||| 2 ^ h') j)))) := ⟨_, rfl⟩
    obtain ⟨Inv, eI⟩ := inv
    -- the houses one by one
    have loop : ∀ (dd h : Nat) (l : Int32) (b g : Nat → Int32), h + dd = H → Inv h l b g → ∃ (l1 : Int32) (b1 g1 : Nat → Int32), Inv H l1 b1 g1 ∧ ∀ post : CS → Prop, ((nI (k + 1 - mtF H t) ≤ 0 → post (cT S l1 b1 g1)) ∧ (¬ (nI (k + 1 - mtF H t) ≤ 0) → (∀ S_5 : CS, S_5 = (cx_set_t_goes (cT S l1 b1 g1) (k_put 5 (cx_t_goes (cT S l1 b1 g1)) (nI c) (-1))) → wD_X4_assign d' (nI c + 1) (nI t) (nI (k + 1 - mtF H t) - 1) (nI sum) S_5 (fun S_7 => post S_7)))) → wC_X4_assign_49 (wD_X4_assign d') post (dd + 1) (nI c) (nI t) (nI (k + 1 - mtF H t)) (nI sum) (nI h) (cT S l b g) := by
      intro dd
      induction dd with
      | zero =>
        intro h l b g e I
        have eh : h = H := by omega
        subst eh
        refine ⟨l, b, g, I, ?_⟩
        intro post hp
        rw [wC_X4_assign_49, q_houseCount (c6 l b g), cT_now, e0]
        exact p_yes (Int32.le_refl _) hp
      | succ dd ihd =>
        intro h l b g e I
        have I' := I
        rw [eI] at I'
        obtain ⟨i1, i2, i3⟩ := I'
        by_cases h0 : hasI t h = 0
        · obtain ⟨t1, t2⟩ := mt_t1 H hH t ht h (by omega) h0
          have wb := hw c (by omega) h (by omega)
          have xb := lX h (by omega) h0
          obtain ⟨l2, b2, g2, ok2, ⟨m1, m2, m3⟩, hrun⟩ := ih (c + 1) (t ||| 2 ^ h) d' (sum + w c h) l b (upd g c (nI h)) (by omega) t2 (by omega) (by omega) i2
          have ev : sum + w c h + mtV H w k (c + 1) (t ||| 2 ^ h) = sum + mtX H w k c t h := by
            unfold mtX
            omega
          rw [ev] at m1 m2
          have I2 : Inv (h + 1) l2 b2 g2 := by
            rw [eI]
            refine ⟨?_, ok2, ?_⟩
            · intro j hj
              rw [m3 j (by omega), upd_ne _ _ (by omega)]
              exact i1 j hj
            · have take : (l0 = -1 ∨ nI (sum + mtX H w k c t h) < l0) → (l = -1 ∨ nI (sum + mtX H w k c t h) < l) → (∀ h2, h2 < h → hasI t h2 = 0 → mtX H w k c t h < mtX H w k c t h2) → ∃ h', h' < h + 1 ∧ h' < H ∧ hasI t h' = 0 ∧ (l0 = -1 ∨ nI (sum + mtX H w k c t h') < l0) ∧ l2 = nI (sum + mtX H w k c t h') ∧ (∀ h2, h2 < h + 1 → hasI t h2 = 0 → mtX H w k c t h' ≤ mtX H w k c t h2) ∧ (∀ h2, h2 < h' → hasI t h2 = 0 → mtX H w k c t h' < mtX H w k c t h2) ∧ (∀ j, j < C → b2 j = (if j < c then g0 j else if j = c then nI h' else mtW H w k (c + 1) (t ||| 2 ^ h') j)) := by
                intro a1 a2 a3
                obtain ⟨n1, n2⟩ := m1 a2
                refine ⟨h, by omega, by omega, h0, a1, n1, ?_, a3, ?_⟩
                · intro h2 q1 q2
                  by_cases e : h2 = h
                  · rw [e]
                    exact Nat.le_refl _
                  · exact Nat.le_of_lt (a3 h2 (by omega) q2)
                · intro j hj
                  rw [n2 j hj]
                  by_cases z1 : j < c
                  · rw [if_pos (by omega), if_pos z1, upd_ne _ _ (by omega)]
                    exact i1 j z1
                  · by_cases z2 : j = c
                    · rw [if_pos (by omega), if_neg z1, if_pos z2, z2, upd_eq]
                    · rw [if_neg (by omega), if_neg z1, if_neg z2]
              rcases i3 with ⟨j1, j2, j3⟩ | ⟨h', j1, j1', j2, j3, j4, j5, j6, j7⟩
              · by_cases imp : l0 = -1 ∨ nI (sum + mtX H w k c t h) < l0
                · refine Or.inr (take imp (by rw [j1]; exact imp) ?_)
                  intro h2 q1 q2
                  have nj := j3 h2 q1 q2
                  have x2 := lX h2 (by omega) q2
                  rcases imp with q | q
                  · exact absurd (Or.inl q) nj
                  · have q3 := Int32.not_lt.mp (fun z => nj (Or.inr z))
                    have q4 := Int32.lt_of_lt_of_le q q3
                    have := (nI_ltI (by omega) (by omega)).mp q4
                    omega
                · obtain ⟨n1, n2⟩ := m2 (by rw [j1]; exact imp)
                  refine Or.inl ⟨n1.trans j1, n2.trans j2, ?_⟩
                  intro h2 q1 q2
                  by_cases e : h2 = h
                  · rw [e]
                    exact imp
                  · exact j3 h2 (by omega) q2
              · have x1 := lX h' j1' j2
                by_cases imp : mtX H w k c t h < mtX H w k c t h'
                · refine Or.inr (take ?_ (Or.inr ?_) ?_)
                  · rcases j3 with q | q
                    · exact Or.inl q
                    · exact Or.inr (Int32.lt_trans (nI_lt (by omega) (by omega)) q)
                  · rw [j4]
                    exact nI_lt (by omega) (by omega)
                  · intro h2 q1 q2
                    have := j5 h2 q1 q2
                    omega
                · obtain ⟨n1, n2⟩ := m2 (by
                    rw [j4]
                    intro q
                    rcases q with q | q
                    · exact nI_nm1 (by omega) q
                    · have := (nI_ltI (by omega) (by omega)).mp q
                      omega)
                  refine Or.inr ⟨h', by omega, j1', j2, j3, n1.trans j4, ?_, j6, ?_⟩
                  · intro h2 q1 q2
                    by_cases e : h2 = h
                    · rw [e]
                      omega
                    · exact j5 h2 (by omega) q2
                  · rw [n2]
                    exact j7
          obtain ⟨l3, b3, g3, I3, hrun3⟩ := ihd (h + 1) l2 b2 g2 (by omega) I2
          refine ⟨l3, b3, g3, I3, ?_⟩
          intro post hp
          rw [wC_X4_assign_49, q_houseCount (c6 l b g), cT_now, e0]
          refine p_no (nI_ge (by omega) (by omega)) (p_yes h0 ?_)
          rw [p_all, cT_goes, cT_sg, p_put (by decide) _ (by omega), cT_costs, nI_ml 6 c, nI_add, p_at (by decide) _ (by omega), Nat.mul_comm c 6, hc c (by omega) h (by omega), nI_add, nI_1, nI_1, nI_shl h (by omega), nI_or, show k + 1 - mtF H t = k - mtF H (t ||| 2 ^ h) by omega]
          refine hrun _ ?_
          rw [show k - mtF H (t ||| 2 ^ h) = k + 1 - mtF H t by omega]
          exact hrun3 post hp
        · have I2 : Inv (h + 1) l b g := by
            rw [eI]
            refine ⟨i1, i2, ?_⟩
            rcases i3 with ⟨j1, j2, j3⟩ | ⟨h', j1, j1', j2, j3, j4, j5, j6, j7⟩
            · refine Or.inl ⟨j1, j2, ?_⟩
              intro h2 q1 q2
              by_cases e : h2 = h
              · rw [e] at q2
                exact absurd q2 h0
              · exact j3 h2 (by omega) q2
            · refine Or.inr ⟨h', by omega, j1', j2, j3, j4, ?_, j6, j7⟩
              intro h2 q1 q2
              by_cases e : h2 = h
              · rw [e] at q2
                exact absurd q2 h0
              · exact j5 h2 (by omega) q2
          obtain ⟨l3, b3, g3, I3, hrun3⟩ := ihd (h + 1) l b g (by omega) I2
          refine ⟨l3, b3, g3, I3, ?_⟩
          intro post hp
          rw [wC_X4_assign_49, q_houseCount (c6 l b g), cT_now, e0, nI_1 h]
          exact p_no (nI_ge (by omega) (by omega)) (p_no h0 (hrun3 post hp))
    obtain ⟨l1, b1, g1, I1, run1⟩ := loop H 0 l0 b0 g0 (by omega) (by
      rw [eI]
      exact ⟨fun j _ => rfl, hl0, Or.inl ⟨rfl, rfl, fun h' q => absurd q (Nat.not_lt_zero _)⟩⟩)
    rw [eI] at I1
    obtain ⟨i1, i2, i3⟩ := I1
    have start : ∀ post : CS → Prop, ((nI (k + 1 - mtF H t) ≤ 0 → post (cT S l1 b1 g1)) ∧ (¬ (nI (k + 1 - mtF H t) ≤ 0) → (∀ S_5 : CS, S_5 = (cx_set_t_goes (cT S l1 b1 g1) (k_put 5 (cx_t_goes (cT S l1 b1 g1)) (nI c) (-1))) → wD_X4_assign d' (nI c + 1) (nI t) (nI (k + 1 - mtF H t) - 1) (nI sum) S_5 (fun S_7 => post S_7)))) → wD_X4_assign (d' + 1) (nI c) (nI t) (nI (k + 1 - mtF H t)) (nI sum) (cT S l0 b0 g0) post := by
      intro post hp
      show wB_X4_assign (wD_X4_assign d') (nI c) (nI t) (nI (k + 1 - mtF H t)) (nI sum) (cT S l0 b0 g0) post
      unfold wB_X4_assign
      rw [q_clownCount (c5 l0 b0 g0), cT_now, e1]
      exact p_yes (nI_lt (by omega) (by omega)) ⟨H + 1, run1 post hp⟩
    -- a house chosen, with the least
    have fin : ∀ h', h' < H → hasI t h' = 0 → mtX H w k c t h' = mtV H w (k + 1) c t → (∀ h2, h2 < h' → hasI t h2 = 0 → mtX H w k c t h' < mtX H w k c t h2) → ∀ b : Nat → Int32, (∀ j, j < C → b j = (if j < c then g0 j else if j = c then nI h' else mtW H w k (c + 1) (t ||| 2 ^ h') j)) → ∀ j, j < C → b j = (if j < c then g0 j else mtW H w (k + 1) c t j) := by
      intro h' q1 q2 q3 q4 b q5 j hj
      have eC := mtC_h hH q1 q2 q3 (fun j a1 a2 => by have := q4 j a1 a2; omega)
      rw [q5 j hj]
      by_cases z : j < c
      · rw [if_pos z, if_pos z]
      · rw [if_neg z, if_neg z]
        show _ = (if j = c then mtC H w k c t else mtW H w k (c + 1) (mtN t (mtC H w k c t)) j)
        rw [eC, mtN_h (by omega)]
    by_cases id : k + 1 ≤ mtF H t
    · -- nobody may stay idle
      have z : nI (k + 1 - mtF H t) ≤ 0 := by
        rw [show k + 1 - mtF H t = 0 by omega]
        exact Int32.le_refl _
      obtain ⟨hx, hx1, hx2⟩ := (mt_t4 H hH t ht).2 (by omega)
      have xb := lX hx hx1 hx2
      have notI : ¬ mtV H w (k + 1) c t = mtI H w k c t := by
        intro q
        have a := s2 hx hx1 hx2
        unfold mtI at q
        rw [if_pos id] at q
        omega
      refine ⟨l1, b1, g1, i2, ⟨?_, ?_, i1⟩, fun post hp => start post (p_yes z hp)⟩
      · intro imp
        rcases i3 with ⟨j1, j2, j3⟩ | ⟨h', j1, j1', j2, j3, j4, j5, j6, j7⟩
        · rcases s3 with q | ⟨h, q1, q2, q3⟩
          · exact absurd q notI
          · have := j3 h q1 q2
            rw [q3] at this
            exact absurd imp this
        · have em : mtX H w k c t h' = mtV H w (k + 1) c t := by
            rcases s3 with q | ⟨h, q1, q2, q3⟩
            · exact absurd q notI
            · have a := j5 h q1 q2
              have b := s2 h' j1' j2
              omega
          rw [em] at j4
          exact ⟨j4, fin h' j1' j2 em j6 b1 j7⟩
      · intro imp
        rcases i3 with ⟨j1, j2, j3⟩ | ⟨h', j1, j1', j2, j3, j4, j5, j6, j7⟩
        · exact ⟨j1, j2⟩
        · exfalso
          apply imp
          have a := s2 h' j1' j2
          have x := lX h' j1' j2
          rcases j3 with q | q
          · exact Or.inl q
          · exact Or.inr (Int32.lt_of_le_of_lt (nI_le (by omega) (by omega)) q)
    · -- one may stay idle
      have z : ¬ nI (k + 1 - mtF H t) ≤ 0 := nI_nle (by omega) (by omega)
      have eI0 : mtI H w k c t = mtV H w k (c + 1) t := by
        unfold mtI
        rw [if_neg id, Nat.add_zero]
      rw [eI0] at s1 s3
      obtain ⟨l2, b2, g2, ok2, ⟨m1, m2, m3⟩, hrun⟩ := ih (c + 1) t d' sum l1 b1 (upd g1 c (-1)) (by omega) ht (by omega) (by omega) i2
      refine ⟨l2, b2, g2, ok2, ⟨?_, ?_, ?_⟩, ?_⟩
      · intro imp
        -- idle is the least
        have idle : (∀ h, h < H → hasI t h = 0 → mtV H w k (c + 1) t < mtX H w k c t h) → (l1 = -1 ∨ nI (sum + mtV H w k (c + 1) t) < l1) → l2 = nI (sum + mtV H w (k + 1) c t) ∧ ∀ j, j < C → b2 j = (if j < c then g0 j else mtW H w (k + 1) c t j) := by
          intro a1 a2
          have em : mtV H w (k + 1) c t = mtV H w k (c + 1) t := by
            rcases s3 with q | ⟨h, q1, q2, q3⟩
            · exact q
            · have := a1 h q1 q2
              omega
          have eC : mtC H w k c t = -1 := mtC_n (fun h q1 q2 => by rw [em]; exact a1 h q1 q2)
          obtain ⟨n1, n2⟩ := m1 a2
          refine ⟨by rw [em]; exact n1, ?_⟩
          intro j hj
          rw [n2 j hj]
          by_cases z1 : j < c
          · rw [if_pos (by omega), if_pos z1, upd_ne _ _ (by omega)]
            exact i1 j z1
          · rw [if_neg z1]
            show _ = (if j = c then mtC H w k c t else mtW H w k (c + 1) (mtN t (mtC H w k c t)) j)
            rw [eC, mtN_n]
            by_cases z2 : j = c
            · rw [if_pos (by omega), if_pos z2, z2, upd_eq]
            · rw [if_neg (by omega), if_neg z2]
        rcases i3 with ⟨j1, j2, j3⟩ | ⟨h', j1, j1', j2, j3, j4, j5, j6, j7⟩
        · have lt : ∀ h, h < H → hasI t h = 0 → mtV H w (k + 1) c t < mtX H w k c t h := by
            intro h q1 q2
            have nj := j3 h q1 q2
            have x := lX h q1 q2
            rcases imp with q | q
            · exact absurd (Or.inl q) nj
            · have q3 := Int32.not_lt.mp (fun z => nj (Or.inr z))
              have := (nI_ltI (by omega) (by omega)).mp (Int32.lt_of_lt_of_le q q3)
              omega
          have em : mtV H w (k + 1) c t = mtV H w k (c + 1) t := by
            rcases s3 with q | ⟨h, q1, q2, q3⟩
            · exact q
            · have := lt h q1 q2
              omega
          refine idle (fun h q1 q2 => by rw [← em]; exact lt h q1 q2) ?_
          rw [j1, ← em]
          exact imp
        · have x := lX h' j1' j2
          by_cases less : mtV H w k (c + 1) t < mtX H w k c t h'
          · refine idle (fun h q1 q2 => by have := j5 h q1 q2; omega) (Or.inr ?_)
            rw [j4]
            exact nI_lt (by omega) (by omega)
          · have em : mtX H w k c t h' = mtV H w (k + 1) c t := by
              have b := s2 h' j1' j2
              rcases s3 with q | ⟨h, q1, q2, q3⟩
              · omega
              · have a := j5 h q1 q2
                omega
            obtain ⟨n1, n2⟩ := m2 (by
              rw [j4]
              intro q
              rcases q with q | q
              · exact nI_nm1 (by omega) q
              · have := (nI_ltI (by omega) (by omega)).mp q
                omega)
            rw [n1, n2, j4, em]
            exact ⟨rfl, fin h' j1' j2 em j6 b1 j7⟩
      · intro imp
        have nI0 : ¬ (l0 = -1 ∨ nI (sum + mtV H w k (c + 1) t) < l0) := by
          intro q
          apply imp
          rcases q with q | q
          · exact Or.inl q
          · exact Or.inr (Int32.lt_of_le_of_lt (nI_le (by omega) (by omega)) q)
        rcases i3 with ⟨j1, j2, j3⟩ | ⟨h', j1, j1', j2, j3, j4, j5, j6, j7⟩
        · obtain ⟨n1, n2⟩ := m2 (by rw [j1]; exact nI0)
          exact ⟨n1.trans j1, n2.trans j2⟩
        · exfalso
          apply imp
          have a := s2 h' j1' j2
          have x := lX h' j1' j2
          rcases j3 with q | q
          · exact Or.inl q
          · exact Or.inr (Int32.lt_of_le_of_lt (nI_le (by omega) (by omega)) q)
      · intro j hj
        rw [m3 j (by omega), upd_ne _ _ (by omega)]
        exact i1 j hj
      · intro post hp
        refine start post (p_no z ?_)
        rw [p_all, cT_goes, cT_sg, p_put (by decide) _ (by omega), nI_1, show nI (k + 1 - mtF H t) - 1 = nI (k - mtF H t) from by
          rw [show k + 1 - mtF H t = (k - mtF H t) + 1 by omega]
          exact nI_pred _]
        exact hrun post hp
theorem sim_matched {cs : CS} {ms : MS} (R : Rel cs ms) (p1 : Int32) : ∃ (r : Int32) (cs' : CS) (ms' : MS), rt (wC_X11_matched p1 cs) r cs' ∧ rt (wM_matched p1 ms) r ms' ∧ Rel cs' ms' := by
  have bH := bd_houses R.1.1
  have eH := rd_houses R.1.1
  have bC := bd_clowns R.1.1
  have eC := rd_clowns R.1.1
  obtain ⟨H, hH, e0⟩ := p_rng2 (n := 6) (by decide) bH.1 bH.2
  obtain ⟨C, hC, e1⟩ := p_rng2 (n := 5) (by decide) bC.1 bC.2
  obtain ⟨w, hw, hcm⟩ : ∃ w : Nat → Nat → Nat, mtO w ∧ costsAre w (ms_a ms) := by
    have hx : ∀ c, c < 5 → ∀ h, h < 6 → (ms_a ms (121 + (6 * c + h))).toNatClampNeg ≤ 99 ∧ ms_a ms (121 + (6 * c + h)) = nI (ms_a ms (121 + (6 * c + h))).toNatClampNeg := by
      intro c hc h hh
      obtain ⟨n, hn, e⟩ := p_rng2 (n := 99) (by decide) (bd_costs R.1.1 (h := 6 * c + h) (by omega)).1 (bd_costs R.1.1 (h := 6 * c + h) (by omega)).2
      rw [e, nI_clamp (by omega)]
      exact ⟨hn, rfl⟩
    exact ⟨fun c h => (ms_a ms (121 + (6 * c + h))).toNatClampNeg, fun c hc h hh => (hx c hc h hh).1, fun c hc h hh => (hx c hc h hh).2⟩
  have hcc : ∀ c, c < 5 → ∀ h, h < 6 → cx_c_costs cs (6 * c + h) = nI (w c h) := by
    intro c hc h hh
    rw [rd_costs R.1.1 (h := 6 * c + h) (by omega)]
    exact hcm c hc h hh
  obtain ⟨g, hg, hL⟩ := m_layCheap (ms := ms) (by omega) hC e0 e1 hw hcm
  obtain ⟨l', b', g', ok', ⟨m1, _, _⟩, run⟩ := assign_all (S := cs) (by omega) hC (eH.trans e0) (eC.trans e1) hw hcc C 0 0 8 0 (-1) (cx_t_best cs) (cx_t_goes cs) (by omega) (by omega) (by omega) (by omega) (Or.inl rfl)
  obtain ⟨n1, n2⟩ := m1 (Or.inl rfl)
  rw [Nat.zero_add] at n1
  have lV := mtV_bd (show H < 7 by omega) hw C 0 0 (by omega) (by omega)
  have find : ∀ post : CS → Prop, post (cT cs l' b' g') → wC_X4_find cs post := by
    intro post hp
    unfold wC_X4_find
    rw [p_all, cT_0, q_clownCount (by rw [cT_now, eC]; exact bC.2), q_houseCount (by rw [cT_now, eH]; exact bH.2), cT_now, eC, eH, e0, e1]
    have ei : (if (nI C - nI H) < 0 then (0 : Int32) else (nI C - nI H)) = nI (C - mtF H 0) := by
      rw [mt_t2 H (by omega)]
      by_cases le : H ≤ C
      · rw [nI_sub le, if_neg (nI_pos (by omega))]
      · have e : (nI C - nI H).toInt = (C : Int) - H := by
          rw [Int32.toInt_sub, nI_toInt (by omega), nI_toInt (by omega), Int.bmod_eq_of_le (by omega) (by omega)]
        have lt : nI C - nI H < 0 := by
          apply Int32.lt_iff_toInt_lt.mpr
          rw [e]
          show _ < (0 : Int)
          omega
        rw [if_pos lt, show C - H = 0 by omega]
        rfl
    rw [ei]
    exact run post hp
  have Rn : Rel (cT cs l' b' g') (ms_set_cheap ms g) := Rel_e R (cT_eC _ _ _ _) (ch_eM _ _) (by rw [cT_now]; exact R.1.1.1) (ch_t1 _ _)
  have mM : ∀ post : Int32 → MS → Prop, ∀ x1 : Int32, wM_matched_50 post x1 (nI (mtM H C 0)) (ms_set_cheap ms g) → wM_matched_16 post x1 ms := by
    intro post x1 h
    unfold wM_matched_16
    refine hL _ ?_
    rw [ch_t1, e0, e1]
    unfold mtM at h
    rw [mt_t2 H (by omega)] at h
    refine p_two (fun le => ?_) (fun le => ?_)
    · have := (nI_leI (by omega) (by omega)).mp le
      by_cases e : C ≤ H
      · have e2 : C = H := by omega
        rw [if_pos e, e2] at h
        exact h
      · rw [if_neg e] at h
        exact h
    · have : ¬ H ≤ C := fun q => le (nI_le q (by omega))
      rw [if_pos (by omega)] at h
      exact h
  by_cases c0 : p1 = -1
  · subst c0
    refine ⟨nI (mtV H w C 0 0), cT cs l' b' g', ms_set_cheap ms g, ?_, ?_, Rn⟩
    · intro post hp
      unfold wC_X11_matched
      refine p_yes rfl ?_
      unfold wC_X11_matched_19
      refine find _ (p_yes rfl ?_)
      rw [cT_least]
      rw [← n1] at hp
      exact hp
    · intro post hp
      unfold wM_matched
      refine p_yes rfl (mM post _ ?_)
      unfold wM_matched_50
      refine p_yes rfl ?_
      have e : ms_cheap (ms_set_cheap ms g) 0 + 10000 * nI (mtM H C 0) = nI (mtV H w C 0 0) := by
        rw [ch_t2, show (0 : Nat) = 64 * 0 + 0 from rfl, hg 0 (by omega) (by omega) 0 (by omega), Nat.sub_zero]
        unfold mtG
        rw [show (10000 : Int32) * nI (mtM H C 0) = nI (10000 * mtM H C 0) from nI_lm 10000 _]
        exact Int32.sub_add_cancel _ _
      rw [e]
      exact hp
  · by_cases c : 0 ≤ p1 ∧ p1 < ms_a ms 1
    · obtain ⟨j, hj, rfl⟩ := p_rng (n := C) (by omega) c.1 (by rw [← e1]; exact c.2)
      refine ⟨mtW H w C 0 0 j, cT cs l' b' g', ms_set_cheap ms g, ?_, ?_, Rn⟩
      · intro post hp
        unfold wC_X11_matched
        refine p_no c0 ?_
        rw [q_hasClown, p_b0, eC]
        refine p_val c ?_
        unfold wC_X11_matched_19
        refine find _ (p_no c0 ?_)
        rw [cT_best, p_at (by decide) _ (by omega), n2 j hj, if_neg (Nat.not_lt_zero _)]
        exact hp
      · intro post hp
        unfold wM_matched
        refine p_no c0 ?_
        rw [m_isClown _ bC, p_b0]
        refine p_val c (mM post _ ?_)
        unfold wM_matched_50
        refine p_no c0 ⟨j + 1 + 1, ?_⟩
        exact m_way (by omega) hC e0 hw hcm hg hj post (j + 1) C 0 0 (-1) (by omega) (by omega) (by omega) (fun q => by omega) (fun _ => hp)
    · refine ⟨-2, cs, ms, ?_, ?_, R⟩
      · intro post hp
        unfold wC_X11_matched
        refine p_no c0 ?_
        rw [q_hasClown, p_b0, eC]
        exact p_inv hp (fun c1 => absurd c1 c)
      · intro post hp
        unfold wM_matched
        refine p_no c0 ?_
        rw [m_isClown _ bC, p_b0]
        exact p_inv hp (fun c1 => absurd c1 c)
