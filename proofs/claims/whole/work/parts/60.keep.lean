/-! PURE LAYER: keeping a step -/
def cpf (f : Nat → Int32) (D s n : Nat) : Nat → Int32 := fun j => if D ≤ j ∧ j < D + n then f (s + (j - D)) else f j
theorem cpf_in (f : Nat → Int32) (D s : Nat) {n k : Nat} (h : k < n) : cpf f D s n (D + k) = f (s + k) := by
  unfold cpf
  rw [if_pos (by omega), Nat.add_sub_cancel_left]
theorem cpf_out (f : Nat → Int32) (D s n : Nat) {j : Nat} (h : j < D ∨ D + n ≤ j) : cpf f D s n j = f j := by
  unfold cpf
  rw [if_neg (by omega)]
theorem cpf_step (f : Nat → Int32) {D s i : Nat} (h : D ≤ s ∨ s + i < D) : upd (cpf f D s i) (D + i) (cpf f D s i (s + i)) = cpf f D s (i + 1) := by
  rw [cpf_out f D s i (j := s + i) (by omega)]
  funext j
  by_cases e : j = D + i
  · subst e
    rw [upd_eq, cpf_in f D s (by omega)]
  · rw [upd_ne _ _ e]
    by_cases c : D ≤ j ∧ j < D + i
    · obtain ⟨k, rfl⟩ : ∃ k, j = D + k := ⟨j - D, by omega⟩
      rw [cpf_in f D s (by omega), cpf_in f D s (by omega)]
    · rw [cpf_out f D s i (by omega), cpf_out f D s (i + 1) (by omega)]
theorem cp_fold (f : Nat → Int32) {D s n : Nat} (h : D ≤ s ∨ s + n ≤ D) : upf (fun i g => upd g (D + i) (g (s + i))) n 0 f = cpf f D s n := by
  refine upf_I (fun i g => upd g (D + i) (g (s + i))) (fun i g => g = cpf f D s i) n ?_ n 0 f (by omega) ?_
  · intro i g hi e
    subst e
    exact cpf_step f (by omega)
  · funext j
    exact (cpf_out f D s 0 (by omega)).symm
theorem s_id (S : MS) : ms_set_a S (ms_a S) = S := rfl
theorem m_keep_224 {X : Nat} (hX : X + 74 ≤ 2424) (S : MS) (post : MS → Prop) (hp : post (ms_set_a S (upd (cpf (ms_a S) (X + 44) 2424 30) 4 (cpf (ms_a S) (X + 44) 2424 30 4 + 1)))) : ∃ k : Nat, wM_keep_224 post k (nI X) 0 S := by
  have q : wM_keep_224 post 31 (nI X) (nI 0) (ms_set_a S (ms_a S)) := by
    refine up_loop (fun n g i => wM_keep_224 post n (nI X) i (ms_set_a S g)) (fun i g => upd g (X + 44 + i) (g (2424 + i))) (fun g => post (ms_set_a S (upd g 4 (g 4 + 1)))) 30 ?_ ?_ (ms_a S) ?_
    · intro n g q
      show wM_keep_224 post (n + 1) (nI X) (nI 30) (ms_set_a S g)
      rw [wM_keep_224]
      simp only [p_all, g_aa, s_aa]
      exact p_yes (by decide) q
    · intro n i g hi q
      show wM_keep_224 post (n + 1) (nI X) (nI i) (ms_set_a S g)
      rw [wM_keep_224]
      simp only [p_all, g_aa, s_aa]
      rw [nI_la 2424 i, nI_al 44 X, nI_add, nI_clamp (by omega), nI_clamp (by omega), nI_1]
      exact p_no (nI_ge (b := 30) hi (by decide)) ⟨vp_in_nI (by omega) (by decide), vp_in_nI (by omega) (by decide), q⟩
    · rw [cp_fold (ms_a S) (by omega)]
      exact hp
  rw [s_id] at q
  exact ⟨31, q⟩
theorem m_keep_184 {X c : Nat} (hX : 204 ≤ X) (hX2 : X + 74 ≤ 2424) (hc : c < 5) (S : MS) (post : MS → Prop) (K : Int32 → Int32 → MS → Prop) (hp : K (nI X) (nI c + 1) (ms_set_a S (cpf (ms_a S) (X + 29 + 3 * c) (46 + 5 * c) 3))) : ∃ k : Nat, wM_keep_184 post K k (nI X) (nI c) 0 S := by
  have q : wM_keep_184 post K 4 (nI X) (nI c) (nI 0) (ms_set_a S (ms_a S)) := by
    refine up_loop (fun n g i => wM_keep_184 post K n (nI X) (nI c) i (ms_set_a S g)) (fun i g => upd g (X + 29 + 3 * c + i) (g (46 + 5 * c + i))) (fun g => K (nI X) (nI c + 1) (ms_set_a S g)) 3 ?_ ?_ (ms_a S) ?_
    · intro n g q
      show wM_keep_184 post K (n + 1) (nI X) (nI c) (nI 3) (ms_set_a S g)
      rw [wM_keep_184]
      exact p_yes (by decide) q
    · intro n i g hi q
      show wM_keep_184 post K (n + 1) (nI X) (nI c) (nI i) (ms_set_a S g)
      rw [wM_keep_184]
      unfold wM_own
      simp only [p_all, g_aa, s_aa]
      rw [nI_lm 5 c, nI_la 46 (5 * c), nI_add, nI_clamp (by omega), nI_al 29 X, nI_lm 3 c, nI_add, nI_add, nI_clamp (by omega), nI_1 i]
      exact p_no (nI_ge (b := 3) hi (by decide)) ⟨vp_in_nI (by omega) (by decide), vp_in_nI (by omega) (by decide), q⟩
    · rw [cp_fold (ms_a S) (by omega)]
      exact hp
  rw [s_id] at q
  exact ⟨4, q⟩
def kf177 (X : Nat) (f : Nat → Int32) : Nat → Int32 := upf (fun c g => cpf g (X + 29 + 3 * c) (46 + 5 * c) 3) 5 0 f
theorem m_keep_177 {X : Nat} (hX : 204 ≤ X) (hX2 : X + 74 ≤ 2424) (S : MS) (post : MS → Prop) (hp : ∃ k : Nat, wM_keep_224 post k (nI X) 0 (ms_set_a S (kf177 X (ms_a S)))) : ∃ k : Nat, wM_keep_177 post k (nI X) 0 S := by
  have q : wM_keep_177 post 6 (nI X) (nI 0) (ms_set_a S (ms_a S)) := by
    refine up_loop (fun n g i => wM_keep_177 post n (nI X) i (ms_set_a S g)) (fun c g => cpf g (X + 29 + 3 * c) (46 + 5 * c) 3) (fun g => ∃ k : Nat, wM_keep_224 post k (nI X) 0 (ms_set_a S g)) 5 ?_ ?_ (ms_a S) hp
    · intro n g q
      show wM_keep_177 post (n + 1) (nI X) (nI 5) (ms_set_a S g)
      rw [wM_keep_177]
      exact p_yes (by decide) q
    · intro n i g hi q
      show wM_keep_177 post (n + 1) (nI X) (nI i) (ms_set_a S g)
      rw [wM_keep_177]
      refine p_no (nI_ge (b := 5) hi (by decide)) (m_keep_184 hX hX2 hi _ post _ ?_)
      rw [nI_1, g_aa, s_aa]
      exact q
  rw [s_id] at q
  exact ⟨6, q⟩
theorem kf177_in {X : Nat} (hX : 204 ≤ X) (f : Nat → Int32) {c k : Nat} (hc : c < 5) (hk : k < 3) : kf177 X f (X + 29 + 3 * c + k) = f (46 + 5 * c + k) := by
  have q := upf_I (fun c g => cpf g (X + 29 + 3 * c) (46 + 5 * c) 3) (fun i g => (∀ c k, c < i → k < 3 → g (X + 29 + 3 * c + k) = f (46 + 5 * c + k)) ∧ (∀ j, j < 204 → g j = f j)) 5 (by
    intro i g hi h
    obtain ⟨h1, h2⟩ := h
    refine ⟨?_, ?_⟩
    · intro c k hc hk
      by_cases e : c = i
      · subst e
        show cpf g (X + 29 + 3 * c) (46 + 5 * c) 3 (X + 29 + 3 * c + k) = _
        rw [cpf_in g _ _ hk]
        exact h2 _ (by omega)
      · show cpf g (X + 29 + 3 * i) (46 + 5 * i) 3 (X + 29 + 3 * c + k) = _
        rw [cpf_out g _ _ _ (by omega)]
        exact h1 c k (by omega) hk
    · intro j hj
      show cpf g (X + 29 + 3 * i) (46 + 5 * i) 3 j = _
      rw [cpf_out g _ _ _ (by omega)]
      exact h2 j hj) 5 0 f (by omega) ⟨fun c k hc _ => by omega, fun _ _ => rfl⟩
  exact q.1 c k hc hk
theorem kf177_out (X : Nat) (f : Nat → Int32) {j : Nat} (hj : j < X + 29 ∨ X + 44 ≤ j) : kf177 X f j = f j := by
  have q := upf_I (fun c g => cpf g (X + 29 + 3 * c) (46 + 5 * c) 3) (fun _ g => g j = f j) 5 (by
    intro i g hi h
    show cpf g (X + 29 + 3 * i) (46 + 5 * i) 3 j = _
    rw [cpf_out g _ _ _ (by omega)]
    exact h) 5 0 f (by omega) rfl
  exact q
theorem m_keep_138 {X c : Nat} (hX : 204 ≤ X) (hX2 : X + 74 ≤ 2424) (hc : c < 6) (S : MS) (post : MS → Prop) (K : Int32 → Int32 → MS → Prop) (hp : K (nI X) (nI c + 1) (ms_set_a S (cpf (ms_a S) (X + 5 + 4 * c) (10 + 6 * c) 4))) : ∃ k : Nat, wM_keep_138 post K k (nI X) (nI c) 0 S := by
  have q : wM_keep_138 post K 5 (nI X) (nI c) (nI 0) (ms_set_a S (ms_a S)) := by
    refine up_loop (fun n g i => wM_keep_138 post K n (nI X) (nI c) i (ms_set_a S g)) (fun i g => upd g (X + 5 + 4 * c + i) (g (10 + 6 * c + i))) (fun g => K (nI X) (nI c + 1) (ms_set_a S g)) 4 ?_ ?_ (ms_a S) ?_
    · intro n g q
      show wM_keep_138 post K (n + 1) (nI X) (nI c) (nI 4) (ms_set_a S g)
      rw [wM_keep_138]
      exact p_yes (by decide) q
    · intro n i g hi q
      show wM_keep_138 post K (n + 1) (nI X) (nI c) (nI i) (ms_set_a S g)
      rw [wM_keep_138]
      unfold wM_get
      simp only [p_all, g_aa, s_aa]
      rw [nI_lm 6 c, nI_la 10 (6 * c), nI_add, nI_clamp (by omega), nI_al 5 X, nI_lm 4 c, nI_add, nI_add, nI_clamp (by omega), nI_1 i]
      exact p_no (nI_ge (b := 4) hi (by decide)) ⟨vp_in_nI (by omega) (by decide), vp_in_nI (by omega) (by decide), q⟩
    · rw [cp_fold (ms_a S) (by omega)]
      exact hp
  rw [s_id] at q
  exact ⟨5, q⟩
def kf130 (X : Nat) (f : Nat → Int32) : Nat → Int32 := upf (fun c g => cpf g (X + 5 + 4 * c) (10 + 6 * c) 4) 6 0 f
theorem m_keep_130 {X : Nat} (hX : 204 ≤ X) (hX2 : X + 74 ≤ 2424) (S : MS) (post : MS → Prop) (hp : ∃ k : Nat, wM_keep_177 post k (nI X) 0 (ms_set_a S (kf130 X (ms_a S)))) : ∃ k : Nat, wM_keep_130 post k (nI X) 0 S := by
  have q : wM_keep_130 post 7 (nI X) (nI 0) (ms_set_a S (ms_a S)) := by
    refine up_loop (fun n g i => wM_keep_130 post n (nI X) i (ms_set_a S g)) (fun c g => cpf g (X + 5 + 4 * c) (10 + 6 * c) 4) (fun g => ∃ k : Nat, wM_keep_177 post k (nI X) 0 (ms_set_a S g)) 6 ?_ ?_ (ms_a S) hp
    · intro n g q
      show wM_keep_130 post (n + 1) (nI X) (nI 6) (ms_set_a S g)
      rw [wM_keep_130]
      exact p_yes (by decide) q
    · intro n i g hi q
      show wM_keep_130 post (n + 1) (nI X) (nI i) (ms_set_a S g)
      rw [wM_keep_130]
      refine p_no (nI_ge (b := 6) hi (by decide)) (m_keep_138 hX hX2 hi _ post _ ?_)
      rw [nI_1, g_aa, s_aa]
      exact q
  rw [s_id] at q
  exact ⟨7, q⟩
theorem kf130_in {X : Nat} (hX : 204 ≤ X) (f : Nat → Int32) {c k : Nat} (hc : c < 6) (hk : k < 4) : kf130 X f (X + 5 + 4 * c + k) = f (10 + 6 * c + k) := by
  have q := upf_I (fun c g => cpf g (X + 5 + 4 * c) (10 + 6 * c) 4) (fun i g => (∀ c k, c < i → k < 4 → g (X + 5 + 4 * c + k) = f (10 + 6 * c + k)) ∧ (∀ j, j < 204 → g j = f j)) 6 (by
    intro i g hi h
    obtain ⟨h1, h2⟩ := h
    refine ⟨?_, ?_⟩
    · intro c k hc hk
      by_cases e : c = i
      · subst e
        show cpf g (X + 5 + 4 * c) (10 + 6 * c) 4 (X + 5 + 4 * c + k) = _
        rw [cpf_in g _ _ hk]
        exact h2 _ (by omega)
      · show cpf g (X + 5 + 4 * i) (10 + 6 * i) 4 (X + 5 + 4 * c + k) = _
        rw [cpf_out g _ _ _ (by omega)]
        exact h1 c k (by omega) hk
    · intro j hj
      show cpf g (X + 5 + 4 * i) (10 + 6 * i) 4 j = _
      rw [cpf_out g _ _ _ (by omega)]
      exact h2 j hj) 6 0 f (by omega) ⟨fun c k hc _ => by omega, fun _ _ => rfl⟩
  exact q.1 c k hc hk
theorem kf130_out (X : Nat) (f : Nat → Int32) {j : Nat} (hj : j < X + 5 ∨ X + 29 ≤ j) : kf130 X f j = f j := by
  have q := upf_I (fun c g => cpf g (X + 5 + 4 * c) (10 + 6 * c) 4) (fun _ g => g j = f j) 6 (by
    intro i g hi h
    show cpf g (X + 5 + 4 * i) (10 + 6 * i) 4 j = _
    rw [cpf_out g _ _ _ (by omega)]
    exact h) 6 0 f (by omega) rfl
  exact q
theorem m_keep_98 {X : Nat} (hX : 204 ≤ X) (hX2 : X + 74 ≤ 2424) (S : MS) (post : MS → Prop) (hp : ∃ k : Nat, wM_keep_130 post k (nI X) 0 (ms_set_a S (cpf (ms_a S) (X + 2) 7 3))) : ∃ k : Nat, wM_keep_98 post k (nI X) 0 S := by
  have q : wM_keep_98 post 4 (nI X) (nI 0) (ms_set_a S (ms_a S)) := by
    refine up_loop (fun n g i => wM_keep_98 post n (nI X) i (ms_set_a S g)) (fun i g => upd g (X + 2 + i) (g (7 + i))) (fun g => ∃ k : Nat, wM_keep_130 post k (nI X) 0 (ms_set_a S g)) 3 ?_ ?_ (ms_a S) ?_
    · intro n g q
      show wM_keep_98 post (n + 1) (nI X) (nI 3) (ms_set_a S g)
      rw [wM_keep_98]
      exact p_yes (by decide) q
    · intro n i g hi q
      show wM_keep_98 post (n + 1) (nI X) (nI i) (ms_set_a S g)
      rw [wM_keep_98]
      simp only [p_all, g_aa, s_aa]
      rw [nI_la 7 i, nI_al 2 X, nI_add, nI_clamp (by omega), nI_clamp (by omega), nI_1]
      exact p_no (nI_ge (b := 3) hi (by decide)) ⟨vp_in_nI (by omega) (by decide), vp_in_nI (by omega) (by decide), q⟩
    · rw [cp_fold (ms_a S) (by omega)]
      exact hp
  rw [s_id] at q
  exact ⟨4, q⟩
/-- what keeping makes of the row -/
def Kept (n : Nat) (a a' : Nat → Int32) : Prop := (∀ i, i < 74 → a' (204 + 74 * n + jx i) = a (ix i)) ∧ a' 4 = nI (n + 1) ∧ ∀ k, k ≠ 4 → (k < 204 + 74 * n ∨ 278 + 74 * n ≤ k) → a' k = a k
theorem ixj : ∀ k, k < 74 → (k = 0 → ix (jxR k) = 0) ∧ (k = 1 → ix (jxR k) = 1) ∧ (2 ≤ k → k < 5 → ix (jxR k) = 7 + (k - 2)) ∧ (5 ≤ k → k < 29 → ix (jxR k) = 10 + 6 * ((k - 5) / 4) + (k - 5) % 4) ∧ (29 ≤ k → k < 44 → ix (jxR k) = 46 + 5 * ((k - 29) / 3) + (k - 29) % 3) ∧ (44 ≤ k → ix (jxR k) = 2424 + (k - 44)) := by decide +kernel
theorem m_keep_56 {n : Nat} (hn : n < 30) {S : MS} (e : ms_a S 4 = nI n) : ∃ a' : Nat → Int32, Kept n (ms_a S) a' ∧ ∀ post : MS → Prop, post (ms_set_a S a') → wM_keep_56 post S := by
  obtain ⟨X, hX⟩ : ∃ X, X = 204 + 74 * n := ⟨_, rfl⟩
  have hX1 : 204 ≤ X := by omega
  have hX2 : X + 74 ≤ 2424 := by omega
  obtain ⟨f1, e1⟩ : ∃ f, f = upd (ms_a S) X (ms_a S 0) := ⟨_, rfl⟩
  obtain ⟨f2, e2⟩ : ∃ f, f = upd f1 (X + 1) (f1 1) := ⟨_, rfl⟩
  obtain ⟨f3, e3⟩ : ∃ f, f = cpf f2 (X + 2) 7 3 := ⟨_, rfl⟩
  obtain ⟨f4, e4⟩ : ∃ f, f = kf130 X f3 := ⟨_, rfl⟩
  obtain ⟨f5, e5⟩ : ∃ f, f = kf177 X f4 := ⟨_, rfl⟩
  obtain ⟨f6, e6⟩ : ∃ f, f = cpf f5 (X + 44) 2424 30 := ⟨_, rfl⟩
  have b2 : ∀ j, j ≠ X → j ≠ X + 1 → f2 j = ms_a S j := by
    intro j h1 h2
    rw [e2, upd_ne _ _ h2, e1, upd_ne _ _ h1]
  have b3 : ∀ j, j < X ∨ X + 5 ≤ j → f3 j = ms_a S j := by
    intro j h
    rw [e3, cpf_out _ _ _ _ (by omega)]
    exact b2 j (by omega) (by omega)
  have b4 : ∀ j, j < X ∨ X + 29 ≤ j → f4 j = ms_a S j := by
    intro j h
    rw [e4, kf130_out X f3 (by omega)]
    exact b3 j (by omega)
  have b5 : ∀ j, j < X ∨ X + 44 ≤ j → f5 j = ms_a S j := by
    intro j h
    rw [e5, kf177_out X f4 (by omega)]
    exact b4 j (by omega)
  have b6 : ∀ j, j < X ∨ X + 74 ≤ j → f6 j = ms_a S j := by
    intro j h
    rw [e6, cpf_out _ _ _ _ (by omega)]
    exact b5 j (by omega)
  have row : ∀ k, k < 74 → f6 (X + k) = ms_a S (ix (jxR k)) := by
    intro k hk
    obtain ⟨i0, i1, i2, i3, i4, i5⟩ := ixj k hk
    by_cases c5 : 44 ≤ k
    · obtain ⟨m, rfl⟩ : ∃ m, k = 44 + m := ⟨k - 44, by omega⟩
      rw [i5 c5, e6, ← Nat.add_assoc, cpf_in _ _ _ (by omega), Nat.add_sub_cancel_left]
      exact b5 _ (by omega)
    · rw [e6, cpf_out _ _ _ _ (by omega)]
      by_cases c4 : 29 ≤ k
      · rw [i4 c4 (by omega), e5]
        have q := kf177_in hX1 f4 (c := (k - 29) / 3) (k := (k - 29) % 3) (by omega) (by omega)
        rw [show X + 29 + 3 * ((k - 29) / 3) + (k - 29) % 3 = X + k by omega] at q
        rw [q]
        exact b4 _ (by omega)
      · rw [e5, kf177_out X f4 (by omega)]
        by_cases c3 : 5 ≤ k
        · rw [i3 c3 (by omega), e4]
          have q := kf130_in hX1 f3 (c := (k - 5) / 4) (k := (k - 5) % 4) (by omega) (by omega)
          rw [show X + 5 + 4 * ((k - 5) / 4) + (k - 5) % 4 = X + k by omega] at q
          rw [q]
          exact b3 _ (by omega)
        · rw [e4, kf130_out X f3 (by omega)]
          by_cases c2 : 2 ≤ k
          · obtain ⟨m, rfl⟩ : ∃ m, k = 2 + m := ⟨k - 2, by omega⟩
            rw [i2 c2 (by omega), e3, ← Nat.add_assoc, cpf_in _ _ _ (by omega), Nat.add_sub_cancel_left]
            exact b2 _ (by omega) (by omega)
          · rw [e3, cpf_out _ _ _ _ (by omega)]
            by_cases c1 : k = 1
            · rw [i1 c1, c1, e2, upd_eq, e1, upd_ne _ _ (by omega)]
            · have c0 : k = 0 := by omega
              rw [i0 c0, c0, e2, upd_ne _ _ (by omega), e1, Nat.add_zero, upd_eq]
  refine ⟨upd f6 4 (nI (n + 1)), ⟨?_, upd_eq _ _ _, ?_⟩, ?_⟩
  · intro i hi
    have := jx_lt i hi
    rw [upd_ne _ _ (by omega), ← hX, row (jx i) this, jxR_jx i hi]
  · intro k h4 hk
    rw [upd_ne _ _ h4]
    exact b6 k (by omega)
  · intro post hp
    unfold wM_keep_56
    rw [e, nI_lm 74 n, nI_la 204 (74 * n), ← hX, nI_1, nI_clamp (by omega), nI_clamp (by omega)]
    simp only [p_all, g_aa, s_aa]
    rw [← e1, ← e2]
    refine ⟨vp_in_nI (by omega) (by decide), vp_in_nI (by omega) (by decide), m_keep_98 hX1 hX2 _ post (m_keep_130 hX1 hX2 _ post (m_keep_177 hX1 hX2 _ post (m_keep_224 hX2 _ post ?_)))⟩
    simp only [g_aa, s_aa]
    rw [← e3, ← e4, ← e5, ← e6, b6 4 (by omega), e, nI_1]
    exact hp
theorem m_keep_13 {S : MS} (e : ms_a S 4 = 30) (post : MS → Prop) (hp : wM_keep_56 post (ms_set_a S (upd (cpf (ms_a S) 204 278 2146) 4 29))) : ∃ k : Nat, wM_keep_13 post k 0 S := by
  have q : wM_keep_13 post 2147 (nI 0) (ms_set_a S (ms_a S)) := by
    refine up_loop (fun n g i => wM_keep_13 post n i (ms_set_a S g)) (fun i g => upd g (204 + i) (g (278 + i))) (fun g => wM_keep_56 post (ms_set_a S (upd g 4 (g 4 - 1)))) 2146 ?_ ?_ (ms_a S) ?_
    · intro n g q
      show wM_keep_13 post (n + 1) (nI 2146) (ms_set_a S g)
      rw [wM_keep_13]
      simp only [p_all, g_aa, s_aa]
      exact p_yes (by decide) q
    · intro n i g hi q
      show wM_keep_13 post (n + 1) (nI i) (ms_set_a S g)
      rw [wM_keep_13]
      simp only [p_all, g_aa, s_aa]
      rw [nI_la 278 i, nI_la 204 i, nI_clamp (by omega), nI_clamp (by omega), nI_1]
      exact p_no (nI_ge (b := 2146) hi (by decide)) ⟨vp_in_nI (by omega) (by decide), vp_in_nI (by omega) (by decide), q⟩
    · rw [cp_fold (ms_a S) (by omega), cpf_out _ _ _ _ (by omega), e]
      exact hp
  rw [s_id] at q
  exact ⟨2147, q⟩
