/-! PURE LAYER: undo -/
theorem upd_id {f : Nat → Int32} {k : Nat} {v : Int32} (h : f k = v) : upd f k v = f := by
  funext j
  by_cases e : j = k
  · subst e
    rw [upd_eq]
    exact h.symm
  · exact upd_ne _ _ e
theorem m_undo_226 {X : Nat} (hX : 204 ≤ X) (hX2 : X + 74 ≤ 2424) (S : MS) (post : Int32 → MS → Prop) (hp : post (ms_a S 4) (ms_set_a S (cpf (ms_a S) 2424 (X + 44) 30))) : ∃ k : Nat, wM_undo_226 post k (nI X) 0 S := by
  have q : wM_undo_226 post 31 (nI X) (nI 0) (ms_set_a S (ms_a S)) := by
    refine up_loop (fun n g i => wM_undo_226 post n (nI X) i (ms_set_a S g)) (fun i g => upd g (2424 + i) (g (X + 44 + i))) (fun g => post (g 4) (ms_set_a S g)) 30 ?_ ?_ (ms_a S) ?_
    · intro n g q
      show wM_undo_226 post (n + 1) (nI X) (nI 30) (ms_set_a S g)
      rw [wM_undo_226]
      exact p_yes (by decide) q
    · intro n i g hi q
      show wM_undo_226 post (n + 1) (nI X) (nI i) (ms_set_a S g)
      rw [wM_undo_226]
      simp only [p_all, g_aa, s_aa]
      rw [nI_la 2424 i, nI_al 44 X, nI_add, nI_clamp (by omega), nI_clamp (by omega), nI_1]
      exact p_no (nI_ge (b := 30) hi (by decide)) ⟨vp_in_nI (by omega) (by decide), vp_in_nI (by omega) (by decide), q⟩
    · rw [cp_fold (ms_a S) (by omega), cpf_out _ _ _ _ (by omega)]
      exact hp
  rw [s_id] at q
  exact ⟨31, q⟩
theorem m_undo_37 {X : Nat} (hX : 204 ≤ X) (hX2 : X + 74 ≤ 2424) (S : MS) (post : Int32 → MS → Prop) (hp : ∃ k : Nat, wM_undo_69 post k (nI X) 0 (ms_set_a S (cpf (ms_a S) 7 (X + 2) 3))) : ∃ k : Nat, wM_undo_37 post k (nI X) 0 S := by
  have q : wM_undo_37 post 4 (nI X) (nI 0) (ms_set_a S (ms_a S)) := by
    refine up_loop (fun n g i => wM_undo_37 post n (nI X) i (ms_set_a S g)) (fun i g => upd g (7 + i) (g (X + 2 + i))) (fun g => ∃ k : Nat, wM_undo_69 post k (nI X) 0 (ms_set_a S g)) 3 ?_ ?_ (ms_a S) ?_
    · intro n g q
      show wM_undo_37 post (n + 1) (nI X) (nI 3) (ms_set_a S g)
      rw [wM_undo_37]
      exact p_yes (by decide) q
    · intro n i g hi q
      show wM_undo_37 post (n + 1) (nI X) (nI i) (ms_set_a S g)
      rw [wM_undo_37]
      simp only [p_all, g_aa, s_aa]
      rw [nI_la 7 i, nI_al 2 X, nI_add, nI_clamp (by omega), nI_clamp (by omega), nI_1]
      exact p_no (nI_ge (b := 3) hi (by decide)) ⟨vp_in_nI (by omega) (by decide), vp_in_nI (by omega) (by decide), q⟩
    · rw [cp_fold (ms_a S) (by omega)]
      exact hp
  rw [s_id] at q
  exact ⟨4, q⟩
theorem m_undo_96 {X h s : Nat} (hX : 204 ≤ X) (hX2 : X + 74 ≤ 2424) (hh : h < 6) (hs : s ≤ 6) (S : MS) (f : Nat → Int32) (e : f (X) = nI s) (post : Int32 → MS → Prop) (K : Int32 → Int32 → MS → Prop) (hp : K (nI X) (nI h + 1) (ms_set_a S (if h < s then cpf f (10 + 6 * h) (X + 5 + 4 * h) 4 else f))) : ∃ k : Nat, wM_undo_96 post K k (nI X) (nI h) 0 (ms_set_a S f) := by
  by_cases c : h < s
  · rw [if_pos c] at hp
    refine ⟨5, up_loopI (fun n g i => wM_undo_96 post K n (nI X) (nI h) i (ms_set_a S g)) (fun i g => upd g (10 + 6 * h + i) (g (X + 5 + 4 * h + i))) (fun g => K (nI X) (nI h + 1) (ms_set_a S g)) (fun _ g => g (X) = nI s) 4 ?_ ?_ ?_ 4 0 f (by omega) e ?_⟩
    · intro i g hi I
      show upd g (10 + 6 * h + i) (g (X + 5 + 4 * h + i)) (X) = nI s
      rw [upd_ne _ _ (by omega)]
      exact I
    · intro n g _ q
      show wM_undo_96 post K (n + 1) (nI X) (nI h) (nI 4) (ms_set_a S g)
      rw [wM_undo_96]
      exact p_yes (by decide) q
    · intro n i g hi I q
      show wM_undo_96 post K (n + 1) (nI X) (nI h) (nI i) (ms_set_a S g)
      rw [wM_undo_96]
      unfold wM_put
      simp only [p_all, g_aa, s_aa]
      rw [nI_al 5 X, nI_lm 4 h, nI_add, nI_add, nI_clamp (by omega), nI_lm 6 h, nI_la 10 (6 * h), nI_add, nI_clamp (by omega), nI_1 i, nI_clamp (by omega), I]
      exact p_no (nI_ge (b := 4) hi (by decide)) ⟨vp_in_nI (by omega) (by decide), p_no (nI_ge c (by omega)) ⟨vp_in_nI (by omega) (by decide), vp_in_nI (by omega) (by decide), q⟩⟩
    · rw [cp_fold f (by omega)]
      exact hp
  · rw [if_neg c] at hp
    refine ⟨1, ?_⟩
    rw [wM_undo_96]
    simp only [g_aa]
    rw [nI_clamp (by omega), e]
    exact p_no (by decide) ⟨vp_in_nI (by omega) (by decide), p_yes (nI_le (by omega) (by omega)) hp⟩
def uf69 (X s H : Nat) (f : Nat → Int32) : Nat → Int32 := upf (fun h g => if h < s then cpf g (10 + 6 * h) (X + 5 + 4 * h) 4 else g) H 0 f
theorem m_undo_69 {X s H : Nat} (hX : 204 ≤ X) (hX2 : X + 74 ≤ 2424) (hs : s ≤ 6) (hH : H ≤ 6) (S : MS) (f : Nat → Int32) (e : f (X) = nI s) (eH : f 0 = nI H) (told : ∀ h, s ≤ h → h < H → f (10 + 6 * h) = f (15 + 6 * h) ∧ f (11 + 6 * h) = 0 ∧ f (12 + 6 * h) = -1 ∧ f (13 + 6 * h) = 0) (post : Int32 → MS → Prop) (hp : ∃ k : Nat, wM_undo_145 post k (nI X) 0 (ms_set_a S (uf69 X s H f))) : ∃ k : Nat, wM_undo_69 post k (nI X) 0 (ms_set_a S f) := by
  refine ⟨H + 1, up_loopI (fun n g i => wM_undo_69 post n (nI X) i (ms_set_a S g)) (fun h g => if h < s then cpf g (10 + 6 * h) (X + 5 + 4 * h) 4 else g) (fun g => ∃ k : Nat, wM_undo_145 post k (nI X) 0 (ms_set_a S g)) (fun i g => (∀ j, j < 10 ∨ 46 ≤ j → g j = f j) ∧ (∀ h, i ≤ h → h < 6 → ∀ k, k < 6 → g (10 + 6 * h + k) = f (10 + 6 * h + k))) H ?_ ?_ ?_ H 0 f (by omega) ⟨fun _ _ => rfl, fun _ _ _ _ _ => rfl⟩ hp⟩
  · intro i g hi I
    obtain ⟨I1, I2⟩ := I
    by_cases c : i < s
    · rw [if_pos c]
      refine ⟨?_, ?_⟩
      · intro j hj
        rw [cpf_out _ _ _ _ (by omega)]
        exact I1 j hj
      · intro h h1 h2 k hk
        rw [cpf_out _ _ _ _ (by omega)]
        exact I2 h (by omega) h2 k hk
    · rw [if_neg c]
      exact ⟨I1, fun h h1 => I2 h (by omega)⟩
  · intro n g I q
    show wM_undo_69 post (n + 1) (nI X) (nI H) (ms_set_a S g)
    rw [wM_undo_69]
    refine p_yes ?_ q
    rw [g_aa, I.1 0 (by omega), eH]
    exact Int32.le_refl _
  · intro n i g hi I q
    obtain ⟨I1, I2⟩ := I
    show wM_undo_69 post (n + 1) (nI X) (nI i) (ms_set_a S g)
    have eg : g (X) = nI s := (I1 (X) (by omega)).trans e
    have q' : wM_undo_69 post n (nI X) (nI (i + 1)) (ms_set_a S (if i < s then cpf g (10 + 6 * i) (X + 5 + 4 * i) 4 else g)) := q
    have inn : ∃ k : Nat, wM_undo_96 post (wM_undo_69 post n) k (nI X) (nI i) 0 (ms_set_a S g) := by
      refine m_undo_96 hX hX2 (by omega) hs S g eg post _ ?_
      rw [nI_1]
      exact q'
    rw [wM_undo_69, g_aa, I1 0 (by omega), eH, nI_clamp (by omega), eg]
    refine p_no (nI_ge hi (by omega)) ⟨vp_in_nI (by omega) (by decide), p_two (fun _ => inn) (fun c => ?_)⟩
    have c' : ¬ i < s := fun h => c (nI_lt h (by omega))
    show wM_begin (nI i) (ms_set_a S g) (fun S_4 => ∃ k : Nat, wM_undo_96 post (wM_undo_69 post n) k (nI X) (nI i) 0 S_4)
    have bb : wM_begin (nI i) (ms_set_a S g) (fun S_4 => ∃ k : Nat, wM_undo_96 post (wM_undo_69 post n) k (nI X) (nI i) 0 S_4) := by
        have b := told i (by omega) hi
        have z : ∀ k, k < 6 → g (10 + 6 * i + k) = f (10 + 6 * i + k) := fun k hk => I2 i (Nat.le_refl i) (by omega) k hk
        have z0 := z 0 (by omega)
        have z1 := z 1 (by omega)
        have z2 := z 2 (by omega)
        have z3 := z 3 (by omega)
        have z5 := z 5 (by omega)
        rw [Nat.add_zero] at z0
        rw [show 10 + 6 * i + 1 = 11 + 6 * i by omega] at z1
        rw [show 10 + 6 * i + 2 = 12 + 6 * i by omega] at z2
        rw [show 10 + 6 * i + 3 = 13 + 6 * i by omega] at z3
        rw [show 10 + 6 * i + 5 = 15 + 6 * i by omega] at z5
        unfold wM_begin
        simp only [m_get_told (show i < 6 by omega), m_put_grief (show i < 6 by omega), m_put_mood (show i < 6 by omega), m_put_clock (show i < 6 by omega), m_put_laughed (show i < 6 by omega), g_aa, s_aa]
        rw [upd_id (f := g) (v := g (15 + 6 * i)) (by rw [z0, z5]; exact b.1), upd_id (f := g) (v := 0) (z1.trans b.2.1), upd_id (f := g) (v := -1) (z2.trans b.2.2.1), upd_id (f := g) (v := 0) (z3.trans b.2.2.2)]
        exact inn
    exact bb
theorem uf69_in {X s H : Nat} (hX : 204 ≤ X) (hs : s ≤ 6) (hsH : s ≤ H) (f : Nat → Int32) {h k : Nat} (hh : h < s) (hk : k < 4) : uf69 X s H f (10 + 6 * h + k) = f (X + 5 + 4 * h + k) := by
  have q := upf_I (fun h g => if h < s then cpf g (10 + 6 * h) (X + 5 + 4 * h) 4 else g) (fun i g => (∀ h k, h < i → h < s → k < 4 → g (10 + 6 * h + k) = f (X + 5 + 4 * h + k)) ∧ (∀ j, 204 ≤ j → g j = f j)) H (by
    intro i g hi I
    obtain ⟨I1, I2⟩ := I
    by_cases c : i < s
    · rw [if_pos c]
      refine ⟨?_, ?_⟩
      · intro h k h1 h2 hk
        by_cases e : h = i
        · subst e
          rw [cpf_in g _ _ hk]
          exact I2 _ (by omega)
        · rw [cpf_out g _ _ _ (by omega)]
          exact I1 h k (by omega) h2 hk
      · intro j hj
        rw [cpf_out g _ _ _ (by omega)]
        exact I2 j hj
    · rw [if_neg c]
      exact ⟨fun h k h1 h2 => I1 h k (by omega) h2, I2⟩) H 0 f (by omega) ⟨fun h k hc _ _ => by omega, fun _ _ => rfl⟩
  exact q.1 h k (by omega) hh hk
theorem uf69_out {X s H : Nat} (f : Nat → Int32) {j : Nat} (hj : ∀ h k, h < s → k < 4 → j ≠ 10 + 6 * h + k) : uf69 X s H f j = f j := by
  have q := upf_I (fun h g => if h < s then cpf g (10 + 6 * h) (X + 5 + 4 * h) 4 else g) (fun _ g => g j = f j) H (by
    intro i g hi I
    show (if i < s then cpf g (10 + 6 * i) (X + 5 + 4 * i) 4 else g) j = f j
    by_cases c : i < s
    · rw [if_pos c, cpf_out g _ _ _ ?_]
      · exact I
      · by_cases d : j < 10 + 6 * i
        · exact Or.inl d
        · right
          by_cases e : 10 + 6 * i + 4 ≤ j
          · exact e
          · exact absurd (show j = 10 + 6 * i + (j - (10 + 6 * i)) by omega) (hj i (j - (10 + 6 * i)) c (by omega))
    · rw [if_neg c]
      exact I) H 0 f (by omega) rfl
  exact q
theorem m_undo_174 {X h s : Nat} (hX : 204 ≤ X) (hX2 : X + 74 ≤ 2424) (hh : h < 5) (hs : s ≤ 5) (S : MS) (f : Nat → Int32) (e : f (X + 1) = nI s) (post : Int32 → MS → Prop) (K : Int32 → Int32 → MS → Prop) (hp : K (nI X) (nI h + 1) (ms_set_a S (if h < s then cpf f (46 + 5 * h) (X + 29 + 3 * h) 3 else f))) : ∃ k : Nat, wM_undo_174 post K k (nI X) (nI h) 0 (ms_set_a S f) := by
  by_cases c : h < s
  · rw [if_pos c] at hp
    refine ⟨4, up_loopI (fun n g i => wM_undo_174 post K n (nI X) (nI h) i (ms_set_a S g)) (fun i g => upd g (46 + 5 * h + i) (g (X + 29 + 3 * h + i))) (fun g => K (nI X) (nI h + 1) (ms_set_a S g)) (fun _ g => g (X + 1) = nI s) 3 ?_ ?_ ?_ 3 0 f (by omega) e ?_⟩
    · intro i g hi I
      show upd g (46 + 5 * h + i) (g (X + 29 + 3 * h + i)) (X + 1) = nI s
      rw [upd_ne _ _ (by omega)]
      exact I
    · intro n g _ q
      show wM_undo_174 post K (n + 1) (nI X) (nI h) (nI 3) (ms_set_a S g)
      rw [wM_undo_174]
      exact p_yes (by decide) q
    · intro n i g hi I q
      show wM_undo_174 post K (n + 1) (nI X) (nI h) (nI i) (ms_set_a S g)
      rw [wM_undo_174]
      unfold wM_lay
      simp only [p_all, g_aa, s_aa]
      rw [nI_al 29 X, nI_lm 3 h, nI_add, nI_add, nI_clamp (by omega), nI_lm 5 h, nI_la 46 (5 * h), nI_add, nI_clamp (by omega), nI_1 i, nI_1 X, nI_clamp (by omega), I]
      exact p_no (nI_ge (b := 3) hi (by decide)) ⟨vp_in_nI (by omega) (by decide), p_no (nI_ge c (by omega)) ⟨vp_in_nI (by omega) (by decide), vp_in_nI (by omega) (by decide), q⟩⟩
    · rw [cp_fold f (by omega)]
      exact hp
  · rw [if_neg c] at hp
    refine ⟨1, ?_⟩
    rw [wM_undo_174]
    simp only [g_aa]
    rw [nI_1 X, nI_clamp (by omega), e]
    exact p_no (by decide) ⟨vp_in_nI (by omega) (by decide), p_yes (nI_le (by omega) (by omega)) hp⟩
def uf145 (X s H : Nat) (f : Nat → Int32) : Nat → Int32 := upf (fun h g => if h < s then cpf g (46 + 5 * h) (X + 29 + 3 * h) 3 else g) H 0 f
theorem m_undo_145 {X s H : Nat} (hX : 204 ≤ X) (hX2 : X + 74 ≤ 2424) (hs : s ≤ 5) (hH : H ≤ 5) (S : MS) (f : Nat → Int32) (e : f (X + 1) = nI s) (eH : f 1 = nI H) (told : ∀ h, s ≤ h → h < H → f (46 + 5 * h) = 0 ∧ f (47 + 5 * h) = -1 ∧ f (48 + 5 * h) = 0) (post : Int32 → MS → Prop) (hp : ∃ k : Nat, wM_undo_226 post k (nI X) 0 (ms_set_a S (uf145 X s H f))) : ∃ k : Nat, wM_undo_145 post k (nI X) 0 (ms_set_a S f) := by
  refine ⟨H + 1, up_loopI (fun n g i => wM_undo_145 post n (nI X) i (ms_set_a S g)) (fun h g => if h < s then cpf g (46 + 5 * h) (X + 29 + 3 * h) 3 else g) (fun g => ∃ k : Nat, wM_undo_226 post k (nI X) 0 (ms_set_a S g)) (fun i g => (∀ j, j < 46 ∨ 71 ≤ j → g j = f j) ∧ (∀ h, i ≤ h → h < 5 → ∀ k, k < 5 → g (46 + 5 * h + k) = f (46 + 5 * h + k))) H ?_ ?_ ?_ H 0 f (by omega) ⟨fun _ _ => rfl, fun _ _ _ _ _ => rfl⟩ hp⟩
  · intro i g hi I
    obtain ⟨I1, I2⟩ := I
    by_cases c : i < s
    · rw [if_pos c]
      refine ⟨?_, ?_⟩
      · intro j hj
        rw [cpf_out _ _ _ _ (by omega)]
        exact I1 j hj
      · intro h h1 h2 k hk
        rw [cpf_out _ _ _ _ (by omega)]
        exact I2 h (by omega) h2 k hk
    · rw [if_neg c]
      exact ⟨I1, fun h h1 => I2 h (by omega)⟩
  · intro n g I q
    show wM_undo_145 post (n + 1) (nI X) (nI H) (ms_set_a S g)
    rw [wM_undo_145]
    refine p_yes ?_ q
    rw [g_aa, I.1 1 (by omega), eH]
    exact Int32.le_refl _
  · intro n i g hi I q
    obtain ⟨I1, I2⟩ := I
    show wM_undo_145 post (n + 1) (nI X) (nI i) (ms_set_a S g)
    have eg : g (X + 1) = nI s := (I1 (X + 1) (by omega)).trans e
    have q' : wM_undo_145 post n (nI X) (nI (i + 1)) (ms_set_a S (if i < s then cpf g (46 + 5 * i) (X + 29 + 3 * i) 3 else g)) := q
    have inn : ∃ k : Nat, wM_undo_174 post (wM_undo_145 post n) k (nI X) (nI i) 0 (ms_set_a S g) := by
      refine m_undo_174 hX hX2 (by omega) hs S g eg post _ ?_
      rw [nI_1]
      exact q'
    rw [wM_undo_145, g_aa, I1 1 (by omega), eH, nI_1 X, nI_clamp (by omega), eg]
    refine p_no (nI_ge hi (by omega)) ⟨vp_in_nI (by omega) (by decide), p_two (fun _ => inn) (fun c => ?_)⟩
    have c' : ¬ i < s := fun h => c (nI_lt h (by omega))
    show wM_arrive (nI i) (ms_set_a S g) (fun S_4 => ∃ k : Nat, wM_undo_174 post (wM_undo_145 post n) k (nI X) (nI i) 0 S_4)
    have bb : wM_arrive (nI i) (ms_set_a S g) (fun S_4 => ∃ k : Nat, wM_undo_174 post (wM_undo_145 post n) k (nI X) (nI i) 0 S_4) := by
        have b := told i (by omega) hi
        have z : ∀ k, k < 5 → g (46 + 5 * i + k) = f (46 + 5 * i + k) := fun k hk => I2 i (Nat.le_refl i) (by omega) k hk
        have z0 := z 0 (by omega)
        have z1 := z 1 (by omega)
        have z2 := z 2 (by omega)
        rw [Nat.add_zero] at z0
        rw [show 46 + 5 * i + 1 = 47 + 5 * i by omega] at z1
        rw [show 46 + 5 * i + 2 = 48 + 5 * i by omega] at z2
        unfold wM_arrive
        simp only [m_lay_tired (show i < 5 by omega), m_lay_at (show i < 5 by omega), m_lay_falls (show i < 5 by omega), g_aa, s_aa]
        rw [upd_id (f := g) (v := 0) (z0.trans b.1), upd_id (f := g) (v := -1) (z1.trans b.2.1), upd_id (f := g) (v := 0) (z2.trans b.2.2)]
        exact inn
    exact bb
theorem uf145_in {X s H : Nat} (hX : 204 ≤ X) (hs : s ≤ 5) (hsH : s ≤ H) (f : Nat → Int32) {h k : Nat} (hh : h < s) (hk : k < 3) : uf145 X s H f (46 + 5 * h + k) = f (X + 29 + 3 * h + k) := by
  have q := upf_I (fun h g => if h < s then cpf g (46 + 5 * h) (X + 29 + 3 * h) 3 else g) (fun i g => (∀ h k, h < i → h < s → k < 3 → g (46 + 5 * h + k) = f (X + 29 + 3 * h + k)) ∧ (∀ j, 204 ≤ j → g j = f j)) H (by
    intro i g hi I
    obtain ⟨I1, I2⟩ := I
    by_cases c : i < s
    · rw [if_pos c]
      refine ⟨?_, ?_⟩
      · intro h k h1 h2 hk
        by_cases e : h = i
        · subst e
          rw [cpf_in g _ _ hk]
          exact I2 _ (by omega)
        · rw [cpf_out g _ _ _ (by omega)]
          exact I1 h k (by omega) h2 hk
      · intro j hj
        rw [cpf_out g _ _ _ (by omega)]
        exact I2 j hj
    · rw [if_neg c]
      exact ⟨fun h k h1 h2 => I1 h k (by omega) h2, I2⟩) H 0 f (by omega) ⟨fun h k hc _ _ => by omega, fun _ _ => rfl⟩
  exact q.1 h k (by omega) hh hk
theorem uf145_out {X s H : Nat} (f : Nat → Int32) {j : Nat} (hj : ∀ h k, h < s → k < 3 → j ≠ 46 + 5 * h + k) : uf145 X s H f j = f j := by
  have q := upf_I (fun h g => if h < s then cpf g (46 + 5 * h) (X + 29 + 3 * h) 3 else g) (fun _ g => g j = f j) H (by
    intro i g hi I
    show (if i < s then cpf g (46 + 5 * i) (X + 29 + 3 * i) 3 else g) j = f j
    by_cases c : i < s
    · rw [if_pos c, cpf_out g _ _ _ ?_]
      · exact I
      · by_cases d : j < 46 + 5 * i
        · exact Or.inl d
        · right
          by_cases e : 46 + 5 * i + 3 ≤ j
          · exact e
          · exact absurd (show j = 46 + 5 * i + (j - (46 + 5 * i)) by omega) (hj i (j - (46 + 5 * i)) c (by omega))
    · rw [if_neg c]
      exact I) H 0 f (by omega) rfl
  exact q
