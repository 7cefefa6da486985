/-! PURE LAYER: played -/
theorem q_number {ad : Nat} {B : TB} {n k j : Nat} (hn : B.2.2.1.1 = 4 * n) (hn2 : n ≤ 24) (hk : k < n) (hj : j < 4) {S : CS} (hm : (ad, B) ∈ cx_px S) (post : Int32 → CS → Prop) (hp : post (B.2.2.1.2 (4 * k + j)) S) : wC_X9_numberOf ad (nI k) (nI j) S post := by
  refine ⟨B, hm, by omega, ?_⟩
  rw [nI_ml 4 k, nI_add, hn, p_at (by omega) _ (by omega), Nat.mul_comm k 4]
  exact hp
/-- the text's rows of the class and of the reference -/
theorem tx_at {cs : CS} {ms : MS} (R : Rel cs ms) {t : Nat} (ht : t < 4) (h2 : nI t < ms_a ms 2) : ∃ (ad : Nat) (B : TB), cx_c_texts cs t = some ad ∧ (ad, B) ∈ cx_px cs ∧ TR B (fun k => ms_texts ms (705 * t + k)) := by
  obtain ⟨ad, B, g1, g2, g3⟩ := R.1.2.2.2.1.1 t ht (by
    show nI t < cx_c_textCount cs
    rw [rd_textCount R.1.1]
    exact h2)
  exact ⟨ad, B, g1, g2, g3⟩
theorem sim_clause {cs : CS} {ms : MS} (R : Rel cs ms) {t k n : Nat} (ht : t < 4) {ad : Nat} {B : TB} (hm : (ad, B) ∈ cx_px cs) (hn : n ≤ 24) (hk : k < n) (hw : B.2.2.1.1 = 4 * n) (hd : trDeed n (fun k => ms_texts ms (705 * t + k)) B.2.2.1.2) : ∃ (r : Int32) (cs' : CS) (ms' : MS), Rel cs' ms' ∧ kT cs ms cs' ms' ∧ rt (wC_X11_playClause (some ad) (nI k) cs) r cs' ∧ rt (wM_isPlayed (nI (705 * t + 1 + 4 * k)) ms) r ms' := by
  obtain ⟨so, hso, x0, c0, cN, c9⟩ := hd k hk
  obtain ⟨v1, e1⟩ : ∃ v, v = B.2.2.1.2 (4 * k + 1) := ⟨_, rfl⟩
  obtain ⟨v2, e2⟩ : ∃ v, v = B.2.2.1.2 (4 * k + 2) := ⟨_, rfl⟩
  obtain ⟨v3, e3⟩ : ∃ v, v = B.2.2.1.2 (4 * k + 3) := ⟨_, rfl⟩
  obtain ⟨y1, f1⟩ : ∃ v, v = ms_texts ms (705 * t + 1 + 4 * k + 1) := ⟨_, rfl⟩
  obtain ⟨y2, f2⟩ : ∃ v, v = ms_texts ms (705 * t + 1 + 4 * k + 2) := ⟨_, rfl⟩
  obtain ⟨y3, f3⟩ : ∃ v, v = ms_texts ms (705 * t + 1 + 4 * k + 3) := ⟨_, rfl⟩
  have x0' : ms_texts ms (705 * t + 1 + 4 * k) = nI so := by
    have q : ms_texts ms (705 * t + (1 + 4 * k)) = nI so := x0
    rw [show 705 * t + 1 + 4 * k = 705 * t + (1 + 4 * k) by omega]
    exact q
  have s1 : 0 < soN so → v1 = y1 := by
    intro h
    have q : B.2.2.1.2 (4 * k + (0 + 1)) = ms_texts ms (705 * t + (2 + 4 * k + 0)) := cN 0 h
    rw [e1, f1, show 705 * t + 1 + 4 * k + 1 = 705 * t + (2 + 4 * k + 0) by omega]
    exact q
  have s2 : 1 < soN so → v2 = y2 := by
    intro h
    have q : B.2.2.1.2 (4 * k + (1 + 1)) = ms_texts ms (705 * t + (2 + 4 * k + 1)) := cN 1 h
    rw [e2, f2, show 705 * t + 1 + 4 * k + 2 = 705 * t + (2 + 4 * k + 1) by omega]
    exact q
  have s3 : 2 < soN so → v3 = y3 := by
    intro h
    have q : B.2.2.1.2 (4 * k + (2 + 1)) = ms_texts ms (705 * t + (2 + 4 * k + 2)) := cN 2 h
    rw [e3, f3, show 705 * t + 1 + 4 * k + 3 = 705 * t + (2 + 4 * k + 2) by omega]
    exact q
  have s9 : so = 9 → 1 ≤ y1 ∧ y1 ≤ 60 := by
    intro h
    have q : 1 ≤ ms_texts ms (705 * t + (2 + 4 * k)) ∧ ms_texts ms (705 * t + (2 + 4 * k)) ≤ 60 := c9 h
    rw [f1, show 705 * t + 1 + 4 * k + 1 = 705 * t + (2 + 4 * k) by omega]
    exact q
  have cls : ∀ post : Int32 → CS → Prop, ((nI (soC so) = 0 → wC_X11_passDays v1 cs (fun r_14 S_15 => ((r_14 = v1 → post 1 S_15) ∧ (¬ (r_14 = v1) → post 0 S_15)))) ∧ (nI (soC so) = 3 → wC_X11_mood v2 v1 v3 cs (fun r_18 S_19 => (narrow .boolean (.int r_18) = .int r_18 ∧ post r_18 S_19))) ∧ (nI (soC so) = 5 → wC_X11_house v1 v2 cs (fun r_21 S_22 => ((r_21 = (-1) → post 0 S_22) ∧ (¬ (r_21 = (-1)) → post 1 S_22)))) ∧ (nI (soC so) = 9 → wC_X11_fall v2 v1 cs (fun r_25 S_26 => ((r_25 = (-1) → post 0 S_26) ∧ (¬ (r_25 = (-1)) → post 1 S_26)))) ∧ (nI (soC so) = 15 → wC_X11_clown v1 v2 cs (fun r_29 S_30 => ((r_29 = (-1) → post 0 S_30) ∧ (¬ (r_29 = (-1)) → post 1 S_30)))) ∧ (nI (soC so) = 16 → wC_X11_send v1 v2 cs (fun r_33 S_34 => (narrow .boolean (.int r_33) = .int r_33 ∧ post r_33 S_34))) ∧ (nI (soC so) = 17 → wC_X11_rest v1 cs (fun r_36 S_37 => (narrow .boolean (.int r_36) = .int r_36 ∧ post r_36 S_37))) ∧ (¬ nI (soC so) = 0 → ¬ nI (soC so) = 3 → ¬ nI (soC so) = 5 → ¬ nI (soC so) = 9 → ¬ nI (soC so) = 15 → ¬ nI (soC so) = 16 → ¬ nI (soC so) = 17 → post 1 cs)) → wC_X11_playClause (some ad) (nI k) cs post := by
    intro post h
    refine ⟨ad, rfl, B, hm, q_number (j := 1) hw hn hk (by omega) hm _ ⟨B, hm, q_number (j := 2) hw hn hk (by omega) hm _ ⟨B, hm, q_number (j := 3) hw hn hk (by omega) hm _ ⟨B, hm, q_number (j := 0) hw hn hk (by omega) hm _ ?_⟩⟩⟩⟩
    rw [← e1, ← e2, ← e3, Nat.add_zero, c0]
    exact h
  have ref : ∀ post : Int32 → MS → Prop, ((nI so = 3 → wM_house y1 y2 ms (fun r_1 S_2 => ((r_1 < 0 → post 0 S_2) ∧ (¬ (r_1 < 0) → post 1 S_2)))) ∧ (nI so = 4 → wM_clown y1 y2 ms (fun r_5 S_6 => ((r_5 < 0 → post 0 S_6) ∧ (¬ (r_5 < 0) → post 1 S_6)))) ∧ (nI so = 5 → wM_mood y2 y1 y3 ms (fun r_9 S_10 => (narrow .boolean (.int r_9) = .int r_9 ∧ post r_9 S_10))) ∧ (nI so = 6 → wM_send y1 y2 ms (fun r_13 S_14 => (narrow .boolean (.int r_13) = .int r_13 ∧ post r_13 S_14))) ∧ (nI so = 7 → wM_fall y2 y1 ms (fun r_16 S_17 => ((r_16 < 0 → post 0 S_17) ∧ (¬ (r_16 < 0) → post 1 S_17)))) ∧ (nI so = 8 → wM_rest y1 ms (fun r_20 S_21 => (narrow .boolean (.int r_20) = .int r_20 ∧ post r_20 S_21))) ∧ (nI so = 9 → wM_arePassed y1 ms (fun r_23 S_24 => (narrow .boolean (.int r_23) = .int r_23 ∧ post r_23 S_24))) ∧ (¬ nI so = 3 → ¬ nI so = 4 → ¬ nI so = 5 → ¬ nI so = 6 → ¬ nI so = 7 → ¬ nI so = 8 → ¬ nI so = 9 → post 1 ms)) → wM_isPlayed (nI (705 * t + 1 + 4 * k)) ms post := by
    intro post h
    unfold wM_isPlayed
    rw [nI_1, show nI (705 * t + 1 + 4 * k) + 2 = nI (705 * t + 1 + 4 * k + 2) from nI_al 2 _, show nI (705 * t + 1 + 4 * k) + 3 = nI (705 * t + 1 + 4 * k + 3) from nI_al 3 _, nI_clamp (by omega), nI_clamp (by omega), nI_clamp (by omega), nI_clamp (by omega), x0', ← f1, ← f2, ← f3]
    obtain ⟨h1, h2, h3, h4, h5, h6, h7, h8⟩ := h
    exact ⟨vp_in_nI (by omega) (by decide), vp_in_nI (by omega) (by decide), vp_in_nI (by omega) (by decide), h1, h2, fun q => ⟨vp_in_nI (by omega) (by decide), h3 q⟩, h4, h5, h6, h7, h8⟩
  have pm : ∀ {r : Int32}, (r = -1 ∨ 0 ≤ r) → ∀ {A B : Prop}, ((r = -1 → A) ∧ (¬ r = -1 → B)) → ((r < 0 → A) ∧ (¬ r < 0 → B)) := by
    intro r hr A B h
    rcases hr with e | e
    · rw [e] at h ⊢
      exact p_yes (by decide) (h.1 rfl)
    · refine p_no (Int32.not_lt.mpr e) (h.2 (fun q => ?_))
      rw [q] at e
      exact absurd e (by decide)
  have law : so < 3 → ∃ (r : Int32) (cs' : CS) (ms' : MS), Rel cs' ms' ∧ kT cs ms cs' ms' ∧ rt (wC_X11_playClause (some ad) (nI k) cs) r cs' ∧ rt (wM_isPlayed (nI (705 * t + 1 + 4 * k)) ms) r ms' := by
    intro h3
    have h3' : so = 0 ∨ so = 1 ∨ so = 2 := by omega
    refine ⟨1, cs, ms, R, ⟨rfl, rfl⟩, fun post hp => cls post ?_, fun post hp => ref post ?_⟩
    · rcases h3' with e | e | e <;> subst e <;> exact ⟨fun q => absurd q (by decide), fun q => absurd q (by decide), fun q => absurd q (by decide), fun q => absurd q (by decide), fun q => absurd q (by decide), fun q => absurd q (by decide), fun q => absurd q (by decide), fun _ _ _ _ _ _ _ => hp⟩
    · rcases h3' with e | e | e <;> subst e <;> exact ⟨fun q => absurd q (by decide), fun q => absurd q (by decide), fun q => absurd q (by decide), fun q => absurd q (by decide), fun q => absurd q (by decide), fun q => absurd q (by decide), fun q => absurd q (by decide), fun _ _ _ _ _ _ _ => hp⟩
  by_cases l3 : so < 3
  · exact law l3
  have cases7 : so = 3 ∨ so = 4 ∨ so = 5 ∨ so = 6 ∨ so = 7 ∨ so = 8 ∨ so = 9 := by omega
  rcases cases7 with e | e | e | e | e | e | e <;> subst e
  · have q1 := s1 (by decide)
    have q2 := s2 (by decide)
    subst q1
    subst q2
    obtain ⟨r, cs', ms', hC, hM, R', hr, kt⟩ := sim_house R v1 v2
    refine ⟨if r = -1 then 0 else 1, cs', ms', R', kt, fun post hp => cls post ?_, fun post hp => ref post ?_⟩
    · have hq : (r = -1 → post 0 cs') ∧ (¬ r = -1 → post 1 cs') := ⟨fun e => by rw [if_pos e] at hp; exact hp, fun e => by rw [if_neg e] at hp; exact hp⟩
      exact ⟨fun q => absurd q (by decide), fun q => absurd q (by decide), fun _ => hC _ hq, fun q => absurd q (by decide), fun q => absurd q (by decide), fun q => absurd q (by decide), fun q => absurd q (by decide), fun d0 d3 d5 d9 d15 d16 d17 => absurd rfl d5⟩
    · have hq : (r = -1 → post 0 ms') ∧ (¬ r = -1 → post 1 ms') := ⟨fun e => by rw [if_pos e] at hp; exact hp, fun e => by rw [if_neg e] at hp; exact hp⟩
      exact ⟨fun _ => hM _ (pm hr hq), fun q => absurd q (by decide), fun q => absurd q (by decide), fun q => absurd q (by decide), fun q => absurd q (by decide), fun q => absurd q (by decide), fun q => absurd q (by decide), fun d3 d4 d5 d6 d7 d8 d9 => absurd rfl d3⟩
  · have q1 := s1 (by decide)
    have q2 := s2 (by decide)
    subst q1
    subst q2
    obtain ⟨r, cs', ms', hC, hM, R', hr, kt⟩ := sim_clown R v1 v2
    refine ⟨if r = -1 then 0 else 1, cs', ms', R', kt, fun post hp => cls post ?_, fun post hp => ref post ?_⟩
    · have hq : (r = -1 → post 0 cs') ∧ (¬ r = -1 → post 1 cs') := ⟨fun e => by rw [if_pos e] at hp; exact hp, fun e => by rw [if_neg e] at hp; exact hp⟩
      exact ⟨fun q => absurd q (by decide), fun q => absurd q (by decide), fun q => absurd q (by decide), fun q => absurd q (by decide), fun _ => hC _ hq, fun q => absurd q (by decide), fun q => absurd q (by decide), fun d0 d3 d5 d9 d15 d16 d17 => absurd rfl d15⟩
    · have hq : (r = -1 → post 0 ms') ∧ (¬ r = -1 → post 1 ms') := ⟨fun e => by rw [if_pos e] at hp; exact hp, fun e => by rw [if_neg e] at hp; exact hp⟩
      exact ⟨fun q => absurd q (by decide), fun _ => hM _ (pm hr hq), fun q => absurd q (by decide), fun q => absurd q (by decide), fun q => absurd q (by decide), fun q => absurd q (by decide), fun q => absurd q (by decide), fun d3 d4 d5 d6 d7 d8 d9 => absurd rfl d4⟩
  · have q1 := s1 (by decide)
    have q2 := s2 (by decide)
    have q3 := s3 (by decide)
    subst q1
    subst q2
    subst q3
    obtain ⟨r, cs', ms', hC, hM, R', hr, kt⟩ := sim_mood R v2 v1 v3
    refine ⟨r, cs', ms', R', kt, fun post hp => cls post ?_, fun post hp => ref post ?_⟩
    · exact ⟨fun q => absurd q (by decide), fun _ => hC _ ⟨p_bool hr, hp⟩, fun q => absurd q (by decide), fun q => absurd q (by decide), fun q => absurd q (by decide), fun q => absurd q (by decide), fun q => absurd q (by decide), fun d0 d3 d5 d9 d15 d16 d17 => absurd rfl d3⟩
    · exact ⟨fun q => absurd q (by decide), fun q => absurd q (by decide), fun _ => hM _ ⟨p_bool hr, hp⟩, fun q => absurd q (by decide), fun q => absurd q (by decide), fun q => absurd q (by decide), fun q => absurd q (by decide), fun d3 d4 d5 d6 d7 d8 d9 => absurd rfl d5⟩
  · have q1 := s1 (by decide)
    have q2 := s2 (by decide)
    subst q1
    subst q2
    obtain ⟨r, cs', ms', hC, hM, R', hr, kt⟩ := sim_send R v1 v2
    refine ⟨r, cs', ms', R', kt, fun post hp => cls post ?_, fun post hp => ref post ?_⟩
    · exact ⟨fun q => absurd q (by decide), fun q => absurd q (by decide), fun q => absurd q (by decide), fun q => absurd q (by decide), fun q => absurd q (by decide), fun _ => hC _ ⟨p_bool hr, hp⟩, fun q => absurd q (by decide), fun d0 d3 d5 d9 d15 d16 d17 => absurd rfl d16⟩
    · exact ⟨fun q => absurd q (by decide), fun q => absurd q (by decide), fun q => absurd q (by decide), fun _ => hM _ ⟨p_bool hr, hp⟩, fun q => absurd q (by decide), fun q => absurd q (by decide), fun q => absurd q (by decide), fun d3 d4 d5 d6 d7 d8 d9 => absurd rfl d6⟩
  · have q1 := s1 (by decide)
    have q2 := s2 (by decide)
    subst q1
    subst q2
    obtain ⟨r, cs', ms', hC, hM, R', hr, kt⟩ := sim_fall R v2 v1
    refine ⟨if r = -1 then 0 else 1, cs', ms', R', kt, fun post hp => cls post ?_, fun post hp => ref post ?_⟩
    · have hq : (r = -1 → post 0 cs') ∧ (¬ r = -1 → post 1 cs') := ⟨fun e => by rw [if_pos e] at hp; exact hp, fun e => by rw [if_neg e] at hp; exact hp⟩
      exact ⟨fun q => absurd q (by decide), fun q => absurd q (by decide), fun q => absurd q (by decide), fun _ => hC _ hq, fun q => absurd q (by decide), fun q => absurd q (by decide), fun q => absurd q (by decide), fun d0 d3 d5 d9 d15 d16 d17 => absurd rfl d9⟩
    · have hq : (r = -1 → post 0 ms') ∧ (¬ r = -1 → post 1 ms') := ⟨fun e => by rw [if_pos e] at hp; exact hp, fun e => by rw [if_neg e] at hp; exact hp⟩
      exact ⟨fun q => absurd q (by decide), fun q => absurd q (by decide), fun q => absurd q (by decide), fun q => absurd q (by decide), fun _ => hM _ (pm hr hq), fun q => absurd q (by decide), fun q => absurd q (by decide), fun d3 d4 d5 d6 d7 d8 d9 => absurd rfl d7⟩
  · have q1 := s1 (by decide)
    subst q1
    obtain ⟨r, cs', ms', hC, hM, R', hr, kt⟩ := sim_rest R v1
    refine ⟨r, cs', ms', R', kt, fun post hp => cls post ?_, fun post hp => ref post ?_⟩
    · exact ⟨fun q => absurd q (by decide), fun q => absurd q (by decide), fun q => absurd q (by decide), fun q => absurd q (by decide), fun q => absurd q (by decide), fun q => absurd q (by decide), fun _ => hC _ ⟨p_bool hr, hp⟩, fun d0 d3 d5 d9 d15 d16 d17 => absurd rfl d17⟩
    · exact ⟨fun q => absurd q (by decide), fun q => absurd q (by decide), fun q => absurd q (by decide), fun q => absurd q (by decide), fun q => absurd q (by decide), fun _ => hM _ ⟨p_bool hr, hp⟩, fun q => absurd q (by decide), fun d3 d4 d5 d6 d7 d8 d9 => absurd rfl d8⟩
  · have q1 := s1 (by decide)
    subst q1
    obtain ⟨n1, n2⟩ := s9 rfl
    obtain ⟨m, hm60, em⟩ := p_rng2 (n := 60) (by decide) (Int32.le_trans (by decide) n1) n2
    obtain ⟨j, cs', ms', hj, R', _, hC, hM, kt⟩ := sim_days hm60 m 0 cs ms (by omega) R
    rw [em] at cls ref
    refine ⟨if j = m then 1 else 0, cs', ms', R', kt, fun post hp => cls post ?_, fun post hp => ref post ?_⟩
    · have hq : (nI j = nI m → post 1 cs') ∧ (¬ nI j = nI m → post 0 cs') := by
        rw [nI_eq (by omega) (by omega)]
        exact ⟨fun e => by rw [if_pos e] at hp; exact hp, fun e => by rw [if_neg e] at hp; exact hp⟩
      exact ⟨fun _ => ⟨m + 1, hC _ hq⟩, fun q => absurd q (by decide), fun q => absurd q (by decide), fun q => absurd q (by decide), fun q => absurd q (by decide), fun q => absurd q (by decide), fun q => absurd q (by decide), fun d0 d3 d5 d9 d15 d16 d17 => absurd rfl d0⟩
    · have hb : (if j = m then (1 : Int32) else 0) = 0 ∨ (if j = m then (1 : Int32) else 0) = 1 := by
        split
        · exact Or.inr rfl
        · exact Or.inl rfl
      exact ⟨fun q => absurd q (by decide), fun q => absurd q (by decide), fun q => absurd q (by decide), fun q => absurd q (by decide), fun q => absurd q (by decide), fun q => absurd q (by decide), fun _ => ⟨m + 1, hM _ ⟨p_bool hb, hp⟩⟩, fun d3 d4 d5 d6 d7 d8 d9 => absurd rfl d9⟩
theorem pl_loop {t : Nat} (ht : t < 4) {ad : Nat} : ∀ (d k : Nat) (cs : CS) (ms : MS), k + d = 24 → Rel cs ms → nI t < ms_a ms 2 → cx_c_texts cs t = some ad → ∃ (r : Int32) (cs' : CS) (ms' : MS), Rel cs' ms' ∧ (∀ post : Int32 → CS → Prop, post r cs' → wC_X11_played_18 post (d + 1) (some ad) (nI k) cs) ∧ (∀ post : Int32 → MS → Prop, post r ms' → wM_played_21 post (d + 1) (nI t) (nI k) ms) := by
  intro d
  induction d with
  | zero =>
    intro k cs ms e R h2 ea
    obtain ⟨ad', B, g1, g2, n, g3, g4, g5, g6, g7, g8, g9, g10⟩ := tx_at R ht h2
    rw [ea] at g1
    have e1 := Option.some.inj g1
    subst e1
    refine ⟨-1, cs, ms, R, ?_, ?_⟩
    · intro post hp
      rw [wC_X11_played_18]
      refine ⟨ad, rfl, B, g2, p_yes ?_ hp⟩
      rw [g4]
      exact nI_le (by omega) (by omega)
    · intro post hp
      have g5' : ms_texts ms (705 * t + 0) = nI n := g5
      rw [wM_played_21, nI_lm 705 t, nI_clamp (by omega), show 705 * t = 705 * t + 0 from rfl, g5']
      exact ⟨vp_in_nI (by omega) (by decide), p_yes (nI_le (by omega) (by omega)) hp⟩
  | succ d ih =>
    intro k cs ms e R h2 ea
    obtain ⟨ad', B, g1, g2, n, g3, g4, g5, g6, g7, g8, g9, g10⟩ := tx_at R ht h2
    rw [ea] at g1
    have e1 := Option.some.inj g1
    subst e1
    have g5' : ms_texts ms (705 * t + 0) = nI n := g5
    by_cases c : n ≤ k
    · refine ⟨-1, cs, ms, R, ?_, ?_⟩
      · intro post hp
        rw [wC_X11_played_18]
        refine ⟨ad, rfl, B, g2, p_yes ?_ hp⟩
        rw [g4]
        exact nI_le c (by omega)
      · intro post hp
        rw [wM_played_21, nI_lm 705 t, nI_clamp (by omega), show 705 * t = 705 * t + 0 from rfl, g5']
        exact ⟨vp_in_nI (by omega) (by decide), p_yes (nI_le c (by omega)) hp⟩
    · obtain ⟨b, cs1, ms1, R1, kt, hC, hM⟩ := sim_clause R (t := t) (k := k) ht g2 g3 (by omega) g6 g9
      have refS : ∀ post : Int32 → MS → Prop, ((b = 0 → post (nI k) ms1) ∧ (¬ b = 0 → wM_played_21 post (d + 1) (nI t) (nI (k + 1)) ms1)) → wM_played_21 post (d + 1 + 1) (nI t) (nI k) ms := by
        intro post hp
        rw [wM_played_21, nI_lm 705 t, nI_clamp (by omega), show ms_texts ms (705 * t) = nI n from g5', nI_1, nI_lm 4 k, nI_add, nI_1]
        exact ⟨vp_in_nI (by omega) (by decide), p_no (nI_ge (by omega) (by omega)) (hM _ hp)⟩
      have clsS : ∀ post : Int32 → CS → Prop, ((b = 0 → post (nI k) cs1) ∧ (¬ b = 0 → wC_X11_played_18 post (d + 1) (some ad) (nI (k + 1)) cs1)) → wC_X11_played_18 post (d + 1 + 1) (some ad) (nI k) cs := by
        intro post hp
        rw [wC_X11_played_18, nI_1]
        refine ⟨ad, rfl, B, g2, p_no ?_ (hC _ hp)⟩
        rw [g4]
        exact nI_ge (by omega) (by omega)
      by_cases c0 : b = 0
      · exact ⟨nI k, cs1, ms1, R1, fun post hp => clsS post (p_yes c0 hp), fun post hp => refS post (p_yes c0 hp)⟩
      · obtain ⟨r, cs2, ms2, R2, hC2, hM2⟩ := ih (k + 1) cs1 ms1 (by omega) R1 (by rw [kt.2]; exact h2) (by rw [kt.1]; exact ea)
        exact ⟨r, cs2, ms2, R2, fun post hp => clsS post (p_no c0 (hC2 post hp)), fun post hp => refS post (p_no c0 (hM2 post hp))⟩
theorem sim_played {cs : CS} {ms : MS} (R : Rel cs ms) (p1 : Int32) : ∃ (r : Int32) (cs' : CS) (ms' : MS), rt (wC_X11_played p1 cs) r cs' ∧ rt (wM_played p1 ms) r ms' ∧ Rel cs' ms' := by
  have b2 := bd_textCount R.1.1
  have e2 : cx_c_textCount cs = ms_a ms 2 := rd_textCount R.1.1
  by_cases c : 0 ≤ p1 ∧ p1 < ms_a ms 2
  · obtain ⟨t, ht, rfl⟩ := p_rng (n := 4) (by decide) c.1 (Int32.lt_of_lt_of_le c.2 b2.2)
    obtain ⟨ad, B, g1, g2, _⟩ := tx_at R ht c.2
    obtain ⟨r, cs', ms', R', hC, hM⟩ := pl_loop ht 24 0 cs ms (by omega) R c.2 g1
    refine ⟨r, cs', ms', ?_, ?_, R'⟩
    · intro post hp
      unfold wC_X11_played
      refine q_textAt ht (by rw [e2]; exact c.2) _ ?_
      rw [g1]
      exact ⟨fun q => absurd q (by simp), fun a q => by
        have := Option.some.inj q
        subst this
        exact ⟨25, hC post hp⟩⟩
    · intro post hp
      unfold wM_played
      rw [m_isIn, p_b0, p_lt1 ⟨b2.1, Int32.le_trans b2.2 (by decide)⟩]
      exact p_val c ⟨25, hM post hp⟩
  · refine ⟨-2, cs, ms, ?_, ?_, R⟩
    · intro post hp
      unfold wC_X11_played wC_X0_textAt
      have fin : (((none : Option Nat) = none → post (-2) cs) ∧ (∀ a_3 : Nat, (none : Option Nat) = some a_3 → ∃ k_ : Nat, wC_X11_played_18 post k_ (some a_3) 0 cs)) := ⟨fun _ => hp, fun a q => absurd q (by simp)⟩
      refine p_two (fun _ => fin) (fun n0 => p_yes ?_ fin)
      rw [e2]
      exact Int32.not_lt.mp (fun q => c ⟨Int32.not_lt.mp n0, q⟩)
    · intro post hp
      unfold wM_played
      rw [m_isIn, p_b0, p_lt1 ⟨b2.1, Int32.le_trans b2.2 (by decide)⟩]
      exact p_inv hp (fun c1 => absurd c1 c)
