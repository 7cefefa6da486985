/-! PURE LAYER: sitting, ledger, ring -/
def siS (a : Nat → Int32) (i : Nat) (x : Int32) : Int32 := if a (47 + 5 * i) = -1 then x else if a (46 + 5 * i) = 9 then x ||| k_shl 1 (nI i) else x
theorem sim_sitting {cs : CS} {ms : MS} (R : Rel cs ms) : ∃ (r : Int32) (cs' : CS) (ms' : MS), rt (wC_X11_sitting  cs) r cs' ∧ rt (wM_sitting  ms) r ms' ∧ Rel cs' ms' := by
  have hH := bd_clowns R.1.1
  have eH := rd_clowns R.1.1
  obtain ⟨N, hN, eN⟩ := p_rng2 (n := 5) (by decide) hH.1 hH.2
  refine ⟨upf (siS (ms_a ms)) N 0 0, cs, ms, ?_, ?_, R⟩
  · intro post hp
    refine ⟨N + 1, up_loop (fun n x i => wC_X11_sitting_4 post n x i cs) (siS (ms_a ms)) (fun x => post x cs) N ?_ ?_ 0 hp⟩
    · intro n x q
      show wC_X11_sitting_4 post (n + 1) x (nI N) cs
      rw [wC_X11_sitting_4, q_clownCount (by rw [eH]; exact hH.2), eH, eN]
      exact p_yes (Int32.le_refl _) q
    · intro n i x hi q
      show wC_X11_sitting_4 post (n + 1) x (nI i) cs
      rw [wC_X11_sitting_4, q_clownCount (by rw [eH]; exact hH.2), eH, eN]
      refine p_no (nI_ge hi (by omega)) ?_
      rw [q_isOut (by rw [eH]; exact hH.2), p_b0, q_see_tired (by omega), rd_tired R.1.1 (by omega), nI_clamp (by omega), rd_place R.1.1 (by omega), eH, eN, nI_1]
      have c1 : 0 ≤ nI i ∧ nI i < nI N := ⟨nI_pos' (by omega), nI_lt hi (by omega)⟩
      unfold siS at q
      by_cases h : ms_a ms (47 + 5 * i) = -1
      · rw [if_pos h] at q
        exact ⟨fun _ => q, fun n => absurd (fun z => z.2 h) n⟩
      · rw [if_neg h] at q
        refine p_val ⟨c1, h⟩ (p_two (fun g => ?_) (fun g => ?_))
        · rw [if_pos g] at q
          exact q
        · rw [if_neg g] at q
          exact q
  · intro post hp
    refine ⟨N + 1, up_loop (fun n x i => wM_sitting_4 post n x i ms) (siS (ms_a ms)) (fun x => post x ms) N ?_ ?_ 0 hp⟩
    · intro n x q
      show wM_sitting_4 post (n + 1) x (nI N) ms
      rw [wM_sitting_4, eN]
      exact p_yes (Int32.le_refl _) q
    · intro n i x hi q
      show wM_sitting_4 post (n + 1) x (nI i) ms
      rw [wM_sitting_4]
      refine p_no (by rw [eN]; exact nI_ge hi (by omega)) ?_
      rw [m_isAtHouse hH, p_b0, m_own_tired (by omega), nI_clamp (by omega), nI_1, Int32.or_zero, eN]
      have c1 : 0 ≤ nI i ∧ nI i < nI N := ⟨nI_pos' (by omega), nI_lt hi (by omega)⟩
      unfold siS at q
      by_cases h : ms_a ms (47 + 5 * i) = -1
      · rw [if_pos h] at q
        exact ⟨fun _ => q, fun n => absurd (fun z => z.2 h) n⟩
      · rw [if_neg h] at q
        refine p_val ⟨c1, h⟩ (p_two (fun g => ?_) (fun g => ?_))
        · rw [if_pos g] at q
          exact q
        · rw [if_neg g] at q
          exact q
def leS (a : Nat → Int32) (p : Int32) (i : Nat) (x : Int32) : Int32 := if p = -1 then x + 1 else if k_rem (a (2424 + i)) 8 = p then x + 1 else x
def ms7 (y : Nat) : Int32 := nI y &&& 7
theorem q_ledger {cs : CS} {a : Nat → Int32} (R : RC cs.1 a) {N : Nat} (hN : N ≤ 30) (eN : a 9 = nI N) (p : Int32) (post : Int32 → CS → Prop) (hp : post (upf (leS a p) N 0 0) cs) : ∃ k : Nat, wC_X11_ledger_23 post k p 0 0 cs := by
  have eW := rd_written R
  refine ⟨N + 1, up_loop (fun n x i => wC_X11_ledger_23 post n p x i cs) (leS a p) (fun x => post x cs) N ?_ ?_ 0 hp⟩
  · intro n x q
    show wC_X11_ledger_23 post (n + 1) p x (nI N) cs
    rw [wC_X11_ledger_23, q_see_written, eW, eN]
    exact p_yes (Int32.le_refl _) q
  · intro n i x hi q
    show wC_X11_ledger_23 post (n + 1) p x (nI i) cs
    rw [wC_X11_ledger_23, q_see_written, eW, eN]
    refine p_no (nI_ge hi (by omega)) (p_no (nI_ge (b := 30) (by omega) (by decide)) ?_)
    rw [q_see_book (by omega), rd_book R (by omega), nI_1]
    unfold leS at q
    have hb := bd_book R (h := i) (by omega)
    obtain ⟨y, hy, ey⟩ := p_rng2 (n := 639999) (by decide) hb.1 hb.2
    have a3 : ms7 y = k_rem (nI y) 8 := by
      unfold ms7
      rw [pk_and (nI y) (m := 7) 3 (by decide), p_nat (by omega)]
      exact (p_rem (d := 8) (by omega) (by decide)).symm
    refine p_two (fun h => ?_) (fun h => ?_)
    · rw [if_pos h] at q
      exact q
    · rw [if_neg h, ey] at q
      rw [ey, show nI y &&& 7 = k_rem (nI y) 8 from a3]
      refine p_two (fun g => ?_) (fun g => ?_)
      · rw [if_pos g] at q
        exact q
      · rw [if_neg g] at q
        exact q
theorem m_ledger {ms : MS} {N : Nat} (hN : N ≤ 30) (eN : ms_a ms 9 = nI N) (p : Int32) (post : Int32 → MS → Prop) (hp : post (upf (leS (ms_a ms) p) N 0 0) ms) : ∃ k : Nat, wM_ledger_20 post k p 0 0 ms := by
  refine ⟨N + 1, up_loop (fun n x i => wM_ledger_20 post n p x i ms) (leS (ms_a ms) p) (fun x => post x ms) N ?_ ?_ 0 hp⟩
  · intro n x q
    show wM_ledger_20 post (n + 1) p x (nI N) ms
    rw [wM_ledger_20, eN]
    exact p_yes (Int32.le_refl _) q
  · intro n i x hi q
    show wM_ledger_20 post (n + 1) p x (nI i) ms
    rw [wM_ledger_20, eN]
    refine p_no (nI_ge hi (by omega)) ?_
    unfold wM_entry
    rw [nI_la 2424 i, nI_clamp (by omega), nI_1, Int32.add_zero]
    unfold leS at q
    refine p_two (fun h => ?_) (fun h => ?_)
    · rw [if_pos h] at q
      exact q
    · rw [if_neg h] at q
      refine p_no (by decide) (p_no (by decide) ⟨vp_in_nI (by omega) (by decide), p_two (fun g => ?_) (fun g => ?_)⟩)
      · rw [if_pos g] at q
        exact q
      · rw [if_neg g] at q
        exact q
theorem sim_ledger {cs : CS} {ms : MS} (R : Rel cs ms) (p1 : Int32) : ∃ (r : Int32) (cs' : CS) (ms' : MS), rt (wC_X11_ledger p1 cs) r cs' ∧ rt (wM_ledger p1 ms) r ms' ∧ Rel cs' ms' := by
  have hH := bd_written R.1.1
  have hC := bd_clowns R.1.1
  have eC := rd_clowns R.1.1
  obtain ⟨N, hN, eN⟩ := p_rng2 (n := 30) (by decide) hH.1 hH.2
  by_cases c : p1 = -1 ∨ (0 ≤ p1 ∧ p1 < ms_a ms 1)
  · refine ⟨upf (leS (ms_a ms) p1) N 0 0, cs, ms, ?_, ?_, R⟩
    · intro post hp
      unfold wC_X11_ledger
      rw [q_hasClown, p_b0, eC]
      have q := q_ledger R.1.1 hN eN p1 post hp
      refine p_two (fun _ => q) (fun n => ?_)
      rcases c with c | c
      · exact absurd c n
      · exact p_val c q
    · intro post hp
      unfold wM_ledger
      rw [m_isClown _ hC, p_b0]
      have q := m_ledger hN eN p1 post hp
      refine p_two (fun _ => q) (fun n => ?_)
      rcases c with c | c
      · exact absurd c n
      · exact p_val c q
  · have c0 : ¬ p1 = -1 := fun h => c (Or.inl h)
    refine ⟨-2, cs, ms, ?_, ?_, R⟩
    · intro post hp
      unfold wC_X11_ledger
      rw [q_hasClown, p_b0, eC]
      exact p_no c0 (p_inv hp (fun h => absurd (Or.inr h) c))
    · intro post hp
      unfold wM_ledger
      rw [m_isClown _ hC, p_b0]
      exact p_no c0 (p_inv hp (fun h => absurd (Or.inr h) c))
theorem m_has (p k : Int32) (S : MS) (post : Int32 → MS → Prop) : wM_has p k S post = post (if k_shr p k &&& 1 = 1 then 1 else 0) S := by
  unfold wM_has
  by_cases h : k_shr p k &&& 1 = 1
  · rw [p_T h, if_pos h]
  · rw [p_F h, if_neg h]
/-! sets of moods -/
def tuS (a : Nat → Int32) (f : Nat) (s : Int32) (i : Nat) (x : Int32) : Int32 := if k_shr s (nI i) &&& 1 = 1 then x ||| k_shl 1 (a (71 + (10 * f + i))) else x
def tuV (a : Nat → Int32) (f : Nat) (s : Int32) : Int32 := upf (tuS a f s) 10 0 0
theorem q_turnedSet {S : CS} {a : Nat → Int32} (R : RC S.1 a) {f : Nat} (hf : f < 5) (s : Int32) (post : Int32 → CS → Prop) (hp : post (tuV a f s) S) : wC_X0_turnedSet (nI f) s S post := by
  refine ⟨11, up_loop (fun n x i => wC_X0_turnedSet_5 post n (nI f) s x i S) (tuS a f s) (fun x => post x S) 10 ?_ ?_ 0 hp⟩
  · intro n x q
    show wC_X0_turnedSet_5 post (n + 1) (nI f) s x (nI 10) S
    rw [wC_X0_turnedSet_5]
    exact p_yes (by decide) q
  · intro n i x hi q
    show wC_X0_turnedSet_5 post (n + 1) (nI f) s x (nI i) S
    rw [wC_X0_turnedSet_5]
    refine p_no (nI_ge (b := 10) hi (by decide)) ?_
    rw [q_turned hf hi, rd_turns R (by omega), nI_1]
    unfold tuS at q
    refine p_two (fun h => ?_) (fun h => ?_)
    · rw [if_pos h] at q
      exact q
    · rw [if_neg h] at q
      exact q
theorem m_moodsBy {f : Nat} (hf : f < 5) (s : Int32) (S : MS) (post : Int32 → MS → Prop) (hp : post (tuV (ms_a S) f s) S) : wM_moodsBy (nI f) s S post := by
  refine ⟨11, up_loop (fun n x i => wM_moodsBy_5 post n (nI f) s x i S) (tuS (ms_a S) f s) (fun x => post x S) 10 ?_ ?_ 0 hp⟩
  · intro n x q
    show wM_moodsBy_5 post (n + 1) (nI f) s x (nI 10) S
    rw [wM_moodsBy_5]
    exact p_yes (by decide) q
  · intro n i x hi q
    show wM_moodsBy_5 post (n + 1) (nI f) s x (nI i) S
    rw [wM_moodsBy_5]
    refine p_no (nI_ge (b := 10) hi (by decide)) ?_
    rw [m_has, p_b0, m_moodBy hf hi, nI_1, Int32.or_zero]
    unfold tuS at q
    by_cases h : k_shr s (nI i) &&& 1 = 1
    · rw [if_pos h] at q
      exact p_val h q
    · rw [if_neg h] at q
      exact p_yes h q
theorem tuV_lt {c : CS_c} {a : Nat → Int32} (R : RC c a) {f : Nat} (hf : f < 5) (s : Int32) : ∃ m : Nat, m < 1024 ∧ tuV a f s = nI m := by
  unfold tuV
  refine upf_I (tuS a f s) (fun _ x => ∃ m : Nat, m < 1024 ∧ x = nI m) 10 ?_ 10 0 0 (by omega) ⟨0, by decide, rfl⟩
  intro i x hi hx
  obtain ⟨m, hm, rfl⟩ := hx
  unfold tuS
  split
  · have hb := bd_turns R (h := 10 * f + i) (by omega)
    obtain ⟨y, hy, ey⟩ := p_rng2 (n := 9) (by decide) hb.1 hb.2
    rw [ey]
    obtain ⟨q1, q2⟩ := nI_set (n := 10) hm (show y < 10 by omega) (by decide)
    exact ⟨_, q2, q1⟩
  · exact ⟨m, hm, rfl⟩
theorem sim_ring {cs : CS} {ms : MS} (R : Rel cs ms) (p1 : Int32) : ∃ (r : Int32) (cs' : CS) (ms' : MS), rt (wC_X11_ring p1 cs) r cs' ∧ rt (wM_ring p1 ms) r ms' ∧ Rel cs' ms' := by
  by_cases c : 0 ≤ p1 ∧ p1 ≤ 4
  · obtain ⟨f, hf, rfl⟩ := p_rng2 (n := 4) (by decide) c.1 c.2
    refine ⟨upf (fun _ x => tuV (ms_a ms) f x) 10 0 1023, cs, ms, ?_, ?_, R⟩
    · intro post hp
      unfold wC_X11_ring
      rw [q_isFall, p_b0]
      refine p_val c ⟨11, up_loop (fun n x i => wC_X11_ring_15 post n (nI f) x i cs) (fun _ x => tuV (ms_a ms) f x) (fun x => post x cs) 10 ?_ ?_ 1023 hp⟩
      · intro n x q
        show wC_X11_ring_15 post (n + 1) (nI f) x (nI 10) cs
        rw [wC_X11_ring_15]
        exact p_yes (by decide) q
      · intro n i x hi q
        show wC_X11_ring_15 post (n + 1) (nI f) x (nI i) cs
        rw [wC_X11_ring_15]
        refine p_no (nI_ge (b := 10) hi (by decide)) (q_turnedSet R.1.1 (by omega) x _ ?_)
        rw [nI_1]
        exact q
    · intro post hp
      unfold wM_ring
      rw [m_isKind, p_b0]
      refine p_val c ⟨11, up_loop (fun n x i => wM_ring_15 post n (nI f) x i ms) (fun _ x => tuV (ms_a ms) f x) (fun x => post x ms) 10 ?_ ?_ 1023 hp⟩
      · intro n x q
        show wM_ring_15 post (n + 1) (nI f) x (nI 10) ms
        rw [wM_ring_15]
        exact p_yes (by decide) q
      · intro n i x hi q
        show wM_ring_15 post (n + 1) (nI f) x (nI i) ms
        rw [wM_ring_15]
        refine p_no (nI_ge (b := 10) hi (by decide)) (m_moodsBy (by omega) x ms _ ?_)
        rw [nI_1]
        exact q
  · refine ⟨-1, cs, ms, ?_, ?_, R⟩
    · intro post hp
      unfold wC_X11_ring
      rw [q_isFall, p_b0]
      exact p_inv hp (fun c1 => absurd c1 c)
    · intro post hp
      unfold wM_ring
      rw [m_isKind, p_b0]
      exact p_inv hp (fun c1 => absurd c1 c)
