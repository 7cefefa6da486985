/-! PURE LAYER: both searches in step: layers -/
theorem ls_kids {N most : Nat} {clr : Bool} {st : Nat} {enc nx0 : Nat → Nat} {arr : Nat → Prop} {V : Nat → Nat → Prop} {J : CS → MS → Prop} {mv : Int32 → Int32 → Int32 → CS → (Int32 → CS → Prop) → Prop} {ar : Int32 → CS → (Int32 → CS → Prop) → Prop} {stp : Nat → Nat → MS → (Int32 → MS → Prop) → Prop} (H : SH N most clr st enc nx0 arr V J mv ar stp) {D b e m : Nat} {lx lc : Nat → Nat} {lr : Nat → Bool} {j : Nat} (hj : j < m) (hr : lr j = true) (hD : D < most) : ∀ (d f : Nat) (n : Nat) (qs qd qc : Nat → Nat) (k : Nat) (ex ec : Nat → Nat) (er : Nat → Bool) (dp : Bool) (cs : CS) (ms : MS), f + d = 5 → KI N clr st enc arr V J D b e m lx lc lr n qs qd qc k ex ec er dp cs ms → (∃ (n1 : Nat) (qs1 qd1 qc1 : Nat → Nat) (k1 : Nat) (ex1 ec1 : Nat → Nat) (er1 : Nat → Bool) (dp1 : Bool) (cs1 : CS) (ms1 : MS), KI N clr st enc arr V J D b e m lx lc lr n1 qs1 qd1 qc1 k1 ex1 ec1 er1 dp1 cs1 ms1 ∧ Ext n qs qd qc n1 qs1 qd1 qc1 ∧ (dp = true → dp1 = true) ∧ (clr = false → qs (rkF b lr j) = st → ∀ g, f ≤ g → g < 5 → Ps clr st enc e n1 qs1 dp1 (enc (nx0 g)) ∧ ¬ arr (nx0 g)) ∧ (∀ post K36, G78 mv ar post K36 most m D (5 * (j + 1)) cs1 → G78 mv ar post K36 most m D (5 * j + f) cs) ∧ (∀ A25 A55 Fin, RR N most clr arr V J stp A25 A55 Fin → A25 (rkF b lr j + 1) ms1 → A55 (rkF b lr j) f ms)) ∨ FD N most clr arr V J stp D (fun post K36 => G78 mv ar post K36 most m D (5 * j + f) cs) (fun _ A55 => A55 (rkF b lr j) f ms) := by
  intro d
  induction d with
  | zero =>
    intro f n qs qd qc k ex ec er dp cs ms e0 K
    have ef : f = 5 := by omega
    subst ef
    have hp2 : rkF b lr j < e := by
      have := rk_lt (b := b) hj hr
      rw [K.2.2.1.2.1] at this
      exact this
    have nN := RepQ_n K.1.2.1
    have en := K.2.1.1.2.2.1
    have hN := H.2.2.2.2.2.2.2.1
    refine Or.inl ⟨n, qs, qd, qc, k, ex, ec, er, dp, cs, ms, K, Ext_refl _ _ _ _, fun z => z, fun _ _ g h1 h2 => by omega, ?_, ?_⟩
    · intro post K36 h
      exact h
    · intro A25 A55 Fin rr h
      exact rr.2.2.2.1 _ ms (by omega) h
  | succ d ih =>
    intro f n qs qd qc k ex ec er dp cs ms e0 K
    have hp2 : rkF b lr j < e := by
      have := rk_lt (b := b) hj hr
      rw [K.2.2.1.2.1] at this
      exact this
    have en := K.2.1.1.2.2.1
    rcases ls_child H K hj hr (show f < 5 by omega) hD with ⟨s', n1, qs1, qd1, qc1, k1, ex1, ec1, er1, dp1, cs1, ms1, K1, E1, d1, P1, z1, hC1, hM1⟩ | F
    · have ep := E1.2 (rkF b lr j) (by omega)
      rcases ih (f + 1) n1 qs1 qd1 qc1 k1 ex1 ec1 er1 dp1 cs1 ms1 (by omega) K1 with ⟨n2, qs2, qd2, qc2, k2, ex2, ec2, er2, dp2, cs2, ms2, K2, E2, d2, P2, hC2, hM2⟩ | F
      · refine Or.inl ⟨n2, qs2, qd2, qc2, k2, ex2, ec2, er2, dp2, cs2, ms2, K2, Ext_trans E1 E2, fun z => d2 (d1 z), ?_, fun post K36 h => hC1 post K36 (hC2 post K36 h), fun A25 A55 Fin rr h => hM1 A25 A55 Fin rr (hM2 A25 A55 Fin rr h)⟩
        intro a1 a2 g g1 g2
        by_cases eg : g = f
        · subst eg
          have es := z1 a1 a2
          rw [es] at P1
          exact ⟨Ps_ext P1.1 E2 d2, P1.2⟩
        · exact P2 a1 (by rw [ep.1]; exact a2) g (by omega) g2
      · exact Or.inr (FD_map F (fun post K36 h => hC1 post K36 h) (fun A25 A55 Fin rr h => hM1 A25 A55 Fin rr h))
    · exact Or.inr F
theorem ls_dup {N most : Nat} {clr : Bool} {st : Nat} {enc nx0 : Nat → Nat} {arr : Nat → Prop} {V : Nat → Nat → Prop} {J : CS → MS → Prop} {mv : Int32 → Int32 → Int32 → CS → (Int32 → CS → Prop) → Prop} {ar : Int32 → CS → (Int32 → CS → Prop) → Prop} {stp : Nat → Nat → MS → (Int32 → MS → Prop) → Prop} (H : SH N most clr st enc nx0 arr V J mv ar stp) {D b e m : Nat} {lx lc : Nat → Nat} {lr : Nat → Bool} {j : Nat} (hj : j < m) (hr : lr j = false) (hcl : clr = false) (hD : D < most) {n : Nat} {qs qd qc : Nat → Nat} {k : Nat} {ex ec : Nat → Nat} {er : Nat → Bool} {dp : Bool} {ms : MS} (hK : (∀ g, g < 5 → Ps clr st enc e n qs dp (enc (nx0 g)) ∧ ¬ arr (nx0 g))) : ∀ (d f : Nat) (cs : CS), f + d = 5 → KI N clr st enc arr V J D b e m lx lc lr n qs qd qc k ex ec er dp cs ms → ∃ cs1 : CS, KI N clr st enc arr V J D b e m lx lc lr n qs qd qc k ex ec er dp cs1 ms ∧ (∀ post K36, G78 mv ar post K36 most m D (5 * (j + 1)) cs1 → G78 mv ar post K36 most m D (5 * j + f) cs) := by
  obtain ⟨h1, h2, h3, h4, h5, h6, h7, hN, hm20, h0⟩ := H
  intro d
  induction d with
  | zero =>
    intro f cs e0 K
    have ef : f = 5 := by omega
    subst ef
    exact ⟨cs, K, fun post K36 h => h⟩
  | succ d ih =>
    intro f cs e0 K
    obtain ⟨y1, y2, _, y4⟩ := K.2.2.1.1 j hj
    have ey := K.2.2.2.1.1 j hj
    rw [y4 hr] at ey y1
    have p5 := pow5 (show D ≤ 20 by omega)
    have vs := h7 hcl 0 D st h0
    obtain ⟨s', csA, msA, v1, jA, ss, sq, cA, mA, h7'⟩ := h2 D st f cs ms K.1.1 vs (by omega) (Or.inl hD)
    obtain ⟨em, es⟩ := h7' hcl
    rw [em] at jA
    have KA := KI_s K ss (sQ_refl ms) jA
    obtain ⟨cs1, K1, hC1⟩ := ih (f + 1) csA (by omega) KA
    refine ⟨cs1, K1, ?_⟩
    intro post K36 h
    obtain ⟨n0, hn0⟩ := hC1 post K36 h
    obtain ⟨k1, k2⟩ := hK f (by omega)
    rw [← es rfl] at k1 k2
    have hx := (h4 _ _ v1).1
    refine ⟨n0 + 1, q_child K.2.2.2.2.1 hj (by omega) y1 (by omega) ey K.2.2.2.1.2.2.2.2.2.2 post K36 most D n0 (cA _ (q_addOld hx _ ?_ _ ?_))⟩
    · rw [ss.2.2.1, K.2.2.2.1.2.2.1 _ hx]
      exact fun z => z k1
    · exact h3 (D + 1) s' csA ms jA v1 _ (p_no k2 (p_yes rfl hn0))
theorem ls_layer {N most : Nat} {clr : Bool} {st : Nat} {enc nx0 : Nat → Nat} {arr : Nat → Prop} {V : Nat → Nat → Prop} {J : CS → MS → Prop} {mv : Int32 → Int32 → Int32 → CS → (Int32 → CS → Prop) → Prop} {ar : Int32 → CS → (Int32 → CS → Prop) → Prop} {stp : Nat → Nat → MS → (Int32 → MS → Prop) → Prop} (H : SH N most clr st enc nx0 arr V J mv ar stp) {D b e m : Nat} {lx lc : Nat → Nat} {lr : Nat → Bool} (hD : D < most) (h00 : D = 0 → ∀ i, i < m → lr i = true) : ∀ (d j : Nat) (n : Nat) (qs qd qc : Nat → Nat) (k : Nat) (ex ec : Nat → Nat) (er : Nat → Bool) (dp : Bool) (cs : CS) (ms : MS), j + d = m → KI N clr st enc arr V J D b e m lx lc lr n qs qd qc k ex ec er dp cs ms → (D ≠ 0 → clr = false → (∀ g, g < 5 → Ps clr st enc e n qs dp (enc (nx0 g)) ∧ ¬ arr (nx0 g))) → (∃ (n1 : Nat) (qs1 qd1 qc1 : Nat → Nat) (k1 : Nat) (ex1 ec1 : Nat → Nat) (er1 : Nat → Bool) (dp1 : Bool) (cs1 : CS) (ms1 : MS), KI N clr st enc arr V J D b e m lx lc lr n1 qs1 qd1 qc1 k1 ex1 ec1 er1 dp1 cs1 ms1 ∧ Ext n qs qd qc n1 qs1 qd1 qc1 ∧ (dp = true → dp1 = true) ∧ (n < n1 → b < e) ∧ (clr = false → ((∀ g, g < 5 → Ps clr st enc e n qs dp (enc (nx0 g)) ∧ ¬ arr (nx0 g)) ∨ (j = 0 ∧ 0 < m ∧ lr 0 = true ∧ b = 0)) → (∀ g, g < 5 → Ps clr st enc e n1 qs1 dp1 (enc (nx0 g)) ∧ ¬ arr (nx0 g))) ∧ (∀ post K36, G78 mv ar post K36 most m D (5 * m) cs1 → G78 mv ar post K36 most m D (5 * j) cs) ∧ (∀ A25 A55 Fin, RR N most clr arr V J stp A25 A55 Fin → A25 e ms1 → A25 (rkF b lr j) ms)) ∨ FD N most clr arr V J stp D (fun post K36 => G78 mv ar post K36 most m D (5 * j) cs) (fun A25 _ => A25 (rkF b lr j) ms) := by
  intro d
  induction d with
  | zero =>
    intro j n qs qd qc k ex ec er dp cs ms e0 K hK
    have ej : j = m := by omega
    subst ej
    refine Or.inl ⟨n, qs, qd, qc, k, ex, ec, er, dp, cs, ms, K, Ext_refl _ _ _ _, fun z => z, fun z => by omega, ?_, fun post K36 h => h, ?_⟩
    · intro _ q
      rcases q with q | q
      · exact q
      · omega
    · intro A25 A55 Fin rr h
      rw [K.2.2.1.2.1]
      exact h
  | succ d ih =>
    intro j n qs qd qc k ex ec er dp cs ms e0 K hK
    have en := K.2.1.1.2.2.1
    by_cases hr : lr j = true
    · have hp2 : rkF b lr j < e := by
        have := rk_lt (b := b) (show j < m by omega) hr
        rw [K.2.2.1.2.1] at this
        exact this
      have hp1 := rk_le b lr j
      have e1 : rkF b lr (j + 1) = rkF b lr j + 1 := if_pos hr
      have pop : ∀ A25 A55 Fin, RR N most clr arr V J stp A25 A55 Fin → A55 (rkF b lr j) 0 ms → A25 (rkF b lr j) ms := by
        intro A25 A55 Fin rr h
        have q := K.1.2.2 (rkF b lr j) (by omega)
        have dd := K.2.1.2.2.1 (rkF b lr j) hp1 hp2
        exact rr.1 n qs qd qc cs ms _ K.1.1 K.1.2.1 (by omega) q.1 (by omega) q.2 h
      rcases ls_kids H (show j < m by omega) hr hD 5 0 n qs qd qc k ex ec er dp cs ms (by omega) K with ⟨n1, qs1, qd1, qc1, k1, ex1, ec1, er1, dp1, cs1, ms1, K1, E1, d1, P1, hC1, hM1⟩ | F
      · have hK1 : D ≠ 0 → clr = false → (∀ g, g < 5 → Ps clr st enc e n1 qs1 dp1 (enc (nx0 g)) ∧ ¬ arr (nx0 g)) := by
          intro a1 a2 g hg
          have q := hK a1 a2 g hg
          exact ⟨Ps_ext q.1 E1 d1, q.2⟩
        rcases ih (j + 1) n1 qs1 qd1 qc1 k1 ex1 ec1 er1 dp1 cs1 ms1 (by omega) K1 hK1 with ⟨n2, qs2, qd2, qc2, k2, ex2, ec2, er2, dp2, cs2, ms2, K2, E2, d2, b2, P2, hC2, hM2⟩ | F
        · refine Or.inl ⟨n2, qs2, qd2, qc2, k2, ex2, ec2, er2, dp2, cs2, ms2, K2, Ext_trans E1 E2, fun z => d2 (d1 z), fun _ => by omega, ?_, fun post K36 h => hC1 post K36 (hC2 post K36 h), ?_⟩
          · intro a1 q
            refine P2 a1 (Or.inl ?_)
            rcases q with q | ⟨q1, q2, q3, q4⟩
            · intro g hg
              exact ⟨Ps_ext (q g hg).1 E1 d1, (q g hg).2⟩
            · intro g hg
              subst q1
              refine P1 a1 ?_ g (by omega) hg
              show qs b = st
              rw [q4]
              exact K.2.1.1.2.2.2
          · intro A25 A55 Fin rr h
            have q := hM2 A25 A55 Fin rr h
            rw [e1] at q
            exact pop A25 A55 Fin rr (hM1 A25 A55 Fin rr q)
        · refine Or.inr (FD_map F (fun post K36 h => hC1 post K36 h) (fun A25 A55 Fin rr h => ?_))
          have q : A25 (rkF b lr (j + 1)) ms1 := h
          rw [e1] at q
          exact pop A25 A55 Fin rr (hM1 A25 A55 Fin rr q)
      · exact Or.inr (FD_map F (fun post K36 h => h) (fun A25 A55 Fin rr h => pop A25 A55 Fin rr h))
    · have hr' : lr j = false := by
        cases hq : lr j
        · rfl
        · exact absurd hq hr
      have hcl : clr = false := by
        cases hc : clr
        · rfl
        · exact absurd ((K.2.2.2.2.2.2 hc).2.1 j (by omega)) hr
      have nD : D ≠ 0 := fun z => hr (h00 z j (by omega))
      have e1 : rkF b lr (j + 1) = rkF b lr j := if_neg hr
      have kd := hK nD hcl
      obtain ⟨cs1, K1, hC1⟩ := ls_dup H (show j < m by omega) hr' hcl hD kd 5 0 cs (by omega) K
      rcases ih (j + 1) n qs qd qc k ex ec er dp cs1 ms (by omega) K1 hK with ⟨n2, qs2, qd2, qc2, k2, ex2, ec2, er2, dp2, cs2, ms2, K2, E2, d2, b2, P2, hC2, hM2⟩ | F
      · refine Or.inl ⟨n2, qs2, qd2, qc2, k2, ex2, ec2, er2, dp2, cs2, ms2, K2, E2, d2, b2, ?_, fun post K36 h => hC1 post K36 (hC2 post K36 h), ?_⟩
        · intro a1 _
          exact P2 a1 (Or.inl kd)
        · intro A25 A55 Fin rr h
          have q := hM2 A25 A55 Fin rr h
          rw [e1] at q
          exact q
      · refine Or.inr (FD_map F (fun post K36 h => hC1 post K36 h) (fun A25 A55 Fin rr h => ?_))
        have q : A25 (rkF b lr (j + 1)) ms := h
        rw [e1] at q
        exact q
/-- at the start of a layer -/
def OI (N : Nat) (clr : Bool) (st : Nat) (enc nx0 : Nat → Nat) (arr : Nat → Prop) (V : Nat → Nat → Prop) (J : CS → MS → Prop) (D b n m : Nat) (lx lc : Nat → Nat) (lr : Nat → Bool) (qs qd qc : Nat → Nat) (dp : Bool) (cs : CS) (ms : MS) : Prop := (J cs ms ∧ RepQ N n qs qd qc ms ∧ (∀ i, i < n → V (qd i) (qs i) ∧ ¬ arr (qs i))) ∧ (b ≤ n ∧ 1 ≤ n ∧ qs 0 = st) ∧ (∀ i, i < n → qd i ≤ D) ∧ (∀ i, b ≤ i → i < n → qd i = D) ∧ Lay enc st qs qc (5 ^ D) b m lx lc lr ∧ rkF b lr m = n ∧ (∀ j, j < m → cx_s_layer cs j = lN (lc j * 1024 + lx j)) ∧ cx_s_length cs = -1 ∧ m ≤ 1024 ∧ (clr = true → dp = false ∧ ∀ j, j < m → lr j = true) ∧ (D = 0 → b = 0 ∧ n = 1 ∧ m = 1 ∧ lr 0 = true ∧ dp = false) ∧ (D ≠ 0 → clr = false → (∀ x, x < 1024 → (snB (cx_s_seen cs) x ↔ ¬ Ps clr st enc n n qs dp x)) ∧ (∀ g, g < 5 → Ps clr st enc n n qs dp (enc (nx0 g)) ∧ ¬ arr (nx0 g))) ∧ (b < n → D ≤ b)
def NFd (N most : Nat) (clr : Bool) (arr : Nat → Prop) (V : Nat → Nat → Prop) (J : CS → MS → Prop) (stp : Nat → Nat → MS → (Int32 → MS → Prop) → Prop) (cw : (CS → Prop) → Prop) (rf : (Nat → MS → Prop) → Prop) : Prop := ∃ (csF : CS) (msF : MS) (b n : Nat) (qs qd qc : Nat → Nat), cx_s_length csF = -1 ∧ J csF msF ∧ RepQ N n qs qd qc msF ∧ (∀ i, i < n → V (qd i) (qs i) ∧ ¬ arr (qs i)) ∧ b ≤ n ∧ (∀ i, b ≤ i → i < n → qd i = most) ∧ (b < n → most ≤ b) ∧ (∀ post, post csF → cw post) ∧ (∀ A25 A55 Fin, RR N most clr arr V J stp A25 A55 Fin → A25 b msF → rf A25)
def FDo (N most : Nat) (clr : Bool) (arr : Nat → Prop) (V : Nat → Nat → Prop) (J : CS → MS → Prop) (stp : Nat → Nat → MS → (Int32 → MS → Prop) → Prop) (cw : (CS → Prop) → Prop) (rf : (Nat → MS → Prop) → Prop) : Prop := ∃ (L c : Nat) (csF : CS) (msF : MS) (n' : Nat) (qs' qd' qc' : Nat → Nat) (p : Nat), p < n' ∧ RepQ N n' qs' qd' qc' msF ∧ qd' p = L ∧ qc' p = c ∧ L ≤ 20 ∧ c < 2 ^ 50 ∧ cx_s_length csF = nI L ∧ cx_s_path csF = lN c ∧ (∃ ms0, J csF ms0) ∧ (∃ cs0, J cs0 msF) ∧ (∀ post, post csF → cw post) ∧ (∀ A25 A55 Fin, RR N most clr arr V J stp A25 A55 Fin → Fin (qs' p) msF → rf A25)
theorem Ps_f {st : Nat} {enc : Nat → Nat} (e e' n : Nat) (qs : Nat → Nat) (dp : Bool) (x : Nat) : Ps false st enc e n qs dp x = Ps false st enc e' n qs dp x := rfl
theorem ls_out {N most : Nat} {clr : Bool} {st : Nat} {enc nx0 : Nat → Nat} {arr : Nat → Prop} {V : Nat → Nat → Prop} {J : CS → MS → Prop} {mv : Int32 → Int32 → Int32 → CS → (Int32 → CS → Prop) → Prop} {ar : Int32 → CS → (Int32 → CS → Prop) → Prop} {stp : Nat → Nat → MS → (Int32 → MS → Prop) → Prop} (H : SH N most clr st enc nx0 arr V J mv ar stp) {cg : Int32} (hcg : (clr = true → ¬ cg = 0) ∧ (clr = false → cg = 0)) : ∀ (d D b n m : Nat) (lx lc : Nat → Nat) (lr : Nat → Bool) (qs qd qc : Nat → Nat) (dp : Bool) (cs : CS) (ms : MS), D + d = most → OI N clr st enc nx0 arr V J D b n m lx lc lr qs qd qc dp cs ms → NFd N most clr arr V J stp (fun post => ∃ n0, gF36 mv ar cg post n0 (nI most) (nI m) (nI D) cs) (fun A25 => A25 b ms) ∨ FDo N most clr arr V J stp (fun post => ∃ n0, gF36 mv ar cg post n0 (nI most) (nI m) (nI D) cs) (fun A25 => A25 b ms) := by
  have hm20 := H.2.2.2.2.2.2.2.2.1
  intro d
  induction d with
  | zero =>
    intro D b n m lx lc lr qs qd qc dp cs ms e0 O
    have eD : D = most := by omega
    subst eD
    obtain ⟨⟨a1, a2, a3⟩, ⟨b1, b2, b3⟩, b4, b5, c1, c2, e1, e2, f1, f2, f3, f4, f5⟩ := O
    refine Or.inl ⟨cs, ms, b, n, qs, qd, qc, e2, a1, a2, a3, b1, b5, f5, ?_, fun A25 A55 Fin rr h => h⟩
    intro post hp
    refine ⟨1, ?_⟩
    rw [gF36]
    exact p_yes (Int32.le_refl _) hp
  | succ d ih =>
    intro D b n m lx lc lr qs qd qc dp cs ms e0 O
    obtain ⟨⟨a1, a2, a3⟩, ⟨b1, b2, b3⟩, b4, b5, c1, c2, e1, e2, f1, f2, f3, f4, f5⟩ := O
    have hD : D < most := by omega
    -- the state that the layer begins with
    have begun : ∃ csK : CS, KI N clr st enc arr V J D b n m lx lc lr n qs qd qc 0 (fun _ => 0) (fun _ => 0) (fun _ => false) dp csK ms ∧ ∀ post n0, (∃ k_, gF78 mv ar post (gF36 mv ar cg post n0) k_ (nI most) (nI m) (nI D) 0 csK) → gF36 mv ar cg post (n0 + 1) (nI most) (nI m) (nI D) cs := by
      have mk : ∀ csK : CS, J csK ms → cx_s_layer csK = cx_s_layer cs → cx_s_count csK = nI 0 → cx_s_length csK = -1 → (∀ x, x < 1024 → (snB (cx_s_seen csK) x ↔ ¬ Ps clr st enc n n qs dp x)) → KI N clr st enc arr V J D b n m lx lc lr n qs qd qc 0 (fun _ => 0) (fun _ => 0) (fun _ => false) dp csK ms := by
        intro csK q1 q2 q3 q4 q5
        refine ⟨⟨q1, a2, a3⟩, ⟨⟨b1, b2, Nat.le_refl _, b3⟩, b4, b5, fun i h1 h2 => by omega⟩, ⟨c1, c2, fun j hj => absurd hj (Nat.not_lt_zero j), rfl⟩, ⟨?_, fun j hj => absurd hj (Nat.not_lt_zero j), q5, fun j hj => absurd hj (Nat.not_lt_zero j), fun i j hi => absurd hi (Nat.not_lt_zero i), q3, q4⟩, ⟨f1, by omega, fun z => ⟨(f2 z).1, (f2 z).2, fun j hj => absurd hj (Nat.not_lt_zero j)⟩⟩⟩
        rw [q2]
        exact e1
      have J1 : ∀ (x : Nat → Int32), J (cQ cs (cx_s_layer cs) (cx_s_nextLayer cs) x 0 (cx_s_length cs) (cx_s_path cs)) ms := fun x => H.1 _ _ _ _ a1 (cF_cQ _ _ _ _ _ _ _) (qF_refl _)
      have nle : ¬ nI most ≤ nI D := nI_ge (by omega) (by omega)
      by_cases cl : D = 0 ∨ clr = true
      · refine ⟨cQ cs (cx_s_layer cs) (cx_s_nextLayer cs) (k_fill 32 (cx_s_seen cs) 0) 0 (cx_s_length cs) (cx_s_path cs), mk _ (J1 _) (cQ_layer _ _ _ _ _ _ _) (cQ_count _ _ _ _ _ _ _) (by rw [cQ_length]; exact e2) ?_, ?_⟩
        · intro x hx
          rw [cQ_seen]
          refine ⟨fun _ => ?_, fun _ => sn_clear _ hx⟩
          rintro (⟨i, i1, i2, i3⟩ | ⟨d1, d2⟩)
          · rcases cl with z | z
            · have := (f3 z).2.1
              split at i1 <;> omega
            · rw [if_pos z] at i1
              omega
          · rcases cl with z | z
            · have := (f3 z).2.2.2.2
              rw [this] at d1
              cases d1
            · have := (f2 z).1
              rw [this] at d1
              cases d1
        · intro post n0 h
          rw [gF36]
          refine p_no nle (p_yes e2 ?_)
          simp only [p_all]
          rw [cQ_0_count, cQ_seen, cQ_s_seen]
          rcases cl with z | z
          · rw [z] at h ⊢
            exact p_yes rfl h
          · by_cases zD : D = 0
            · rw [zD] at h ⊢
              exact p_yes rfl h
            · exact p_no (nI_ne0 (by omega) (by omega)) (p_no (hcg.1 z) h)
      · have nD : D ≠ 0 := fun z => cl (Or.inl z)
        have hcl : clr = false := by
          cases hc : clr
          · rfl
          · exact absurd (Or.inr hc) cl
        refine ⟨cQ cs (cx_s_layer cs) (cx_s_nextLayer cs) (cx_s_seen cs) 0 (cx_s_length cs) (cx_s_path cs), mk _ (J1 _) (cQ_layer _ _ _ _ _ _ _) (cQ_count _ _ _ _ _ _ _) (by rw [cQ_length]; exact e2) ?_, ?_⟩
        · rw [cQ_seen]
          exact (f4 nD hcl).1
        · intro post n0 h
          rw [gF36]
          refine p_no nle (p_yes e2 ?_)
          simp only [p_all]
          rw [cQ_0_count]
          exact p_no (nI_ne0 (by omega) (by omega)) (p_yes (hcg.2 hcl) h)
    obtain ⟨csK, KK, hB⟩ := begun
    have e00 : rkF b lr 0 = b := rfl
    rcases ls_layer H hD (fun z i hi => by
        have q := f3 z
        have : i = 0 := by omega
        rw [this]
        exact q.2.2.2.1) m 0 n qs qd qc 0 (fun _ => 0) (fun _ => 0) (fun _ => false) dp csK ms (by omega) KK (fun z1 z2 => (f4 z1 z2).2) with ⟨n1, qs1, qd1, qc1, k1, ex1, ec1, er1, dp1, cs1, ms1, K1, E1, d1, bb, P1, hC1, hM1⟩ | F
    · obtain ⟨⟨g1, g2, g3⟩, ⟨⟨g4, g5, g6, g7⟩, g8, g9, g10⟩, ⟨g11, g12, g13, g14⟩, ⟨g15, g16, g17, g18, g19, g20, g21⟩, ⟨g22, g23, g24⟩⟩ := K1
      obtain ⟨csE, eE⟩ : ∃ z, z = cQ cs1 (va_cpy (cx_s_nextLayer cs1) (cx_s_layer cs1) 0 0 k1) (cx_s_nextLayer cs1) (cx_s_seen cs1) (nI k1) (cx_s_length cs1) (cx_s_path cs1) := ⟨_, rfl⟩
      have OE : OI N clr st enc nx0 arr V J (D + 1) n n1 k1 ex1 ec1 er1 qs1 qd1 qc1 dp1 csE ms1 := by
        refine ⟨⟨?_, g2, g3⟩, ⟨g6, by omega, g7⟩, ?_, g10, g13, g14, ?_, ?_, g23, fun z => ⟨(g24 z).1, (g24 z).2.2⟩, fun z => by omega, ?_, ?_⟩
        · rw [eE]
          exact H.1 _ _ _ _ g1 (cF_cQ _ _ _ _ _ _ _) (qF_refl _)
        · intro i hi
          by_cases le : i < n
          · have := g8 i le
            omega
          · have := g10 i (by omega) hi
            omega
        · intro j hj
          rw [eE, cQ_layer, ← g16 j hj]
          show va_cpy (cx_s_nextLayer cs1) (cx_s_layer cs1) 0 0 k1 j = _
          unfold va_cpy
          rw [if_pos (by omega), show 0 + (j - 0) = j by omega]
        · rw [eE, cQ_length]
          exact g21
        · intro _ hcl
          have kd := P1 hcl (by
            by_cases zD : D = 0
            · have q := f3 zD
              exact Or.inr ⟨rfl, by omega, q.2.2.2.1, q.1⟩
            · exact Or.inl (f4 zD hcl).2)
          subst hcl
          refine ⟨?_, kd⟩
          rw [eE, cQ_seen]
          exact g17
        · intro lt
          have := f5 (bb lt)
          omega
      have up : ∀ post n0, gF36 mv ar cg post n0 (nI most) (nI k1) (nI (D + 1)) csE → gF36 mv ar cg post (n0 + 1) (nI most) (nI m) (nI D) cs := by
        intro post n0 h
        refine hB post n0 (hC1 post _ ?_)
        refine q_end f1 g23 g20 post _ most D ?_
        rw [← eE]
        exact h
      have upM : ∀ A25 A55 Fin, RR N most clr arr V J stp A25 A55 Fin → A25 n ms1 → A25 b ms := fun A25 A55 Fin rr h => hM1 A25 A55 Fin rr h
      rcases ih (D + 1) n n1 k1 ex1 ec1 er1 qs1 qd1 qc1 dp1 csE ms1 (by omega) OE with ⟨csF, msF, b', n', qs', qd', qc', x1, x2, x3, x4, x5, x6, x7, x8, x9⟩ | ⟨L, c, csF, msF, n', qs', qd', qc', p, x1, x2, x3, x4, x5, x6, x7, x8, x9, x10, x11, x12⟩
      · refine Or.inl ⟨csF, msF, b', n', qs', qd', qc', x1, x2, x3, x4, x5, x6, x7, ?_, ?_⟩
        · intro post hp
          obtain ⟨n0, h⟩ := x8 post hp
          exact ⟨n0 + 1, up post n0 h⟩
        · intro A25 A55 Fin rr h
          exact upM A25 A55 Fin rr (x9 A25 A55 Fin rr h)
      · refine Or.inr ⟨L, c, csF, msF, n', qs', qd', qc', p, x1, x2, x3, x4, x5, x6, x7, x8, x9, x10, ?_, ?_⟩
        · intro post hp
          obtain ⟨n0, h⟩ := x11 post hp
          exact ⟨n0 + 1, up post n0 h⟩
        · intro A25 A55 Fin rr h
          exact upM A25 A55 Fin rr (x12 A25 A55 Fin rr h)
    · obtain ⟨L, c, csF, msF, n', qs', qd', qc', p, x1, x2, x3, x4, x5, x6, x7, x8, x9, x10, x11, x12⟩ := F
      refine Or.inr ⟨L, c, csF, msF, n', qs', qd', qc', p, x1, x2, x3, x4, x5, x6, x7, x8, x9, x10, ?_, fun A25 A55 Fin rr h => x12 A25 A55 Fin rr h⟩
      intro post hp
      refine ⟨1 + 1, hB post 1 (x11 post _ ?_ hp)⟩
      intro x4 S nl hS
      rw [gF36]
      exact p_two (fun _ => hS) (fun _ => p_no nl hS)
/-- the whole search, from the first state -/
theorem ls_all {N most : Nat} {clr : Bool} {st : Nat} {enc nx0 : Nat → Nat} {arr : Nat → Prop} {V : Nat → Nat → Prop} {J : CS → MS → Prop} {mv : Int32 → Int32 → Int32 → CS → (Int32 → CS → Prop) → Prop} {ar : Int32 → CS → (Int32 → CS → Prop) → Prop} {stp : Nat → Nat → MS → (Int32 → MS → Prop) → Prop} (H : SH N most clr st enc nx0 arr V J mv ar stp) {cg : Int32} (hcg : (clr = true → ¬ cg = 0) ∧ (clr = false → cg = 0)) {cs : CS} {ms : MS} (j : J cs ms) (R : RepQ N 1 (fun _ => st) (fun _ => 0) (fun _ => 0) ms) : ∃ cw : (CS → Prop) → Prop, (∀ post, cw post → ar (nI (enc st)) cs (fun r S => ((r = 0 → ∃ n0, gF36 mv ar cg post n0 (nI most) 1 0 (cQ S (vp_updL (cx_s_layer S) 0 (Int32.toInt64 (nI (enc st)))) (cx_s_nextLayer S) (cx_s_seen S) (cx_s_count S) (-1) 0)) ∧ (¬ r = 0 → ∃ n0, gF36 mv ar cg post n0 (nI most) 1 0 (cQ S (vp_updL (cx_s_layer S) 0 (Int32.toInt64 (nI (enc st)))) (cx_s_nextLayer S) (cx_s_seen S) (cx_s_count S) 0 0))))) ∧ (NFd N most clr arr V J stp cw (fun A25 => A25 0 ms) ∨ FDo N most clr arr V J stp cw (fun A25 => A25 0 ms)) := by
  have H0 := H
  obtain ⟨h1, h2, h3, h4, h5, h6, h7, hN, hm20, h0⟩ := H
  have hx := (h4 _ _ h0).1
  refine ⟨_, fun post h => h, ?_⟩
  by_cases a : arr st
  · right
    refine ⟨0, 0, cQ cs (vp_updL (cx_s_layer cs) 0 (Int32.toInt64 (nI (enc st)))) (cx_s_nextLayer cs) (cx_s_seen cs) (cx_s_count cs) 0 0, ms, 1, _, _, _, 0, by omega, R, rfl, rfl, by omega, by decide, by rw [cQ_length]; rfl, by rw [cQ_path]; rfl, ⟨ms, h1 _ _ _ _ j (cF_cQ _ _ _ _ _ _ _) (qF_refl _)⟩, ⟨cs, j⟩, ?_, ?_⟩
    · intro post hp
      refine h3 0 st cs ms j h0 _ (p_yes a (p_no (by decide) ⟨1, ?_⟩))
      rw [gF36, cQ_length]
      exact p_two (fun _ => hp) (fun _ => p_no (by decide) hp)
    · intro A25 A55 Fin rr h
      exact rr.2.2.2.2 1 _ _ _ cs ms 0 j R (by omega) h0 (Nat.zero_le _) a h
  · obtain ⟨csS, eS⟩ : ∃ z, z = cQ cs (vp_updL (cx_s_layer cs) 0 (Int32.toInt64 (nI (enc st)))) (cx_s_nextLayer cs) (cx_s_seen cs) (cx_s_count cs) (-1) 0 := ⟨_, rfl⟩
    have O : OI N clr st enc nx0 arr V J 0 0 1 1 (fun _ => enc st) (fun _ => 0) (fun _ => true) (fun _ => st) (fun _ => 0) (fun _ => 0) false csS ms := by
      refine ⟨⟨?_, R, fun i _ => ⟨h0, a⟩⟩, ⟨by omega, by omega, rfl⟩, fun i _ => Nat.le_refl _, fun i _ _ => rfl, ?_, rfl, ?_, ?_, by omega, fun _ => ⟨rfl, fun _ _ => rfl⟩, fun _ => ⟨rfl, rfl, rfl, rfl, rfl⟩, fun z => absurd rfl z, fun _ => Nat.le_refl _⟩
      · rw [eS]
        exact h1 _ _ _ _ j (cF_cQ _ _ _ _ _ _ _) (qF_refl _)
      · intro i hi
        exact ⟨hx, (show (0 : Nat) < 5 ^ 0 by decide), fun _ => ⟨rfl, rfl⟩, fun z => by cases z⟩
      · intro i hi
        have ei : i = 0 := by omega
        subst ei
        rw [eS, cQ_layer, uL_eq, nI_l (by omega)]
        rw [Nat.zero_mul, Nat.zero_add]
      · rw [eS, cQ_length]
    have wrap : ∀ post, (∃ n0, gF36 mv ar cg post n0 (nI most) (nI 1) (nI 0) csS) → ar (nI (enc st)) cs (fun r S => ((r = 0 → ∃ n0, gF36 mv ar cg post n0 (nI most) 1 0 (cQ S (vp_updL (cx_s_layer S) 0 (Int32.toInt64 (nI (enc st)))) (cx_s_nextLayer S) (cx_s_seen S) (cx_s_count S) (-1) 0)) ∧ (¬ r = 0 → ∃ n0, gF36 mv ar cg post n0 (nI most) 1 0 (cQ S (vp_updL (cx_s_layer S) 0 (Int32.toInt64 (nI (enc st)))) (cx_s_nextLayer S) (cx_s_seen S) (cx_s_count S) 0 0)))) := by
      intro post h
      refine h3 0 st cs ms j h0 _ (p_no a (p_yes rfl ?_))
      rw [← eS]
      exact h
    rcases ls_out H0 hcg most 0 0 1 1 _ _ _ _ _ _ _ csS ms (by omega) O with ⟨csF, msF, b', n', qs', qd', qc', x1, x2, x3, x4, x5, x6, x7, x8, x9⟩ | ⟨L, c, csF, msF, n', qs', qd', qc', p, x1, x2, x3, x4, x5, x6, x7, x8, x9, x10, x11, x12⟩
    · exact Or.inl ⟨csF, msF, b', n', qs', qd', qc', x1, x2, x3, x4, x5, x6, x7, fun post hp => wrap post (x8 post hp), x9⟩
    · exact Or.inr ⟨L, c, csF, msF, n', qs', qd', qc', p, x1, x2, x3, x4, x5, x6, x7, x8, x9, x10, fun post hp => wrap post (x11 post hp), x12⟩
