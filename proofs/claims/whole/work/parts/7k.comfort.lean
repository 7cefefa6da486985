/-! PURE LAYER: comfort -/
theorem q_find_comfort {p2 p3 : Int32} {S : CS} (post : CS → Prop) (h : wC_X1_arrived p2 S (fun r S => ((r = 0 → ∃ n0, gF36 wC_X1_moved wC_X1_arrived 1 post n0 p3 1 0 (cQ S (vp_updL (cx_s_layer S) 0 (Int32.toInt64 p2)) (cx_s_nextLayer S) (cx_s_seen S) (cx_s_count S) (-1) 0)) ∧ (¬ r = 0 → ∃ n0, gF36 wC_X1_moved wC_X1_arrived 1 post n0 p3 1 0 (cQ S (vp_updL (cx_s_layer S) 0 (Int32.toInt64 p2)) (cx_s_nextLayer S) (cx_s_seen S) (cx_s_count S) 0 0))))) : wC_X7_find_comfort p2 p3 S post := by
  have e : ∀ (t : Int32) (T : CS), wC_X7_find_comfort_14 post p2 p3 t T = ∃ n0, gF36 wC_X1_moved wC_X1_arrived 1 post n0 p3 1 0 (cQ T (vp_updL (cx_s_layer T) 0 (Int32.toInt64 p2)) (cx_s_nextLayer T) (cx_s_seen T) (cx_s_count T) t 0) := by
    intro t T
    unfold wC_X7_find_comfort_14
    simp only [p_all]
    rw [cQ_0_length, cQ_s_path, cQ_layer, cQ_s_layer]
    simp only [g36_comfort]
    rfl
  unfold wC_X7_find_comfort
  simp only [e]
  exact h
theorem Rel0_ef {cs cs' : CS} {ms ms' : MS} (R : Rel0 cs ms) (h : eC cs cs') (g : eM ms ms') (N : RN (cx_c_now cs') (ms_a ms')) (F : fr (ms_a ms) (ms_a ms')) : Rel0 cs' ms' := by
  unfold Rel0 RelV at R ⊢
  obtain ⟨r1, r2, r3, r4, r5⟩ := R
  have e : cs'.1 = (cx_c_now cs', cs.1.2) := Prod.ext rfl h.1
  rw [h.2.1, h.2.2.1, h.2.2.2, g.1, g.2.1, g.2.2.1, g.2.2.2.1, g.2.2.2.2.1, g.2.2.2.2.2, e]
  exact ⟨RC_now r1 N F, r2, r3, r4, r5⟩
def coE (s : Nat) : Nat := (s / 10 % 10) * 100 + s / 100
/-- what stays while ways of comfort are looked for: all but grief, mood and how tired -/
def coC (c h t0 : Nat) (en : Int32) (cs0 cs : CS) : Prop := eC cs0 cs ∧ (∀ i, i < 74 → i ≠ h → i ≠ 6 + h → i ≠ 24 + c → cx_c_now cs i = cx_c_now cs0 i) ∧ cx_f_tired cs = nI t0 ∧ cx_f_clown cs = nI c ∧ cx_f_house cs = nI h ∧ cx_f_enough cs = en
def coM (c h : Nat) (ms0 ms : MS) : Prop := eM ms0 ms ∧ ms_aside ms = ms_aside ms0 ∧ (∀ k, k ≠ 10 + 6 * h → k ≠ 11 + 6 * h → k ≠ 46 + 5 * c → ms_a ms k = ms_a ms0 k)
theorem now_s (S : CS) (f : Nat → Int32) : sS S (cx_set_c_now S f) := sS_d (dC_now S f)
theorem now_f (S : CS) (f : Nat → Int32) : cx_f_tired (cx_set_c_now S f) = cx_f_tired S ∧ cx_f_clown (cx_set_c_now S f) = cx_f_clown S ∧ cx_f_house (cx_set_c_now S f) = cx_f_house S ∧ cx_f_enough (cx_set_c_now S f) = cx_f_enough S := by
  refine ⟨?_, ?_, ?_, ?_⟩ <;> simp only [cx_f_tired, cx_f_clown, cx_f_house, cx_f_enough, cx_set_c_now]
theorem sC_f {S S' : CS} (h : sC S S') : cx_f_tired S' = cx_f_tired S ∧ cx_f_clown S' = cx_f_clown S ∧ cx_f_house S' = cx_f_house S ∧ cx_f_enough S' = cx_f_enough S := ⟨congrArg (fun z => z.2.2.2.2.2.2.2.2.1) h.2.2.2.2, congrArg (fun z => z.2.2.2.2.2.2.2.2.2.1) h.2.2.2.2, congrArg (fun z => z.2.2.2.2.2.2.2.2.2.2.1) h.2.2.2.2, congrArg (fun z => z.2.2.2.2.2.2.2.2.2.2.2.1) h.2.2.2.2⟩
theorem sS_trans {S T U : CS} (h : sS S T) (g : sS T U) : sS S U := ⟨g.1.trans h.1, g.2.1.trans h.2.1, g.2.2.1.trans h.2.2.1, g.2.2.2.1.trans h.2.2.2.1, g.2.2.2.2.1.trans h.2.2.2.2.1, g.2.2.2.2.2.trans h.2.2.2.2.2⟩
def coN (f : Nat → Int32) (c h : Nat) (m g t : Int32) : Nat → Int32 := upd (upd (upd f (6 + h) m) h g) (24 + c) t
theorem q_become {S : CS} {c h : Nat} (hc : c < 5) (hh : h < 6) (e1 : cx_f_house S = nI h) (e2 : cx_f_clown S = nI c) {x : Nat} (hx : x < 1000) (t : Int32) (post : CS → Prop) (hp : post (cx_set_c_now S (coN (cx_c_now S) c h (nI (x / 100)) (nI (x % 100)) t))) : wC_X1_become (nI x) t S post := by
  unfold wC_X1_become
  rw [e1, show nI x / 100 = nI (x / 100) from p_div (d := 100) (by omega) (by decide), show k_rem (nI x) 100 = nI (x % 100) from p_rem (d := 100) (by omega) (by decide), q_set_mood hh, (now_f _ _).2.2.1, e1, q_set_grief hh, (now_f _ _).2.1, (now_f _ _).2.1, e2, q_set_tired hc, gs_now_now, gs_now_now, s_nn, s_nn]
  exact hp
theorem coN_off (f : Nat → Int32) {c h i : Nat} (m g t : Int32) (h1 : i ≠ h) (h2 : i ≠ 6 + h) (h3 : i ≠ 24 + c) : coN f c h m g t i = f i := by
  unfold coN
  rw [upd_ne _ _ h3, upd_ne _ _ h1, upd_ne _ _ h2]
def coA (f : Nat → Int32) (c h : Nat) (m g t : Int32) : Nat → Int32 := upd (upd (upd f (10 + 6 * h) g) (11 + 6 * h) m) (46 + 5 * c) t
theorem coA_off (f : Nat → Int32) {c h k : Nat} (m g t : Int32) (h1 : k ≠ 10 + 6 * h) (h2 : k ≠ 11 + 6 * h) (h3 : k ≠ 46 + 5 * c) : coA f c h m g t k = f k := by
  unfold coA
  rw [upd_ne _ _ h3, upd_ne _ _ h2, upd_ne _ _ h1]
theorem co_RN {f0 a0 f a : Nat → Int32} {c h : Nat} (hc : c < 5) (hh : h < 6) (N : RN f0 a0) (h1 : ∀ i, i < 74 → i ≠ h → i ≠ 6 + h → i ≠ 24 + c → f i = f0 i) (h2 : ∀ k, k ≠ 10 + 6 * h → k ≠ 11 + 6 * h → k ≠ 46 + 5 * c → a k = a0 k) {m g t : Int32} (m0 : 0 ≤ m ∧ m ≤ 9) (g0 : 0 ≤ g ∧ g ≤ 99) (t0 : 0 ≤ t ∧ t ≤ 9) : RN (coN f c h m g t) (coA a c h m g t) := by
  intro i hi
  have ig := ix_grief hh
  have im := ix_mood hh
  have it := ix_tired hc
  by_cases e3 : i = 24 + c
  · subst e3
    rw [it, lo_tired hc, hi_tired hc]
    unfold coN coA
    rw [upd_eq, upd_eq]
    exact ⟨rfl, t0⟩
  · have x3 : ix i ≠ 46 + 5 * c := by rw [← it]; intro z; exact e3 (ix_inj i (by omega) _ (by omega) z)
    by_cases e1 : i = h
    · subst e1
      rw [ig, lo_grief hh, hi_grief hh]
      unfold coN coA
      rw [upd_ne _ _ e3, upd_eq, upd_ne _ _ (by omega), upd_ne _ _ (by omega), upd_eq]
      exact ⟨rfl, g0⟩
    · have x1 : ix i ≠ 10 + 6 * h := by rw [← ig]; intro z; exact e1 (ix_inj i (by omega) _ (by omega) z)
      by_cases e2 : i = 6 + h
      · subst e2
        rw [im, lo_mood hh, hi_mood hh]
        unfold coN coA
        rw [upd_ne _ _ e3, upd_ne _ _ e1, upd_eq, upd_ne _ _ (by omega), upd_eq]
        exact ⟨rfl, m0⟩
      · have x2 : ix i ≠ 11 + 6 * h := by rw [← im]; intro z; exact e2 (ix_inj i (by omega) _ (by omega) z)
        rw [coN_off _ _ _ _ e1 e2 e3, coA_off _ _ _ _ x1 x2 x3, h1 i hi e1 e2 e3, h2 _ x1 x2 x3]
        exact N i hi
theorem co_fr {a0 a : Nat → Int32} {c h : Nat} (hc : c < 5) (hh : h < 6) (h2 : ∀ k, k ≠ 10 + 6 * h → k ≠ 11 + 6 * h → k ≠ 46 + 5 * c → a k = a0 k) (m g t : Int32) : fr a0 (coA a c h m g t) := by
  intro k hk
  have x1 : k ≠ 10 + 6 * h := by rw [← ix_grief hh]; exact fun z => hk h (by omega) z.symm
  have x2 : k ≠ 11 + 6 * h := by rw [← ix_mood hh]; exact fun z => hk (6 + h) (by omega) z.symm
  have x3 : k ≠ 46 + 5 * c := by rw [← ix_tired hc]; exact fun z => hk (24 + c) (by omega) z.symm
  rw [coA_off _ _ _ _ x1 x2 x3]
  exact h2 k x1 x2 x3
/-- one fall that is tried, on both sides -/
theorem co_step {cs0 : CS} {ms0 : MS} (R : Rel0 cs0 ms0) {c h t0 : Nat} {en : Int32} (hc : c < 5) (hh : h < 6) (ep : ms_a ms0 (47 + 5 * c) = nI h) {cs : CS} {ms : MS} (jc : coC c h t0 en cs0 cs) (jm : coM c h ms0 ms) {D s f : Nat} (hs : s < 10000) (ht : s % 10 = t0 + D) (h8 : t0 + D < 9) (hf : f < 5) : ∃ (s' : Nat) (cs' : CS) (ms' : MS), (s' < 10000 ∧ s' % 10 = t0 + (D + 1)) ∧ coC c h t0 en cs0 cs' ∧ coM c h ms0 ms' ∧ sS cs cs' ∧ sQ ms ms' ∧ rt (wC_X1_moved (nI (coE s)) (nI f) (nI D) cs) (nI (coE s')) cs' ∧ rt (wM_behindFall (nI c) (nI s) (nI f) ms) (nI s') ms' := by
  obtain ⟨c1, c2, c3, c4, c5, c6⟩ := jc
  obtain ⟨m1, m2, m3⟩ := jm
  have x1000 : coE s < 1000 := by
    unfold coE
    omega
  have xd : coE s / 100 = s / 10 % 10 := by
    unfold coE
    omega
  have xm : coE s % 100 = s / 100 := by
    unfold coE
    omega
  have gb : s / 100 < 100 := by omega
  have mb : s / 10 % 10 < 10 := by omega
  have bm : (0 : Int32) ≤ nI (s / 10 % 10) ∧ nI (s / 10 % 10) ≤ 9 := ⟨nI_pos' (by omega), nI_le (b := 9) (by omega) (by decide)⟩
  have bg : (0 : Int32) ≤ nI (s / 100) ∧ nI (s / 100) ≤ 99 := ⟨nI_pos' (by omega), nI_le (b := 99) (by omega) (by decide)⟩
  have bt : (0 : Int32) ≤ nI (t0 + D) ∧ nI (t0 + D) ≤ 9 := ⟨nI_pos' (by omega), nI_le (b := 9) (by omega) (by decide)⟩
  obtain ⟨cs1, e1⟩ : ∃ z, z = cx_set_c_now cs (coN (cx_c_now cs) c h (nI (s / 10 % 10)) (nI (s / 100)) (nI (t0 + D))) := ⟨_, rfl⟩
  obtain ⟨ms1, e2⟩ : ∃ z, z = ms_set_a ms (coA (ms_a ms) c h (nI (s / 10 % 10)) (nI (s / 100)) (nI (t0 + D))) := ⟨_, rfl⟩
  have a1 : ms_a ms1 = coA (ms_a ms) c h (nI (s / 10 % 10)) (nI (s / 100)) (nI (t0 + D)) := by
    rw [e2, g_aa]
  have n1 : cx_c_now cs1 = coN (cx_c_now cs) c h (nI (s / 10 % 10)) (nI (s / 100)) (nI (t0 + D)) := by
    rw [e1, gs_now_now]
  have R1 : Rel0 cs1 ms1 := by
    refine Rel0_ef R (eC_trans c1 (by rw [e1]; exact dC_e (dC_now _ _))) (eM_trans m1 (by rw [e2]; exact dM_e (dM_a _ _))) ?_ ?_
    · rw [n1, a1]
      exact co_RN hc hh R.1.1 c2 m3 bm bg bt
    · rw [a1]
      exact co_fr hc hh m3 _ _ _
  have ep1 : ms_a ms1 (47 + 5 * c) = nI h := by
    rw [a1, coA_off _ _ _ _ (by omega) (by omega) (by omega), m3 _ (by omega) (by omega) (by omega)]
    exact ep
  have ep0 : ms_a ms (47 + 5 * c) = nI h := by
    rw [m3 _ (by omega) (by omega) (by omega)]
    exact ep
  obtain ⟨r, cs2, ms2, hr, s1, s2, hC, hM⟩ := sim_easing R1 rfl (fun _ _ => rfl) hc hf hh ep1
  have RC2 : RC cs2.1 (ms_a ms1) := by
    rw [s1.1]
    exact R1.1
  have btu := bd_turns RC2 (h := 10 * f + s / 10 % 10) (by omega)
  obtain ⟨u, hu, eu⟩ := p_rng2 (n := 9) (by decide) btu.1 btu.2
  have le : nI (s / 100) - r ≤ 99 := by
    generalize nI (s / 100) = x at bg
    grind
  have bv := hd_bd (r := nI (s / 100) - r) (top := 99) (by decide)
  obtain ⟨v, hv, ev⟩ := p_rng2 (n := 99) (by decide) bv.1 bv.2
  have sC1 := now_f cs (coN (cx_c_now cs) c h (nI (s / 10 % 10)) (nI (s / 100)) (nI (t0 + D)))
  rw [← e1] at sC1
  have fs := sC_f s1
  refine ⟨v * 100 + u * 10 + (t0 + D) + 1, cs2, ms_set_a ms2 (upd (upd (ms_a ms1) (10 + 6 * h) (nI v)) (11 + 6 * h) (nI u)), ⟨by omega, by omega⟩, ⟨?_, ?_, ?_, ?_, ?_, ?_⟩, ⟨?_, ?_, ?_⟩, ?_, ?_, ?_, ?_⟩
  · exact eC_trans c1 (eC_trans (by rw [e1]; exact dC_e (dC_now _ _)) (dC_e (sC_d s1)))
  · intro i hi h1 h2 h3
    rw [sC_now s1, n1, coN_off _ _ _ _ h1 h2 h3]
    exact c2 i hi h1 h2 h3
  · rw [fs.1, sC1.1]
    exact c3
  · rw [fs.2.1, sC1.2.1]
    exact c4
  · rw [fs.2.2.1, sC1.2.2.1]
    exact c5
  · rw [fs.2.2.2, sC1.2.2.2]
    exact c6
  · exact eM_trans m1 (eM_trans (by rw [e2]; exact dM_e (dM_a _ _)) (eM_trans (dM_e (sM_d s2)) (dM_e (dM_a _ _))))
  · rw [d_aside (dM_a _ _), d_aside (sM_d s2), e2, d_aside (dM_a _ _)]
    exact m2
  · intro k h1 h2 h3
    rw [g_aa, upd_ne _ _ h2, upd_ne _ _ h1, a1, coA_off _ _ _ _ h1 h2 h3]
    exact m3 k h1 h2 h3
  · exact sS_trans (by rw [e1]; exact now_s _ _) (sS_d (sC_d s1))
  · exact sQ_trans (by rw [e2]; exact sQ_d (dM_a _ _)) (sQ_trans (sQ_d (sM_d s2)) (sQ_d (dM_a _ _)))
  · intro post hp
    unfold wC_X1_moved
    rw [c3, nI_add]
    refine q_become hc hh c5 c4 x1000 _ _ ?_
    rw [xd, xm, ← e1, sC1.2.1, c4]
    refine hC _ ?_
    rw [show nI (coE s) / 100 = nI (coE s / 100) from p_div (d := 100) (by omega) (by decide), show k_rem (nI (coE s)) 100 = nI (coE s % 100) from p_rem (d := 100) (by omega) (by decide), xd, xm, q_turned hf mb, rd_turns RC2 (by omega), eu, hd_max le, ev, nI_ml 100 u, nI_add]
    have es : coE (v * 100 + u * 10 + (t0 + D) + 1) = u * 100 + v := by
      unfold coE
      omega
    rw [es] at hp
    exact hp
  · intro post hp
    unfold wM_behindFall
    rw [m_own_at hc, ep0, show nI s / 100 = nI (s / 100) from p_div (d := 100) (by omega) (by decide), show nI s / 10 = nI (s / 10) from p_div (d := 10) (by omega) (by decide), show k_rem (nI (s / 10)) 10 = nI (s / 10 % 10) from p_rem (d := 10) (by omega) (by decide), show k_rem (nI s) 10 = nI (s % 10) from p_rem (d := 10) (by omega) (by decide), ht, m_put_grief hh, m_put_mood hh, m_lay_tired hc, g_aa, g_aa, s_aa, s_aa]
    have e3 : ms_set_a ms (upd (upd (upd (ms_a ms) (10 + 6 * h) (nI (s / 100))) (11 + 6 * h) (nI (s / 10 % 10))) (46 + 5 * c) (nI (t0 + D))) = ms1 := by
      rw [e2]
      rfl
    rw [e3]
    have ag : ms_a ms1 (10 + 6 * h) = nI (s / 100) := by
      rw [a1]
      unfold coA
      rw [upd_ne _ _ (by omega), upd_ne _ _ (by omega), upd_eq]
    have am : ms_a ms1 (11 + 6 * h) = nI (s / 10 % 10) := by
      rw [a1]
      unfold coA
      rw [upd_ne _ _ (by omega), upd_eq]
    unfold wM_comfortNow
    rw [m_own_at hc, ep1, m_get_grief hh, ag]
    refine hM _ ?_
    rw [m_cut, ev, m_put_grief hh, s2.1, m_get_mood hh, g_aa, upd_ne _ _ (by omega), am, m_moodBy hf mb, g_aa, upd_ne _ _ (by omega), eu, m_put_mood hh, g_aa, s_aa]
    dsimp only
    rw [m_get_grief hh, g_aa, upd_ne _ _ (by omega), upd_eq, m_get_mood hh, g_aa, upd_eq, nI_ml 100 v, nI_ml 10 u, nI_add, nI_add, nI_1]
    exact hp
def coV (t0 D s : Nat) : Prop := s < 10000 ∧ s % 10 = t0 + D
theorem comfort_SH {cs0 : CS} {ms0 : MS} (R : Rel0 cs0 ms0) {c h t0 st g : Nat} (hc : c < 5) (hh : h < 6) (ht : t0 ≤ 9) (hg : g < 2 ^ 31) (ep : ms_a ms0 (47 + 5 * c) = nI h) (hst : coV t0 0 st) : SH 10000 (9 - t0) true st coE (fun _ => 0) (fun s => s / 100 ≤ g) (coV t0) (fun cs ms => coC c h t0 (nI g) cs0 cs ∧ coM c h ms0 ms) wC_X1_moved wC_X1_arrived (fun s f S post => wM_behindFall (nI c) (nI s) (nI f) S post) := by
  have enc : ∀ s, s < 10000 → coE s < 1000 ∧ coE s % 100 = s / 100 := by
    intro s hs
    unfold coE
    omega
  refine ⟨?_, ?_, ?_, ?_, ?_, ?_, ?_, by decide, by omega, hst⟩
  · rintro cs ms cs' ms' ⟨⟨c1, c2, c3, c4, c5, c6⟩, ⟨m1, m2, m3⟩⟩ f q
    refine ⟨⟨eC_trans c1 f.1, ?_, ?_, ?_, ?_, ?_⟩, ⟨eM_trans m1 q.1, q.2.2.trans m2, ?_⟩⟩
    · intro i hi h1 h2 h3
      rw [f.2.1]
      exact c2 i hi h1 h2 h3
    · rw [f.2.2.2.1]
      exact c3
    · rw [f.2.2.2.2.1]
      exact c4
    · rw [f.2.2.2.2.2.1]
      exact c5
    · rw [f.2.2.2.2.2.2]
      exact c6
    · intro k h1 h2 h3
      rw [q.2.1]
      exact m3 k h1 h2 h3
  · rintro D s f cs ms ⟨jc, jm⟩ hv hf hd
    have hd' : D < 9 - t0 := by
      rcases hd with z | z
      · exact z
      · cases z
    obtain ⟨s', cs', ms', v, jc', jm', ss, sq, hC, hM⟩ := co_step R hc hh ep jc jm (D := D) hv.1 hv.2 (by omega) hf
    exact ⟨s', cs', ms', v, ⟨jc', jm'⟩, ss, sq, hC, hM, fun z => by cases z⟩
  · rintro D s cs ms ⟨jc, jm⟩ hv post hp
    obtain ⟨x1, x2⟩ := enc s hv.1
    unfold wC_X1_arrived
    rw [jc.2.2.2.2.2, show k_rem (nI (coE s)) 100 = nI (coE s % 100) from p_rem (d := 100) (by omega) (by decide), x2]
    have hs := hv.1
    refine p_two (fun z => hp.2 (fun q => ?_)) (fun z => hp.1 ?_)
    · have := (nI_ltI hg (by omega)).mp z
      omega
    · by_cases q : s / 100 ≤ g
      · exact q
      · exact absurd (nI_lt (by omega) (by omega)) z
  · intro D s hv
    exact ⟨by have := (enc s hv.1).1; omega, hv.1⟩
  · intro D D' s s' hv hv' hD e
    have eD := hD rfl
    have a1 := hv.1
    have a2 := hv.2
    have b1 := hv'.1
    have b2 := hv'.2
    unfold coE at e
    have r1 : s = 100 * (s / 100) + 10 * (s / 10 % 10) + s % 10 := by omega
    have r2 : s' = 100 * (s' / 100) + 10 * (s' / 10 % 10) + s' % 10 := by omega
    have u1 : s / 100 < 100 := by omega
    have u2 : s' / 100 < 100 := by omega
    generalize s / 100 = x1 at *
    generalize s' / 100 = x2 at *
    generalize s / 10 % 10 = x3 at *
    generalize s' / 10 % 10 = x4 at *
    omega
  · intro _ D D' s hv hv'
    have a2 := hv.2
    have b2 := hv'.2
    omega
  · intro z
    cases z
theorem comfort_RR (J : CS → MS → Prop) {t0 g c : Nat} (ht : t0 ≤ 9) (hg : g < 2 ^ 31) (post : Int32 → MS → Prop) : RR 10000 (9 - t0) true (fun s => s / 100 ≤ g) (coV t0) J (fun s f S post => wM_behindFall (nI c) (nI s) (nI f) S post) (fun k S => ∃ n, wM_comfortedAt_45 post n (nI c) (nI g) (nI k) S) (fun k f S => ∀ s, s < 10000 → ms_line S k = nI s → ∃ n m, wM_comfortedAt_76 post (wM_comfortedAt_45 post n) m (nI c) (nI g) (nI k) (nI s) (nI f) S) (fun s S => post (nI s) S) := by
  refine ⟨?_, ?_, ?_, ?_, ?_⟩
  · intro n qs qd qc cs ms k j R hk hv hd na hA
    have nn := RepQ_n R
    obtain ⟨k1, k2, k3, k4⟩ := R.2.1 k hk
    obtain ⟨n0, m0, h⟩ := hA (qs k) k1 k2
    refine ⟨n0 + 1, ?_⟩
    rw [wM_comfortedAt_45, R.1, nI_clamp (by omega), k2, show nI (qs k) / 100 = nI (qs k / 100) from p_div (d := 100) (by omega) (by decide)]
    exact p_no (nI_ge hk (by omega)) ⟨vp_in_nI (by omega) (by decide), p_yes (nI_lt (by have : ¬ qs k / 100 ≤ g := na; omega) (by omega)) ⟨m0, h⟩⟩
  · intro n qs qd qc cs ms k f j R hk hv hd hf s' ms' ms2 sq h1 h2 hl hA s hs es
    obtain ⟨k1, k2, k3, k4⟩ := R.2.1 k hk
    have e := (nI_eq (by omega) (by omega)).mp (k2.symm.trans es)
    subst e
    obtain ⟨n0, m0, h⟩ := hA (qs k) hs hl
    have hv2 := hv.2
    have hd' : qd k < 9 - t0 := by
      rcases hd with z | z
      · exact z
      · cases z
    refine ⟨n0, m0 + 1, ?_⟩
    rw [wM_comfortedAt_76, show k_rem (nI (qs k)) 10 = nI (qs k % 10) from p_rem (d := 10) (by omega) (by decide)]
    refine p_no (nI_ge (b := 5) hf (by decide)) (p_no (nI_ge (b := 9) (by omega) (by decide)) (h1 _ (h2 _ ?_)))
    rw [nI_1]
    exact h
  · rintro n qs qd qc cs ms k j R hk hv _ hd ⟨n0, h⟩ s hs es
    obtain ⟨k1, k2, k3, k4⟩ := R.2.1 k hk
    have e := (nI_eq (by omega) (by omega)).mp (k2.symm.trans es)
    subst e
    have hv2 := hv.2
    refine ⟨n0, 1, ?_⟩
    rw [wM_comfortedAt_76, show k_rem (nI (qs k)) 10 = nI (qs k % 10) from p_rem (d := 10) (by omega) (by decide), nI_1]
    exact p_no (by decide) (p_yes (nI_le (a := 9) (by omega) (by omega)) h)
  · rintro k ms hk ⟨n0, h⟩ s hs es
    refine ⟨n0, 1, ?_⟩
    rw [wM_comfortedAt_76, nI_1]
    exact p_yes (by decide) h
  · intro n qs qd qc cs ms k j R hk hv hd a h
    have nn := RepQ_n R
    obtain ⟨k1, k2, k3, k4⟩ := R.2.1 k hk
    refine ⟨1, ?_⟩
    rw [wM_comfortedAt_45, R.1, nI_clamp (by omega), k2, show nI (qs k) / 100 = nI (qs k / 100) from p_div (d := 100) (by omega) (by decide)]
    refine p_no (nI_ge hk (by omega)) ⟨vp_in_nI (by omega) (by decide), p_no (fun z => ?_) h⟩
    have := (nI_ltI hg (by omega)).mp z
    have a' : qs k / 100 ≤ g := a
    omega
theorem comfort_rest {J : CS → MS → Prop} {t0 g c n : Nat} (ht : t0 ≤ 9) (hg : g < 2 ^ 31) {qs qd qc : Nat → Nat} {cs : CS} {ms : MS} (j : J cs ms) (R : RepQ 10000 n qs qd qc ms) (hv : ∀ i, i < n → coV t0 (qd i) (qs i) ∧ ¬ qs i / 100 ≤ g) (post : Int32 → MS → Prop) (hp : post (-1) ms) : ∀ d k, k + d = n → (∀ i, k ≤ i → i < n → qd i = 9 - t0) → ∃ n0, wM_comfortedAt_45 post n0 (nI c) (nI g) (nI k) ms := by
  have rr := comfort_RR J (c := c) ht hg post
  intro d
  induction d with
  | zero =>
    intro k e _
    have ek : k = n := by omega
    subst ek
    refine ⟨1, ?_⟩
    rw [wM_comfortedAt_45, R.1]
    exact p_yes (Int32.le_refl _) hp
  | succ d ih =>
    intro k e hd
    have dk := hd k (Nat.le_refl _) (by omega)
    have v := hv k (by omega)
    exact rr.1 n qs qd qc cs ms k j R (by omega) v.1 (by omega) v.2 (rr.2.2.1 n qs qd qc cs ms k j R (by omega) v.1 rfl dk (ih (k + 1) (by omega) (fun i h1 h2 => hd i (by omega) h2)))
/-! how it begins and ends -/
theorem coF (S : CS) (a b d e : Int32) : cx_f_tired (cx_set_f_enough (cx_set_f_tired (cx_set_f_house (cx_set_f_clown S a) b) d) e) = d ∧ cx_f_clown (cx_set_f_enough (cx_set_f_tired (cx_set_f_house (cx_set_f_clown S a) b) d) e) = a ∧ cx_f_house (cx_set_f_enough (cx_set_f_tired (cx_set_f_house (cx_set_f_clown S a) b) d) e) = b ∧ cx_f_enough (cx_set_f_enough (cx_set_f_tired (cx_set_f_house (cx_set_f_clown S a) b) d) e) = e ∧ cx_c_now (cx_set_f_enough (cx_set_f_tired (cx_set_f_house (cx_set_f_clown S a) b) d) e) = cx_c_now S := by
  refine ⟨?_, ?_, ?_, ?_, ?_⟩ <;> simp only [cx_f_tired, cx_f_clown, cx_f_house, cx_f_enough, cx_c_now, cx_set_f_enough, cx_set_f_tired, cx_set_f_house, cx_set_f_clown]
theorem coF_eC (S : CS) (a b d e : Int32) : eC S (cx_set_f_enough (cx_set_f_tired (cx_set_f_house (cx_set_f_clown S a) b) d) e) := by
  refine ⟨?_, ?_, ?_, ?_⟩ <;> simp only [cx_set_f_enough, cx_set_f_tired, cx_set_f_house, cx_set_f_clown]
theorem coF_1 (S : CS) (a : Int32) : cx_c_now (cx_set_f_clown S a) = cx_c_now S := by
  simp only [cx_c_now, cx_set_f_clown]
theorem coF_2 (S : CS) (a b : Int32) : cx_c_now (cx_set_f_house (cx_set_f_clown S a) b) = cx_c_now S := by
  simp only [cx_c_now, cx_set_f_clown, cx_set_f_house]
theorem sim_comfort {cs : CS} {ms : MS} (R : Rel cs ms) (p1 p2 p3 : Int32) : ∃ (r : Int32) (cs' : CS) (ms' : MS), rt (wC_X11_comfort p1 p2 p3 cs) r cs' ∧ rt (wM_comfort p1 p2 p3 ms) r ms' ∧ Rel cs' ms' := by
  have hC := bd_clowns R.1.1
  by_cases cc : ((0 ≤ p1 ∧ p1 < ms_a ms 1) ∧ ¬ ms_a ms (47 + 5 * p1.toNatClampNeg) = -1) ∧ (0 ≤ p2 ∧ p2 ≤ 99)
  · obtain ⟨k1, k2⟩ := cc
    obtain ⟨c, h, hc, hh, e1, ep⟩ := out_at R.1 k1
    subst e1
    obtain ⟨g, hg, rfl⟩ := p_rng2 (n := 99) (by decide) k2.1 k2.2
    have bgr := bd_grief R.1.1 hh
    have bmo := bd_mood R.1.1 hh
    have bti := bd_tired R.1.1 hc
    obtain ⟨g0, hg0, eg⟩ := p_rng2 (n := 99) (by decide) bgr.1 bgr.2
    obtain ⟨m0, hm0, em⟩ := p_rng2 (n := 9) (by decide) bmo.1 bmo.2
    obtain ⟨t0, ht0, et⟩ := p_rng2 (n := 9) (by decide) bti.1 bti.2
    -- the reference begins
    obtain ⟨f, hf, hS⟩ := m_setAside ms
    obtain ⟨msA, eA⟩ : ∃ z, z = ms_set_aside ms f := ⟨_, rfl⟩
    have aA : ms_a msA = ms_a ms := by rw [eA, a_t1]
    have sA : ms_aside msA = f := by rw [eA, a_t2]
    obtain ⟨msB, RB, fB, bB⟩ := m_beginAt (N := 10000) (s := g0 * 100 + m0 * 10 + t0) (by decide) (by omega) msA
    -- the class begins
    obtain ⟨csA, eD⟩ : ∃ z, z = cx_set_f_enough (cx_set_f_tired (cx_set_f_house (cx_set_f_clown cs (nI c)) (nI h)) (nI t0)) (nI g) := ⟨_, rfl⟩
    have fA := coF cs (nI c) (nI h) (nI t0) (nI g)
    have gA := coF_eC cs (nI c) (nI h) (nI t0) (nI g)
    rw [← eD] at fA gA
    have Re : Rel0 csA msB := Rel0_e R.1 gA (eM_trans (by rw [eA]; exact a_eM _ _) fB.1) (by rw [fA.2.2.2.2]; exact R.1.1.1) (fB.2.1.trans aA)
    have aB : ms_a msB = ms_a ms := fB.2.1.trans aA
    have st : coV t0 0 (g0 * 100 + m0 * 10 + t0) := ⟨by omega, by omega⟩
    have est : coE (g0 * 100 + m0 * 10 + t0) = m0 * 100 + g0 := by
      unfold coE
      omega
    have H := comfort_SH (cs0 := csA) (ms0 := msB) Re hc hh ht0 (show g < 2 ^ 31 by omega) (by rw [aB]; exact ep) st
    have j0 : coC c h t0 (nI g) csA csA ∧ coM c h msB msB := ⟨⟨⟨rfl, rfl, rfl, rfl⟩, fun _ _ _ _ _ => rfl, fA.1, fA.2.1, fA.2.2.1, fA.2.2.2.1⟩, ⟨⟨rfl, rfl, rfl, rfl, rfl, rfl⟩, rfl, fun _ _ _ _ => rfl⟩⟩
    obtain ⟨cw, hcw, res⟩ := ls_all H (cg := 1) ⟨(fun _ => by decide), fun z => by cases z⟩ (cs := csA) (ms := msB) j0 RB
    rw [est] at hcw
    -- the class's end: grief, mood and how tired as they were
    have back : ∀ csF : CS, coC c h t0 (nI g) csA csF → ∃ csG : CS, (∀ post : CS → Prop, post csG → wC_X1_leaveAsItWas (nI (m0 * 100 + g0)) csF post) ∧ eC cs csG ∧ RN (cx_c_now csG) (ms_a ms) ∧ sS csF csG := by
      rintro csF ⟨q1, q2, q3, q4, q5, q6⟩
      refine ⟨cx_set_c_now csF (coN (cx_c_now csF) c h (nI ((m0 * 100 + g0) / 100)) (nI ((m0 * 100 + g0) % 100)) (nI t0)), ?_, eC_trans gA (eC_trans q1 (dC_e (dC_now _ _))), ?_, now_s _ _⟩
      · intro post hp
        unfold wC_X1_leaveAsItWas
        rw [q3]
        exact q_become hc hh q5 q4 (by omega) _ _ hp
      · rw [gs_now_now]
        refine RN_same R.1.1.1 ?_
        intro i hi
        show _ = cx_c_now cs i
        rw [show (m0 * 100 + g0) / 100 = m0 by omega, show (m0 * 100 + g0) % 100 = g0 by omega]
        by_cases e3 : i = 24 + c
        · subst e3
          rw [rd_tired R.1.1 hc, et]
          unfold coN
          rw [upd_eq]
        · by_cases e1 : i = h
          · subst e1
            rw [rd_grief R.1.1 hh, eg]
            unfold coN
            rw [upd_ne _ _ e3, upd_eq]
          · by_cases e2 : i = 6 + h
            · subst e2
              rw [rd_mood R.1.1 hh, em]
              unfold coN
              rw [upd_ne _ _ e3, upd_ne _ _ e1, upd_eq]
            · rw [coN_off _ _ _ _ e1 e2 e3, q2 i hi e1 e2 e3, fA.2.2.2.2]
    -- the reference's end: the row as it was
    have backM : ∀ msF : MS, coM c h msB msF → ∃ msG : MS, rv (wM_putBack msF) msG ∧ eM ms msG ∧ ms_a msG = ms_a ms ∧ sQ msF msG := by
      rintro msF ⟨q1, q2, q3⟩
      obtain ⟨a', z1, z2, z3⟩ := m_putBack msF
      refine ⟨ms_set_a msF a', z3, eM_trans (by rw [eA]; exact a_eM _ _) (eM_trans fB.1 (eM_trans q1 (dM_e (dM_a _ _)))), ?_, sQ_d (dM_a _ _)⟩
      rw [g_aa]
      funext k
      by_cases ck : 7 ≤ k ∧ k < 71
      · rw [z1 k ck.1 ck.2, q2, fB.2.2, sA]
        exact hf k ck.1 ck.2
      · rw [z2 k (by omega), q3 k (by omega) (by omega) (by omega), aB]
    have cls : ∀ post : Int32 → CS → Prop, cw (fun S_10 => wC_X1_leaveAsItWas (nI (m0 * 100 + g0)) S_10 (fun S_12 => wC_X7_answer p3 S_12 (fun r_13 S_14 => post r_13 S_14))) → wC_X11_comfort (nI c) (nI g) p3 cs post := by
      intro post hp
      unfold wC_X11_comfort
      rw [q_isOutR R.1, p_b0]
      refine p_val k1 ?_
      rw [q_within, p_b0]
      refine p_val k2 ?_
      unfold wC_X1_begin
      simp only [p_all]
      rw [q_see_place hc, coF_1, rd_place R.1.1 hc, ep, q_see_tired hc, coF_2, rd_tired R.1.1 hc, et, ← eD, fA.2.2.1, q_see_mood hh, fA.2.2.2.2, rd_mood R.1.1 hh, em, fA.2.2.1, q_see_grief hh, fA.2.2.2.2, rd_grief R.1.1 hh, eg, nI_ml 100 m0, nI_add, fA.1, show (9 : Int32) - nI t0 = nI (9 - t0) from nI_sub (a := 9) ht0]
      exact q_find_comfort _ (hcw _ hp)
    have ref : ∀ post : Int32 → MS → Prop, (∃ n, wM_comfortedAt_45 (fun r_9 S_10 => wM_putBack S_10 (fun S_12 => wM_wayTo r_9 p3 S_12 (fun r_13 S_14 => post r_13 S_14))) n (nI c) (nI g) (nI 0) msB) → wM_comfort (nI c) (nI g) p3 ms post := by
      intro post hp
      unfold wM_comfort
      rw [m_isAtHouse hC, p_b0]
      refine p_val k1 ?_
      rw [m_isIn, p_b0]
      refine p_val k2 (hS _ ?_)
      rw [← eA]
      unfold wM_comfortedAt
      rw [m_own_at hc, aA, ep, m_get_grief hh, aA, eg, m_own_at hc, aA, ep, m_get_mood hh, aA, em, m_own_tired hc, aA, et, nI_ml 100 g0, nI_ml 10 m0, nI_add, nI_add]
      exact bB _ hp
    rcases res with ⟨csF, msF, b, n, qs, qd, qc, x1, x2, x3, x4, x5, x6, x7, x8, x9⟩ | ⟨L, c', csF, msF, n, qs, qd, qc, p, x1, x2, x3, x4, x5, x6, x7, x8, ⟨ms0, x9⟩, ⟨cs0, x10⟩, x11, x12⟩
    · obtain ⟨csG, y1, y2, y3, y4⟩ := back csF x2.1
      obtain ⟨msG, z1, z2, z3, z4⟩ := backM msF x2.2
      refine ⟨-2, csG, msG, ?_, ?_, Rel_e R y2 z2 y3 z3⟩
      · intro post hp
        exact cls post (x8 _ (y1 _ (q_ansNone (by rw [y4.2.2.2.2.1]; exact x1) _ _ hp)))
      · intro post hp
        refine ref post (x9 _ _ _ (comfort_RR _ ht0 (by omega) _) ?_)
        exact comfort_rest (J := fun cs ms => coC c h t0 (nI g) csA cs ∧ coM c h msB ms) ht0 (by omega) x2 x3 x4 _ (z1 _ (m_wayNone _ _ _ hp)) (n - b) b (by omega) x6
    · obtain ⟨csG, y1, y2, y3, y4⟩ := back csF x9.1
      obtain ⟨msG, z1, z2, z3, z4⟩ := backM msF x10.2
      refine ⟨wayV L c' p3, csG, msG, ?_, ?_, Rel_e R y2 z2 y3 z3⟩
      · intro post hp
        exact cls post (x11 _ (y1 _ (q_answer x5 x6 (by rw [y4.2.2.2.2.1]; exact x7) (by rw [y4.2.2.2.2.2]; exact x8) p3 _ hp)))
      · intro post hp
        refine ref post (x12 _ _ _ (comfort_RR _ ht0 (by omega) _) (z1 _ (m_wayTo (by decide) (RepQ_s x2 z4) x1 p3 _ ?_)))
        rw [x3, x4]
        exact hp
  · refine ⟨-2, cs, ms, ?_, ?_, R⟩
    · intro post hp
      unfold wC_X11_comfort
      rw [q_isOutR R.1, p_b0]
      refine p_inv hp (fun c1 => ?_)
      rw [q_within, p_b0]
      exact p_inv hp (fun c2 => absurd ⟨c1, c2⟩ cc)
    · intro post hp
      unfold wM_comfort
      rw [m_isAtHouse hC, p_b0]
      refine p_inv hp (fun c1 => ?_)
      rw [m_isIn, p_b0]
      exact p_inv hp (fun c2 => absurd ⟨c1, c2⟩ cc)
