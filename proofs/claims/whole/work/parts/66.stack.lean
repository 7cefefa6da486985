/-! PURE LAYER: the laws' stacks -/
def bdV (x : Int32) : Prop := -1000000 ≤ x ∧ x ≤ 1000000
theorem bdV_int {x : Int32} (h : bdV x) : -1000000 ≤ x.toInt ∧ x.toInt ≤ 1000000 := ⟨Int32.le_iff_toInt_le.mp h.1, Int32.le_iff_toInt_le.mp h.2⟩
theorem L_lt (x y : Int32) : (Int32.toInt64 x < Int32.toInt64 y) = (x < y) := propext Int32.toInt64_lt
theorem L_eq (x y : Int32) : (Int32.toInt64 x = Int32.toInt64 y) = (x = y) := propext ⟨fun h => by
  have := congrArg Int64.toInt32 h
  rw [p_l1, p_l1] at this
  exact this, fun h => by rw [h]⟩
theorem L_0 : (0 : Int64) = Int32.toInt64 0 := by decide
theorem L_m : (1000000 : Int64) = Int32.toInt64 1000000 := by decide
theorem L_n : (-1000000 : Int64) = Int32.toInt64 (-1000000) := by decide
theorem L_add {x y : Int32} (hx : bdV x) (hy : bdV y) : Int32.toInt64 x + Int32.toInt64 y = Int32.toInt64 (x + y) := by
  have h1 := bdV_int hx
  have h2 := bdV_int hy
  apply Int64.toInt.inj
  rw [Int64.toInt_add, Int32.toInt_toInt64, Int32.toInt_toInt64, Int32.toInt_toInt64, Int32.toInt_add, Int.bmod_eq_of_le (by omega) (by omega), Int.bmod_eq_of_le (by omega) (by omega)]
theorem L_sub {x y : Int32} (hx : bdV x) (hy : bdV y) : Int32.toInt64 x - Int32.toInt64 y = Int32.toInt64 (x - y) := by
  have h1 := bdV_int hx
  have h2 := bdV_int hy
  apply Int64.toInt.inj
  rw [Int64.toInt_sub, Int32.toInt_toInt64, Int32.toInt_toInt64, Int32.toInt_toInt64, Int32.toInt_sub, Int.bmod_eq_of_le (by omega) (by omega), Int.bmod_eq_of_le (by omega) (by omega)]
theorem L_neg {x : Int32} (hx : bdV x) : -Int32.toInt64 x = Int32.toInt64 (-x) ∧ bdV (-x) := by
  have h1 := bdV_int hx
  have e : (-x).toInt = -x.toInt := by
    rw [Int32.toInt_neg, Int.bmod_eq_of_le (by omega) (by omega)]
  refine ⟨?_, ?_, ?_⟩
  · apply Int64.toInt.inj
    rw [Int64.toInt_neg, Int32.toInt_toInt64, Int32.toInt_toInt64, e, Int.bmod_eq_of_le (by omega) (by omega)]
  · apply Int32.le_iff_toInt_le.mpr
    rw [e]
    show (-1000000 : Int) ≤ _
    omega
  · apply Int32.le_iff_toInt_le.mpr
    rw [e]
    show _ ≤ (1000000 : Int)
    omega
theorem L_div {x y : Int32} (hx : bdV x) (hy : bdV y) : Int32.toInt64 x / Int32.toInt64 y = Int32.toInt64 (x / y) ∧ bdV (x / y) := by
  have h1 := bdV_int hx
  have n1 : x ≠ Int32.minValue := by
    intro h
    have := congrArg Int32.toInt h
    rw [Int32.toInt_minValue] at this
    omega
  have n2 : Int32.toInt64 x ≠ Int64.minValue := by
    intro h
    have := congrArg Int64.toInt h
    rw [Int32.toInt_toInt64] at this
    have e : Int64.minValue.toInt = -9223372036854775808 := rfl
    omega
  have e := Int32.toInt_div_of_ne_left x y n1
  have b := Int.natAbs_tdiv_le_natAbs x.toInt y.toInt
  refine ⟨?_, ?_, ?_⟩
  · apply Int64.toInt.inj
    rw [Int64.toInt_div_of_ne_left _ _ n2, Int32.toInt_toInt64, Int32.toInt_toInt64, Int32.toInt_toInt64, e]
  · apply Int32.le_iff_toInt_le.mpr
    rw [e]
    show (-1000000 : Int) ≤ _
    omega
  · apply Int32.le_iff_toInt_le.mpr
    rw [e]
    show _ ≤ (1000000 : Int)
    omega
/-- cut to a million -/
def cutV (e : Int64) : Int32 := if e ≤ 1000000 then (if -1000000 ≤ e then Int64.toInt32 e else -1000000) else 1000000
theorem cutV_64 (e : Int64) : Int32.toInt64 (cutV e) = (if e ≤ 1000000 then (if -1000000 ≤ e then e else -1000000) else 1000000) ∧ bdV (cutV e) := by
  unfold cutV
  by_cases h : e ≤ 1000000
  · rw [if_pos h, if_pos h]
    by_cases g : -1000000 ≤ e
    · rw [if_pos g, if_pos g]
      have h' : e.toInt ≤ 1000000 := Int64.le_iff_toInt_le.mp h
      have g' : -1000000 ≤ e.toInt := Int64.le_iff_toInt_le.mp g
      have q : e.toInt32.toInt = e.toInt := by
        rw [Int64.toInt_toInt32, Int.bmod_eq_of_le (by omega) (by omega)]
      refine ⟨?_, ?_, ?_⟩
      · apply Int64.toInt.inj
        rw [Int32.toInt_toInt64, q]
      · apply Int32.le_iff_toInt_le.mpr
        rw [q]
        exact g'
      · apply Int32.le_iff_toInt_le.mpr
        rw [q]
        exact h'
    · rw [if_neg g, if_neg g]
      exact ⟨L_n.symm, by decide, by decide⟩
  · rw [if_neg h, if_neg h]
    exact ⟨L_m.symm, by decide, by decide⟩
theorem q_cut (e : Int64) (S : CS) (post : Int32 → CS → Prop) : wC_X3_cut e S post = post (cutV e) S := by
  unfold wC_X3_cut cutV
  by_cases h : e ≤ 1000000
  · rw [p_T h, if_pos h]
    by_cases g : -1000000 ≤ e
    · rw [p_T g, if_pos g]
    · rw [p_F g, if_neg g]
  · rw [p_F h, if_neg h]
theorem m_clip (e : Int64) (S : MS) (post : Int64 → MS → Prop) : wM_clip e S post = post (Int32.toInt64 (cutV e)) S := by
  rw [(cutV_64 e).1]
  unfold wM_clip
  by_cases h : e ≤ 1000000
  · rw [p_T h, if_pos h]
    by_cases g : -1000000 ≤ e
    · rw [p_T g, if_pos g]
    · rw [p_F g, if_neg g]
  · rw [p_F h, if_neg h]
theorem cut_id {x : Int32} (h : bdV x) : cutV (Int32.toInt64 x) = x := by
  unfold cutV
  have h1 : Int32.toInt64 x ≤ 1000000 := by
    rw [L_m, p_l2]
    exact h.2
  have h2 : -1000000 ≤ Int32.toInt64 x := by
    rw [L_n, p_l2]
    exact h.1
  rw [if_pos h1, if_pos h2, p_l1]
def hldV (v l h : Int32) : Int32 := if l ≤ v then (if v ≤ h then v else h) else (if l ≤ h then l else h)
theorem q_held (v l h : Int32) (S : CS) (post : Int32 → CS → Prop) : wC_X11_held v l h S post = post (hldV v l h) S := by
  unfold wC_X11_held hldV
  by_cases a : l ≤ v
  · rw [p_T a, if_pos a]
    by_cases b : v ≤ h
    · rw [p_T b, if_pos b]
    · rw [p_F b, if_neg b]
  · rw [p_F a, if_neg a]
    by_cases b : l ≤ h
    · rw [p_T b, if_pos b]
    · rw [p_F b, if_neg b]
theorem m_heldIn (v l h : Int32) (S : MS) (post : Int64 → MS → Prop) : wM_heldIn (Int32.toInt64 v) (Int32.toInt64 l) (Int32.toInt64 h) S post = post (Int32.toInt64 (hldV v l h)) S := by
  unfold wM_heldIn hldV
  rw [p_l2, p_l2, p_l2]
  by_cases a : l ≤ v
  · rw [p_T a, if_pos a]
    by_cases b : v ≤ h
    · rw [p_T b, if_pos b]
    · rw [p_F b, if_neg b]
  · rw [p_F a, if_neg a]
    by_cases b : l ≤ h
    · rw [p_T b, if_pos b]
    · rw [p_F b, if_neg b]
theorem hldV_bd {v l h : Int32} (h1 : bdV v) (h2 : bdV l) (h3 : bdV h) : bdV (hldV v l h) := by
  unfold hldV
  (repeat' split) <;> assumption
/-! the stacks -/
def nv : List Bool → Nat
  | [] => 0
  | true :: T => nv T + 1
  | false :: T => nv T
def nt : List Bool → Nat
  | [] => 0
  | true :: T => nt T
  | false :: T => nt T + 1
theorem nv_nt : ∀ T : List Bool, nv T + nt T = T.length := by
  intro T
  induction T with
  | nil => rfl
  | cons b T ih =>
    cases b
    · show nv T + (nt T + 1) = T.length + 1
      omega
    · show nv T + 1 + nt T = T.length + 1
      omega
def SR (st : Nat → Int32) (vs : Nat → Int64) (ts : Nat → Int32) : List Bool → Prop
  | [] => True
  | true :: T => bdV (st T.length) ∧ vs (nv T) = Int32.toInt64 (st T.length) ∧ SR st vs ts T
  | false :: T => (st T.length = 0 ∨ st T.length = 1) ∧ ts (nt T) = st T.length ∧ SR st vs ts T
theorem SR_off {st st' : Nat → Int32} {vs vs' : Nat → Int64} {ts ts' : Nat → Int32} : ∀ T : List Bool, SR st vs ts T → (∀ j, j < T.length → st' j = st j) → (∀ j, j < nv T → vs' j = vs j) → (∀ j, j < nt T → ts' j = ts j) → SR st' vs' ts' T := by
  intro T
  induction T with
  | nil =>
    intro _ _ _ _
    trivial
  | cons b T ih =>
    intro R h1 h2 h3
    cases b
    · obtain ⟨r1, r2, r3⟩ := R
      have e1 : st' T.length = st T.length := h1 _ (Nat.lt_succ_self _)
      have e2 : ts' (nt T) = ts (nt T) := h3 _ (Nat.lt_succ_self _)
      refine ⟨?_, ?_, ih r3 (fun j hj => h1 j (Nat.lt_succ_of_lt hj)) h2 (fun j hj => h3 j (Nat.lt_succ_of_lt hj))⟩
      · rw [e1]
        exact r1
      · rw [e1, e2]
        exact r2
    · obtain ⟨r1, r2, r3⟩ := R
      have e1 : st' T.length = st T.length := h1 _ (Nat.lt_succ_self _)
      have e2 : vs' (nv T) = vs (nv T) := h2 _ (Nat.lt_succ_self _)
      refine ⟨?_, ?_, ih r3 (fun j hj => h1 j (Nat.lt_succ_of_lt hj)) (fun j hj => h2 j (Nat.lt_succ_of_lt hj)) h3⟩
      · rw [e1]
        exact r1
      · rw [e1, e2]
        exact r2
theorem uL_eq (f : Nat → Int64) (k : Nat) (v : Int64) : vp_updL f k v k = v := if_pos rfl
theorem uL_ne (f : Nat → Int64) {k j : Nat} (v : Int64) (h : j ≠ k) : vp_updL f k v j = f j := if_neg h
/-- a value laid on top -/
theorem SR_val {st : Nat → Int32} {vs : Nat → Int64} {ts : Nat → Int32} {T : List Bool} (R : SR st vs ts T) {x : Int32} (h : bdV x) : SR (upd st T.length x) (vp_updL vs (nv T) (Int32.toInt64 x)) ts (true :: T) := by
  refine ⟨?_, ?_, SR_off T R ?_ ?_ (fun _ _ => rfl)⟩
  · rw [upd_eq]
    exact h
  · rw [upd_eq, uL_eq]
  · intro j hj
    exact upd_ne _ _ (by omega)
  · intro j hj
    exact uL_ne _ _ (by omega)
theorem SR_tru {st : Nat → Int32} {vs : Nat → Int64} {ts : Nat → Int32} {T : List Bool} (R : SR st vs ts T) {x : Int32} (h : x = 0 ∨ x = 1) : SR (upd st T.length x) vs (upd ts (nt T) x) (false :: T) := by
  refine ⟨?_, ?_, SR_off T R ?_ (fun _ _ => rfl) ?_⟩
  · rw [upd_eq]
    exact h
  · rw [upd_eq, upd_eq]
  · intro j hj
    exact upd_ne _ _ (by omega)
  · intro j hj
    exact upd_ne _ _ (by omega)
def csS (S : CS) (st : Nat → Int32) (h : Int32) : CS := cx_set_l_height (cx_set_l_stack S st) h
def msS (S : MS) (vs : Nat → Int64) (ts : Nat → Int32) : MS := ms_set_truth (ms_set_values S vs) ts
theorem cs_px (S : CS) (st : Nat → Int32) (h : Int32) : cx_px (csS S st h) = cx_px S := by
  simp only [csS, cx_px, cx_set_l_height, cx_set_l_stack]
theorem cs_now (S : CS) (st : Nat → Int32) (h : Int32) : cx_c_now (csS S st h) = cx_c_now S := by
  simp only [csS, cx_c_now, cx_set_l_height, cx_set_l_stack]
theorem cs_named (S : CS) (st : Nat → Int32) (h : Int32) : cx_l_named (csS S st h) = cx_l_named S := by
  simp only [csS, cx_l_named, cx_set_l_height, cx_set_l_stack]
theorem cs_sC (S : CS) (st : Nat → Int32) (h : Int32) : sC S (csS S st h) := by
  refine ⟨?_, ?_, ?_, ?_, ?_⟩ <;> simp only [csS, cx_set_l_height, cx_set_l_stack]
theorem q_pop (S : CS) (st : Nat → Int32) {h : Nat} (hh : h < 64) (post : Int32 → CS → Prop) : wC_X3_pop (csS S st (nI (h + 1))) post = post (st h) (csS S st (nI h)) := by
  unfold wC_X3_pop
  have e1 : cx_l_height (csS S st (nI (h + 1))) = nI (h + 1) := by
    simp only [csS, cx_l_height, cx_set_l_height, cx_set_l_stack]
  have e2 : cx_set_l_height (csS S st (nI (h + 1))) (nI h) = csS S st (nI h) := by
    simp only [csS, cx_set_l_height, cx_set_l_stack]
  have e3 : cx_l_stack (csS S st (nI h)) = st := by
    simp only [csS, cx_l_stack, cx_set_l_height, cx_set_l_stack]
  have e4 : cx_l_height (csS S st (nI h)) = nI h := by
    simp only [csS, cx_l_height, cx_set_l_height, cx_set_l_stack]
  rw [p_all, e1, nI_pred, e2, e3, e4, p_at (by decide) _ hh]
theorem q_push (S : CS) (st : Nat → Int32) {h : Nat} (hh : h < 64) (v : Int32) (post : CS → Prop) : wC_X3_push v (csS S st (nI h)) post = post (csS S (upd st h v) (nI (h + 1))) := by
  unfold wC_X3_push
  have e1 : cx_l_height (csS S st (nI h)) = nI h := by
    simp only [csS, cx_l_height, cx_set_l_height, cx_set_l_stack]
  have e2 : cx_l_stack (csS S st (nI h)) = st := by
    simp only [csS, cx_l_stack, cx_set_l_height, cx_set_l_stack]
  have e3 : cx_set_l_stack (csS S st (nI h)) (upd st h v) = csS S (upd st h v) (nI h) := by
    simp only [csS, cx_set_l_height, cx_set_l_stack]
  have e4 : cx_l_height (csS S (upd st h v) (nI h)) = nI h := by
    simp only [csS, cx_l_height, cx_set_l_height, cx_set_l_stack]
  have e5 : cx_set_l_height (csS S (upd st h v) (nI h)) (nI (h + 1)) = csS S (upd st h v) (nI (h + 1)) := by
    simp only [csS, cx_set_l_height, cx_set_l_stack]
  rw [p_all, e1, e2, p_put (by decide) _ hh, e3, p_all, e4, nI_1, e5]
theorem ms_t1 (S : MS) (vs : Nat → Int64) (ts : Nat → Int32) : ms_texts (msS S vs ts) = ms_texts S := by
  simp only [msS, ms_texts, ms_set_truth, ms_set_values]
theorem ms_t2 (S : MS) (vs : Nat → Int64) (ts : Nat → Int32) : ms_values (msS S vs ts) = vs := by
  simp only [msS, ms_values, ms_set_truth, ms_set_values]
theorem ms_t3 (S : MS) (vs : Nat → Int64) (ts : Nat → Int32) : ms_truth (msS S vs ts) = ts := by
  simp only [msS, ms_truth, ms_set_truth, ms_set_values]
theorem ms_t4 (S : MS) (vs : Nat → Int64) (ts : Nat → Int32) : ms_named (msS S vs ts) = ms_named S := by
  simp only [msS, ms_named, ms_set_truth, ms_set_values]
theorem ms_t5 (S : MS) (vs : Nat → Int64) (ts : Nat → Int32) : ms_a (msS S vs ts) = ms_a S := by
  simp only [msS, ms_a, ms_set_truth, ms_set_values]
theorem ms_t6 (S : MS) (vs vs' : Nat → Int64) (ts : Nat → Int32) : ms_set_values (msS S vs ts) vs' = msS S vs' ts := by
  simp only [msS, ms_set_truth, ms_set_values]
theorem ms_t7 (S : MS) (vs : Nat → Int64) (ts ts' : Nat → Int32) : ms_set_truth (msS S vs ts) ts' = msS S vs ts' := by
  simp only [msS, ms_set_truth, ms_set_values]
theorem ms_sM (S : MS) (vs : Nat → Int64) (ts : Nat → Int32) : sM S (msS S vs ts) := by
  refine ⟨?_, ?_, ?_, ?_, ?_, ?_, ?_, ?_⟩ <;> simp only [msS, ms_a, ms_image, ms_texts, ms_tape, ms_taped, ms_fault, ms_faultPlace, ms_set_truth, ms_set_values]
theorem nI_m1 (n : Nat) : nI (n + 1) + (-1) = nI n := by
  rw [← Int32.sub_eq_add_neg]
  exact nI_pred n
theorem nI_m2 (n : Nat) : nI (n + 1 + 1) + (-2) = nI n := by
  rw [← Int32.sub_eq_add_neg]
  exact nI_sub (a := n + 1 + 1) (b := 2) (by omega)
/-- what one step of a law's code rests on -/
def SP (cs : CS) (ms : MS) (ad : Nat) (B : TB) (i stop X3 X4 k v : Nat) : Prop := (ad, B) ∈ cx_px cs ∧ B.2.2.2.1.1 < 2 ^ 31 ∧ k_at B.2.2.2.1.1 B.2.2.2.1.2 (nI i) = nI (opC k + 64 * v) ∧ i < stop ∧ stop < 2 ^ 31 ∧ X3 + 2 < 2820 ∧ X4 + 2 * i + 1 < 2820 ∧ ms_texts ms (X3 + 2) = nI stop ∧ ms_texts ms (X4 + 2 * i) = nI k ∧ ms_texts ms (X4 + 2 * i + 1) = nI v ∧ v ≤ 9999
def SQ (cs : CS) (ms : MS) (ad i stop X3 X4 : Nat) (st : Nat → Int32) (vs : Nat → Int64) (ts : Nat → Int32) (T T' : List Bool) : Prop := ∃ (st' : Nat → Int32) (vs' : Nat → Int64) (ts' : Nat → Int32), SR st' vs' ts' T' ∧ (∀ (post : Int32 → CS → Prop) (n : Nat), wC_X3_worked_18 post n (some ad) (nI stop) (nI (i + 1)) (csS cs st' (nI T'.length)) → wC_X3_worked_18 post (n + 1) (some ad) (nI stop) (nI i) (csS cs st (nI T.length))) ∧ (∀ (post : Int64 → MS → Prop) (n : Nat), wM_summedUp_38 post n (nI X3) (nI X4) (nI (nv T')) (nI (nt T')) (nI (i + 1)) (msS ms vs' ts') → wM_summedUp_38 post (n + 1) (nI X3) (nI X4) (nI (nv T)) (nI (nt T)) (nI i) (msS ms vs ts))
theorem wd_rem {o v : Nat} (ho : o < 64) (hv : v ≤ 9999) : k_rem (nI (o + 64 * v)) 64 = nI o ∧ nI (o + 64 * v) / 64 = nI v := by
  have h1 := p_rem (n := o + 64 * v) (d := 64) (by omega) (by decide)
  have h2 := p_div (n := o + 64 * v) (d := 64) (by omega) (by decide)
  rw [show (o + 64 * v) % 64 = o by omega] at h1
  rw [show (o + 64 * v) / 64 = v by omega] at h2
  exact ⟨h1, h2⟩
theorem nar0 : vp_nar .boolean 0 = 0 := rfl
theorem nar1 : vp_nar .boolean 1 = 1 := rfl
theorem narB {x : Int32} (h : x = 0 ∨ x = 1) : vp_nar .boolean x = x := by
  rcases h with h | h <;> subst h <;> rfl
