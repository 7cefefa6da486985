/-! PURE LAYER: the class's search -/
theorem lN_toB {n : Nat} (h : n < 2 ^ 63) : (lN n).toInt = (n : Int) := lg_ofNat_toInt h
theorem lN_divB {n d : Nat} (hn : n < 2 ^ 62) (hd : d < 2 ^ 62) : lN n / lN d = lN (n / d) := by
  have h1 : (lN n).toInt = n := lN_toB (by omega)
  have h2 : (lN d).toInt = d := lN_toB (by omega)
  apply Int64.toInt.inj
  have h3 : n / d < 2 ^ 62 := Nat.lt_of_le_of_lt (Nat.div_le_self n d) hn
  rw [lN_toB (by omega), Int64.toInt_div, h1, h2, Int.tdiv_eq_ediv_of_nonneg (by omega)]
  have e4 : (n : Int) / (d : Int) = ((n / d : Nat) : Int) := (Int.natCast_ediv n d).symm
  rw [e4]
  generalize n / d = q at h3
  rw [Int.bmod_eq_of_le (by omega) (by omega)]
theorem lN_remB {n d : Nat} (hn : n < 2 ^ 62) (hd : d < 2 ^ 62) : k_remL (lN n) (lN d) = lN (n % d) := by
  unfold k_remL
  rw [lN_divB hn hd, lN_mul]
  have h := Nat.div_add_mod n d
  have e : n = n % d + n / d * d := by rw [Nat.mul_comm]; omega
  have : lN n = lN (n % d) + lN (n / d * d) := by rw [lN_add, ← e]
  rw [this, Int64.add_sub_cancel]
/-- an entry of a layer -/
theorem en_state {c x : Nat} (hc : c < 2 ^ 50) (hx : x < 1024) : Int64.toInt32 (k_remL (lN (c * 1024 + x)) 1024) = nI x := by
  rw [show (1024 : Int64) = lN 1024 from rfl, lN_remB (by omega) (by decide), show (c * 1024 + x) % 1024 = x by omega, lN_i]
theorem en_code {c x f : Nat} (hc : c < 2 ^ 50) (hx : x < 1024) (hf : f < 5) : (lN (c * 1024 + x) / 1024) * 5 + Int32.toInt64 (nI f) = lN (5 * c + f) := by
  rw [show (1024 : Int64) = lN 1024 from rfl, lN_divB (by omega) (by decide), show (c * 1024 + x) / 1024 = c by omega, show (5 : Int64) = lN 5 from rfl, lN_mul, nI_l (by omega), lN_add, Nat.mul_comm]
theorem en_new (c : Nat) {x : Nat} (hx : x < 1024) : lN c * 1024 + Int32.toInt64 (nI x) = lN (c * 1024 + x) := by
  rw [show (1024 : Int64) = lN 1024 from rfl, lN_mul, nI_l (by omega), lN_add]
/-- the search's rows laid -/
def cQ (S : CS) (a b : Nat → Int64) (c : Nat → Int32) (d e : Int32) (f : Int64) : CS := cx_set_s_path (cx_set_s_length (cx_set_s_count (cx_set_s_seen (cx_set_s_nextLayer (cx_set_s_layer S a) b) c) d) e) f
theorem cQ_layer (S : CS) (a b : Nat → Int64) (c : Nat → Int32) (d e : Int32) (f : Int64) : cx_s_layer (cQ S a b c d e f) = a := by
  simp only [cx_s_layer, cQ, cx_set_s_layer, cx_set_s_nextLayer, cx_set_s_seen, cx_set_s_count, cx_set_s_length, cx_set_s_path]
theorem cQ_s_layer (S : CS) (a b : Nat → Int64) (c : Nat → Int32) (d e : Int32) (f : Int64) (z : Nat → Int64) : cx_set_s_layer (cQ S a b c d e f) z = cQ S z b c d e f := by
  simp only [cQ, cx_set_s_layer, cx_set_s_nextLayer, cx_set_s_seen, cx_set_s_count, cx_set_s_length, cx_set_s_path]
theorem cQ_0_layer (S : CS) (z : Nat → Int64) : cx_set_s_layer S z = cQ S z (cx_s_nextLayer S) (cx_s_seen S) (cx_s_count S) (cx_s_length S) (cx_s_path S) := by
  simp only [cx_s_layer, cx_s_nextLayer, cx_s_seen, cx_s_count, cx_s_length, cx_s_path, cQ, cx_set_s_layer, cx_set_s_nextLayer, cx_set_s_seen, cx_set_s_count, cx_set_s_length, cx_set_s_path]
theorem cQ_nextLayer (S : CS) (a b : Nat → Int64) (c : Nat → Int32) (d e : Int32) (f : Int64) : cx_s_nextLayer (cQ S a b c d e f) = b := by
  simp only [cx_s_nextLayer, cQ, cx_set_s_layer, cx_set_s_nextLayer, cx_set_s_seen, cx_set_s_count, cx_set_s_length, cx_set_s_path]
theorem cQ_s_nextLayer (S : CS) (a b : Nat → Int64) (c : Nat → Int32) (d e : Int32) (f : Int64) (z : Nat → Int64) : cx_set_s_nextLayer (cQ S a b c d e f) z = cQ S a z c d e f := by
  simp only [cQ, cx_set_s_layer, cx_set_s_nextLayer, cx_set_s_seen, cx_set_s_count, cx_set_s_length, cx_set_s_path]
theorem cQ_0_nextLayer (S : CS) (z : Nat → Int64) : cx_set_s_nextLayer S z = cQ S (cx_s_layer S) z (cx_s_seen S) (cx_s_count S) (cx_s_length S) (cx_s_path S) := by
  simp only [cx_s_layer, cx_s_nextLayer, cx_s_seen, cx_s_count, cx_s_length, cx_s_path, cQ, cx_set_s_layer, cx_set_s_nextLayer, cx_set_s_seen, cx_set_s_count, cx_set_s_length, cx_set_s_path]
theorem cQ_seen (S : CS) (a b : Nat → Int64) (c : Nat → Int32) (d e : Int32) (f : Int64) : cx_s_seen (cQ S a b c d e f) = c := by
  simp only [cx_s_seen, cQ, cx_set_s_layer, cx_set_s_nextLayer, cx_set_s_seen, cx_set_s_count, cx_set_s_length, cx_set_s_path]
theorem cQ_s_seen (S : CS) (a b : Nat → Int64) (c : Nat → Int32) (d e : Int32) (f : Int64) (z : Nat → Int32) : cx_set_s_seen (cQ S a b c d e f) z = cQ S a b z d e f := by
  simp only [cQ, cx_set_s_layer, cx_set_s_nextLayer, cx_set_s_seen, cx_set_s_count, cx_set_s_length, cx_set_s_path]
theorem cQ_0_seen (S : CS) (z : Nat → Int32) : cx_set_s_seen S z = cQ S (cx_s_layer S) (cx_s_nextLayer S) z (cx_s_count S) (cx_s_length S) (cx_s_path S) := by
  simp only [cx_s_layer, cx_s_nextLayer, cx_s_seen, cx_s_count, cx_s_length, cx_s_path, cQ, cx_set_s_layer, cx_set_s_nextLayer, cx_set_s_seen, cx_set_s_count, cx_set_s_length, cx_set_s_path]
theorem cQ_count (S : CS) (a b : Nat → Int64) (c : Nat → Int32) (d e : Int32) (f : Int64) : cx_s_count (cQ S a b c d e f) = d := by
  simp only [cx_s_count, cQ, cx_set_s_layer, cx_set_s_nextLayer, cx_set_s_seen, cx_set_s_count, cx_set_s_length, cx_set_s_path]
theorem cQ_s_count (S : CS) (a b : Nat → Int64) (c : Nat → Int32) (d e : Int32) (f : Int64) (z : Int32) : cx_set_s_count (cQ S a b c d e f) z = cQ S a b c z e f := by
  simp only [cQ, cx_set_s_layer, cx_set_s_nextLayer, cx_set_s_seen, cx_set_s_count, cx_set_s_length, cx_set_s_path]
theorem cQ_0_count (S : CS) (z : Int32) : cx_set_s_count S z = cQ S (cx_s_layer S) (cx_s_nextLayer S) (cx_s_seen S) z (cx_s_length S) (cx_s_path S) := by
  simp only [cx_s_layer, cx_s_nextLayer, cx_s_seen, cx_s_count, cx_s_length, cx_s_path, cQ, cx_set_s_layer, cx_set_s_nextLayer, cx_set_s_seen, cx_set_s_count, cx_set_s_length, cx_set_s_path]
theorem cQ_length (S : CS) (a b : Nat → Int64) (c : Nat → Int32) (d e : Int32) (f : Int64) : cx_s_length (cQ S a b c d e f) = e := by
  simp only [cx_s_length, cQ, cx_set_s_layer, cx_set_s_nextLayer, cx_set_s_seen, cx_set_s_count, cx_set_s_length, cx_set_s_path]
theorem cQ_s_length (S : CS) (a b : Nat → Int64) (c : Nat → Int32) (d e : Int32) (f : Int64) (z : Int32) : cx_set_s_length (cQ S a b c d e f) z = cQ S a b c d z f := by
  simp only [cQ, cx_set_s_layer, cx_set_s_nextLayer, cx_set_s_seen, cx_set_s_count, cx_set_s_length, cx_set_s_path]
theorem cQ_0_length (S : CS) (z : Int32) : cx_set_s_length S z = cQ S (cx_s_layer S) (cx_s_nextLayer S) (cx_s_seen S) (cx_s_count S) z (cx_s_path S) := by
  simp only [cx_s_layer, cx_s_nextLayer, cx_s_seen, cx_s_count, cx_s_length, cx_s_path, cQ, cx_set_s_layer, cx_set_s_nextLayer, cx_set_s_seen, cx_set_s_count, cx_set_s_length, cx_set_s_path]
theorem cQ_path (S : CS) (a b : Nat → Int64) (c : Nat → Int32) (d e : Int32) (f : Int64) : cx_s_path (cQ S a b c d e f) = f := by
  simp only [cx_s_path, cQ, cx_set_s_layer, cx_set_s_nextLayer, cx_set_s_seen, cx_set_s_count, cx_set_s_length, cx_set_s_path]
theorem cQ_s_path (S : CS) (a b : Nat → Int64) (c : Nat → Int32) (d e : Int32) (f : Int64) (z : Int64) : cx_set_s_path (cQ S a b c d e f) z = cQ S a b c d e z := by
  simp only [cQ, cx_set_s_layer, cx_set_s_nextLayer, cx_set_s_seen, cx_set_s_count, cx_set_s_length, cx_set_s_path]
theorem cQ_0_path (S : CS) (z : Int64) : cx_set_s_path S z = cQ S (cx_s_layer S) (cx_s_nextLayer S) (cx_s_seen S) (cx_s_count S) (cx_s_length S) z := by
  simp only [cx_s_layer, cx_s_nextLayer, cx_s_seen, cx_s_count, cx_s_length, cx_s_path, cQ, cx_set_s_layer, cx_set_s_nextLayer, cx_set_s_seen, cx_set_s_count, cx_set_s_length, cx_set_s_path]
theorem cQ_c_now (S : CS) (a b : Nat → Int64) (c : Nat → Int32) (d e : Int32) (f : Int64) : cx_c_now (cQ S a b c d e f) = cx_c_now S := by
  simp only [cx_c_now, cQ, cx_set_s_layer, cx_set_s_nextLayer, cx_set_s_seen, cx_set_s_count, cx_set_s_length, cx_set_s_path]
theorem cQ_m_toGladness (S : CS) (a b : Nat → Int64) (c : Nat → Int32) (d e : Int32) (f : Int64) : cx_m_toGladness (cQ S a b c d e f) = cx_m_toGladness S := by
  simp only [cx_m_toGladness, cQ, cx_set_s_layer, cx_set_s_nextLayer, cx_set_s_seen, cx_set_s_count, cx_set_s_length, cx_set_s_path]
theorem cQ_f_tired (S : CS) (a b : Nat → Int64) (c : Nat → Int32) (d e : Int32) (f : Int64) : cx_f_tired (cQ S a b c d e f) = cx_f_tired S := by
  simp only [cx_f_tired, cQ, cx_set_s_layer, cx_set_s_nextLayer, cx_set_s_seen, cx_set_s_count, cx_set_s_length, cx_set_s_path]
theorem cQ_f_clown (S : CS) (a b : Nat → Int64) (c : Nat → Int32) (d e : Int32) (f : Int64) : cx_f_clown (cQ S a b c d e f) = cx_f_clown S := by
  simp only [cx_f_clown, cQ, cx_set_s_layer, cx_set_s_nextLayer, cx_set_s_seen, cx_set_s_count, cx_set_s_length, cx_set_s_path]
theorem cQ_f_house (S : CS) (a b : Nat → Int64) (c : Nat → Int32) (d e : Int32) (f : Int64) : cx_f_house (cQ S a b c d e f) = cx_f_house S := by
  simp only [cx_f_house, cQ, cx_set_s_layer, cx_set_s_nextLayer, cx_set_s_seen, cx_set_s_count, cx_set_s_length, cx_set_s_path]
theorem cQ_f_enough (S : CS) (a b : Nat → Int64) (c : Nat → Int32) (d e : Int32) (f : Int64) : cx_f_enough (cQ S a b c d e f) = cx_f_enough S := by
  simp only [cx_f_enough, cQ, cx_set_s_layer, cx_set_s_nextLayer, cx_set_s_seen, cx_set_s_count, cx_set_s_length, cx_set_s_path]
theorem cQ_eC (S : CS) (a b : Nat → Int64) (c : Nat → Int32) (d e : Int32) (f : Int64) : eC S (cQ S a b c d e f) := by
  refine ⟨?_, ?_, ?_, ?_⟩ <;> simp only [cQ, cx_set_s_layer, cx_set_s_nextLayer, cx_set_s_seen, cx_set_s_count, cx_set_s_length, cx_set_s_path]
/-- all but the search's rows (and the laws' scratch) the same -/
def cF (S S' : CS) : Prop := eC S S' ∧ cx_c_now S' = cx_c_now S ∧ cx_m_toGladness S' = cx_m_toGladness S ∧ cx_f_tired S' = cx_f_tired S ∧ cx_f_clown S' = cx_f_clown S ∧ cx_f_house S' = cx_f_house S ∧ cx_f_enough S' = cx_f_enough S
theorem cF_refl (S : CS) : cF S S := ⟨⟨rfl, rfl, rfl, rfl⟩, rfl, rfl, rfl, rfl, rfl, rfl⟩
theorem cF_trans {S T U : CS} (h : cF S T) (g : cF T U) : cF S U := ⟨eC_trans h.1 g.1, g.2.1.trans h.2.1, g.2.2.1.trans h.2.2.1, g.2.2.2.1.trans h.2.2.2.1, g.2.2.2.2.1.trans h.2.2.2.2.1, g.2.2.2.2.2.1.trans h.2.2.2.2.2.1, g.2.2.2.2.2.2.trans h.2.2.2.2.2.2⟩
theorem cF_cQ (S : CS) (a b : Nat → Int64) (c : Nat → Int32) (d e : Int32) (f : Int64) : cF S (cQ S a b c d e f) := ⟨cQ_eC _ _ _ _ _ _ _, cQ_c_now _ _ _ _ _ _ _, cQ_m_toGladness _ _ _ _ _ _ _, cQ_f_tired _ _ _ _ _ _ _, cQ_f_clown _ _ _ _ _ _ _, cQ_f_house _ _ _ _ _ _ _, cQ_f_enough _ _ _ _ _ _ _⟩
/-- the search's rows the same -/
def sS (S S' : CS) : Prop := cx_s_layer S' = cx_s_layer S ∧ cx_s_nextLayer S' = cx_s_nextLayer S ∧ cx_s_seen S' = cx_s_seen S ∧ cx_s_count S' = cx_s_count S ∧ cx_s_length S' = cx_s_length S ∧ cx_s_path S' = cx_s_path S
theorem sS_refl (S : CS) : sS S S := ⟨rfl, rfl, rfl, rfl, rfl, rfl⟩
theorem sS_d {S T : CS} (h : dC S T) : sS S T := ⟨congrArg (fun z => z.2.1) h.2.2.2.2, congrArg (fun z => z.2.2.1) h.2.2.2.2, congrArg (fun z => z.2.2.2.1) h.2.2.2.2, congrArg (fun z => z.2.2.2.2.1) h.2.2.2.2, congrArg (fun z => z.2.2.2.2.2.1) h.2.2.2.2, congrArg (fun z => z.2.2.2.2.2.2.1) h.2.2.2.2⟩
/-! what is seen -/
def snB (seen : Nat → Int32) (x : Nat) : Prop := ((k_at 32 seen (nI x / 32)) &&& (k_shl 1 (k_rem (nI x) 32))) = 0
theorem i_or_and (x y z : Int32) : (x ||| y) &&& z = (x &&& z) ||| (y &&& z) := by
  apply Int32.toBitVec.inj
  show (x.toBitVec ||| y.toBitVec) &&& z.toBitVec = (x.toBitVec &&& z.toBitVec) ||| (y.toBitVec &&& z.toBitVec)
  generalize x.toBitVec = a
  generalize y.toBitVec = b
  generalize z.toBitVec = c
  apply BitVec.eq_of_getLsbD_eq
  intro i hi
  simp only [BitVec.getLsbD_and, BitVec.getLsbD_or]
  cases a.getLsbD i <;> cases b.getLsbD i <;> cases c.getLsbD i <;> rfl
theorem i_or_0 (x y : Int32) : (x ||| y = 0) ↔ (x = 0 ∧ y = 0) := by
  constructor
  · intro h
    have hb : x.toBitVec ||| y.toBitVec = 0#32 := congrArg Int32.toBitVec h
    have key : ∀ a b : BitVec 32, a ||| b = 0#32 → a = 0#32 := by
      intro a b e
      apply BitVec.eq_of_getLsbD_eq
      intro i hi
      have := congrArg (fun v : BitVec 32 => v.getLsbD i) e
      simp only [BitVec.getLsbD_or, BitVec.getLsbD_zero] at this
      rw [BitVec.getLsbD_zero]
      cases h1 : a.getLsbD i
      · rfl
      · rw [h1] at this
        simp at this
    refine ⟨Int32.toBitVec.inj (key _ _ hb), Int32.toBitVec.inj (key _ x.toBitVec ?_)⟩
    rw [BitVec.or_comm]
    exact hb
  · rintro ⟨rfl, rfl⟩
    rfl
theorem bit_tab : ∀ b, b < 32 → ∀ c, c < 32 → ((k_shl 1 (nI b)) &&& (k_shl 1 (nI c)) = 0 ↔ b ≠ c) := by decide +kernel
theorem sn_eq (seen : Nat → Int32) {x : Nat} (hx : x < 1024) : snB seen x = ((seen (x / 32)) &&& (k_shl 1 (nI (x % 32))) = 0) := by
  unfold snB
  rw [show nI x / 32 = nI (x / 32) from p_div (d := 32) (by omega) (by decide), show k_rem (nI x) 32 = nI (x % 32) from p_rem (d := 32) (by omega) (by decide), p_at (by decide) _ (by omega)]
theorem sn_put (seen : Nat → Int32) {x y : Nat} (hx : x < 1024) (hy : y < 1024) : snB (k_put 32 seen (nI x / 32) ((k_at 32 seen (nI x / 32)) ||| (k_shl 1 (k_rem (nI x) 32)))) y ↔ (y ≠ x ∧ snB seen y) := by
  rw [sn_eq _ hy, sn_eq _ hy, show nI x / 32 = nI (x / 32) from p_div (d := 32) (by omega) (by decide), show k_rem (nI x) 32 = nI (x % 32) from p_rem (d := 32) (by omega) (by decide), p_at (by decide) _ (by omega), p_put (by decide) _ (by omega)]
  by_cases e : y / 32 = x / 32
  · rw [e, upd_eq, i_or_and, i_or_0, bit_tab (x % 32) (by omega) (y % 32) (by omega)]
    constructor
    · rintro ⟨h1, h2⟩
      exact ⟨fun z => h2 (by rw [z]), h1⟩
    · rintro ⟨h1, h2⟩
      refine ⟨h2, fun z => h1 ?_⟩
      omega
  · rw [upd_ne _ _ e]
    constructor
    · intro h
      exact ⟨fun z => e (by rw [z]), h⟩
    · intro h
      exact h.2
theorem sn_clear (seen : Nat → Int32) {x : Nat} (hx : x < 1024) : snB (k_fill 32 seen 0) x := by
  rw [sn_eq _ hx]
  unfold k_fill
  rw [if_pos (by omega)]
  exact Int32.zero_and
/-! adding, answering -/
theorem q_addOld {S : CS} {x : Nat} (hx : x < 1024) (p : Int64) (h : ¬ snB (cx_s_seen S) x) (post : CS → Prop) (hp : post S) : wC_X7_add p (nI x) S post := by
  unfold wC_X7_add
  exact p_no (nI_pos (by omega)) (p_no h hp)
theorem q_addNew {S : CS} {x m : Nat} (hx : x < 1024) (p : Int64) (h : snB (cx_s_seen S) x) (hm : m < 1024) (ec : cx_s_count S = nI m) (post : CS → Prop) (hp : post (cQ S (cx_s_layer S) (vp_updL (cx_s_nextLayer S) m (p * 1024 + Int32.toInt64 (nI x))) (k_put 32 (cx_s_seen S) (nI x / 32) ((k_at 32 (cx_s_seen S) (nI x / 32)) ||| (k_shl 1 (k_rem (nI x) 32)))) (nI (m + 1)) (cx_s_length S) (cx_s_path S))) : wC_X7_add p (nI x) S post := by
  unfold wC_X7_add
  refine p_no (nI_pos (by omega)) (p_yes h ?_)
  simp only [p_all]
  rw [cQ_0_seen, cQ_count, cQ_nextLayer, cQ_s_nextLayer, cQ_count, cQ_s_count, ec, nI_clamp (by omega), nI_1]
  exact p_no (nI_pos (by omega)) (p_no (nI_ge (b := 1024) hm (by decide)) ⟨vp_in_nI hm (by decide), hp⟩)
theorem q_ans47 {i : Nat} (S : CS) (post : Int32 → CS → Prop) : ∀ (m c : Nat), c < 2 ^ 50 → i + m < 2 ^ 30 → post (nI (c / 5 ^ m % 5)) S → wC_X7_answer_47 post (m + 1) (nI i) (lN c) (nI (i + m)) S := by
  intro m
  induction m with
  | zero =>
    intro c hc hi hp
    rw [Nat.pow_zero, Nat.div_one] at hp
    rw [wC_X7_answer_47, show (5 : Int64) = lN 5 from rfl, lN_remB (by omega) (by decide), lN_i]
    exact p_yes (Int32.le_refl _) hp
  | succ m ih =>
    intro c hc hi hp
    have e5 : (5 : Nat) ^ (m + 1) = 5 * 5 ^ m := by
      rw [Nat.pow_succ, Nat.mul_comm]
    rw [e5, ← Nat.div_div_eq_div_mul] at hp
    rw [wC_X7_answer_47, show (5 : Int64) = lN 5 from rfl, lN_divB (by omega) (by decide), show i + (m + 1) = (i + m) + 1 by omega, nI_m1]
    refine p_no (nI_ge (by omega) (by omega)) (ih (c / 5) ?_ (by omega) hp)
    exact Nat.lt_of_le_of_lt (Nat.div_le_self c 5) hc
theorem q_answer {S : CS} {d c : Nat} (hd : d ≤ 20) (hc : c < 2 ^ 50) (e1 : cx_s_length S = nI d) (e2 : cx_s_path S = lN c) (p : Int32) (post : Int32 → CS → Prop) (hp : post (wayV d c p) S) : wC_X7_answer p S post := by
  unfold wC_X7_answer
  rw [e1, e2]
  unfold wayV at hp
  refine p_no (nI_nm1 (by omega)) ?_
  by_cases c1 : p < -1
  · rw [if_neg (fun z => Int32.not_le.mpr c1 z.1)] at hp
    exact p_yes c1 hp
  · refine p_no c1 ?_
    by_cases c2 : p < nI d
    · rw [if_pos ⟨Int32.not_lt.mp c1, c2⟩] at hp
      refine p_yes c2 (p_two (fun e => ?_) (fun e => ?_))
      · rw [if_pos e] at hp
        exact hp
      · rw [if_neg e] at hp
        have p0 : 0 ≤ p := by
          have := Int32.not_lt.mp c1
          grind
        obtain ⟨i, hi, rfl⟩ := p_rng (n := d) (by omega) p0 c2
        rw [nI_clamp (by omega)] at hp
        refine ⟨d - 1 - i + 1, ?_⟩
        rw [show nI d - 1 = nI (i + (d - 1 - i)) from by rw [show i + (d - 1 - i) = d - 1 by omega]; exact nI_sub (b := 1) (by omega)]
        exact q_ans47 S post (d - 1 - i) c hc (by omega) hp
    · rw [if_neg (fun z => c2 z.2)] at hp
      exact p_no c2 hp
theorem q_ansNone {S : CS} (e1 : cx_s_length S = -1) (p : Int32) (post : Int32 → CS → Prop) (hp : post (-2) S) : wC_X7_answer p S post := by
  unfold wC_X7_answer
  exact p_yes e1 hp
/-! the search of either walk -/
def gF78 (mv : Int32 → Int32 → Int32 → CS → (Int32 → CS → Prop) → Prop) (ar : Int32 → CS → (Int32 → CS → Prop) → Prop) (post : CS → Prop) (K36 : Int32 → Int32 → Int32 → CS → Prop) : Nat → Int32 → Int32 → Int32 → Int32 → CS → Prop
  | 0, _, _, _, _, _ => False
  | n + 1, x3, x4, x5, x6, S => (((x4 * 5) ≤ x6 → wC_X7_find_mood_200 post K36 x3 x5 S) ∧ (¬ ((x4 * 5) ≤ x6) → ((1024 ≤ (x6 / 5) → wC_X7_find_mood_200 post K36 x3 x5 S) ∧ (¬ (1024 ≤ (x6 / 5)) → (((cx_s_length S) = (-1) → (vp_in (x6 / 5) 1024 ∧ mv (Int64.toInt32 (k_remL ((cx_s_layer S) (x6 / 5).toNatClampNeg) 1024)) (k_rem x6 5) x5 S (fun r_4 S_5 => wC_X7_add (((((cx_s_layer S) (x6 / 5).toNatClampNeg) / 1024) * 5) + (Int32.toInt64 (k_rem x6 5))) r_4 S_5 (fun S_7 => ar r_4 S_7 (fun r_8 S_9 => ((r_8 = 0 → gF78 mv ar post K36 n x3 x4 x5 (x6 + 1) S_9) ∧ (¬ (r_8 = 0) → (∀ S_11 : CS, S_11 = (cx_set_s_length S_9 (x5 + 1)) → (∀ S_12 : CS, S_12 = (cx_set_s_path S_11 (((((cx_s_layer S) (x6 / 5).toNatClampNeg) / 1024) * 5) + (Int32.toInt64 (k_rem x6 5)))) → gF78 mv ar post K36 n x3 x4 x5 (x6 + 1) S_12))))))))) ∧ (¬ ((cx_s_length S) = (-1)) → wC_X7_find_mood_200 post K36 x3 x5 S))))))
def gF36 (mv : Int32 → Int32 → Int32 → CS → (Int32 → CS → Prop) → Prop) (ar : Int32 → CS → (Int32 → CS → Prop) → Prop) (cg : Int32) (post : CS → Prop) : Nat → Int32 → Int32 → Int32 → CS → Prop
  | 0, _, _, _, _ => False
  | n + 1, x3, x4, x5, S => ((x3 ≤ x5 → post S) ∧ (¬ (x3 ≤ x5) → (((cx_s_length S) = (-1) → (∀ S_3 : CS, S_3 = (cx_set_s_count S 0) → ((x5 = 0 → (∀ S_5 : CS, S_5 = (cx_set_s_seen S_3 (k_fill 32 (cx_s_seen S_3) 0)) → ∃ k_ : Nat, gF78 mv ar post (gF36 mv ar cg post n) k_ x3 x4 x5 0 S_5)) ∧ (¬ (x5 = 0) → ((cg = 0 → ∃ k_ : Nat, gF78 mv ar post (gF36 mv ar cg post n) k_ x3 x4 x5 0 S_3) ∧ (¬ (cg = 0) → (∀ S_9 : CS, S_9 = (cx_set_s_seen S_3 (k_fill 32 (cx_s_seen S_3) 0)) → ∃ k_ : Nat, gF78 mv ar post (gF36 mv ar cg post n) k_ x3 x4 x5 0 S_9))))))) ∧ (¬ ((cx_s_length S) = (-1)) → post S))))
theorem g200 (post : CS → Prop) (K : Int32 → Int32 → Int32 → CS → Prop) (x3 x5 : Int32) (S : CS) : wC_X7_find_comfort_200 post K x3 x5 S = wC_X7_find_mood_200 post K x3 x5 S := rfl
theorem g78_mood (post : CS → Prop) (K : Int32 → Int32 → Int32 → CS → Prop) : ∀ n x3 x4 x5 x6 S, wC_X7_find_mood_78 post K n x3 x4 x5 x6 S = gF78 wC_X5_moved wC_X5_arrived post K n x3 x4 x5 x6 S := by
  intro n
  induction n with
  | zero => intro _ _ _ _ _; rfl
  | succ n ih =>
    intro x3 x4 x5 x6 S
    rw [wC_X7_find_mood_78, gF78]
    simp only [ih]
theorem g36_mood (post : CS → Prop) : ∀ n x3 x4 x5 S, wC_X7_find_mood_36 post n x3 x4 x5 S = gF36 wC_X5_moved wC_X5_arrived 0 post n x3 x4 x5 S := by
  intro n
  induction n with
  | zero => intro _ _ _ _; rfl
  | succ n ih =>
    intro x3 x4 x5 S
    have eK : wC_X7_find_mood_36 post n = gF36 wC_X5_moved wC_X5_arrived 0 post n := by
      funext a b c d
      exact ih a b c d
    rw [wC_X7_find_mood_36, gF36]
    simp only [g78_mood, eK, wC_X5_changes]
theorem g78_comfort (post : CS → Prop) (K : Int32 → Int32 → Int32 → CS → Prop) : ∀ n x3 x4 x5 x6 S, wC_X7_find_comfort_78 post K n x3 x4 x5 x6 S = gF78 wC_X1_moved wC_X1_arrived post K n x3 x4 x5 x6 S := by
  intro n
  induction n with
  | zero => intro _ _ _ _ _; rfl
  | succ n ih =>
    intro x3 x4 x5 x6 S
    rw [wC_X7_find_comfort_78, gF78]
    simp only [ih, g200]
theorem g36_comfort (post : CS → Prop) : ∀ n x3 x4 x5 S, wC_X7_find_comfort_36 post n x3 x4 x5 S = gF36 wC_X1_moved wC_X1_arrived 1 post n x3 x4 x5 S := by
  intro n
  induction n with
  | zero => intro _ _ _ _; rfl
  | succ n ih =>
    intro x3 x4 x5 S
    have eK : wC_X7_find_comfort_36 post n = gF36 wC_X1_moved wC_X1_arrived 1 post n := by
      funext a b c d
      exact ih a b c d
    rw [wC_X7_find_comfort_36, gF36]
    simp only [g78_comfort, eK, wC_X1_changes]
