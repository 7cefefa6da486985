/-! PURE LAYER: reading, the class's small steps -/
def CodeC (C : List (Nat × Nat)) (cd : Nat → Int32) : Prop := ∀ j q, C[j]? = some q → cd j = nI (opC q.1 + 64 * q.2)
theorem CodeC_add {C : List (Nat × Nat)} {cd : Nat → Int32} (h : CodeC C cd) (k v : Nat) : CodeC (C ++ [(k, v)]) (upd cd C.length (nI (opC k + 64 * v))) := by
  intro j q e
  by_cases lt : j < C.length
  · rw [List.getElem?_append_left lt] at e
    rw [upd_ne _ _ (by omega)]
    exact h j q e
  · rw [List.getElem?_append_right (by omega)] at e
    have ej : j - C.length = 0 := by
      by_cases z : j - C.length = 0
      · exact z
      · rw [List.getElem?_eq_none (by simp; omega)] at e
        cases e
    rw [ej] at e
    have e1 : (k, v) = q := Option.some.inj e
    rw [← e1, show j = C.length by omega, upd_eq]
/-- the class as it reads: the token, its place, the code so far, how many are open -/
def CC (S : CS) (ct s e nc : Nat) (C : List (Nat × Nat)) (op : Nat) (c : CS) : Prop := ∃ (nu : Int32) (cd : Nat → Int32), c = cA S (nI ct) (nI s) (nI e) nu cd (nI C.length) (nI op) 0 ∧ (ct = 32 → nu = nI nc) ∧ CodeC C cd
/-- .. with a fault -/
def FCs (S : CS) (f s : Nat) (c : CS) : Prop := ∃ (pl nu : Int32) (cd : Nat → Int32) (cl op : Int32), c = cA S 30 (nI s) pl nu cd cl op (nI f)
theorem CC_token {S : CS} {ct s e nc : Nat} {C : List (Nat × Nat)} {op : Nat} {c : CS} (h : CC S ct s e nc C op c) : cx_r_token c = nI ct ∧ cx_r_open c = nI op ∧ cx_r_law c = cx_r_law S ∧ cx_r_fault c = 0 ∧ cx_r_codeLength c = nI C.length ∧ (ct = 32 → cx_r_number c = nI nc) := by
  obtain ⟨nu, cd, e1, e2, e3⟩ := h
  rw [e1, cA_token, cA_open, cA_law, cA_fault, cA_codeLength, cA_number]
  exact ⟨rfl, rfl, rfl, rfl, rfl, e2⟩
theorem CC_emit {S : CS} {ct s e nc : Nat} {C : List (Nat × Nat)} {op : Nat} {c : CS} (h : CC S ct s e nc C op c) (hC : C.length < 300) (k v : Nat) : ∃ c', CC S ct s e nc (C ++ [(k, v)]) op c' ∧ rv (wC_X6_emit (nI (opC k)) (nI v) c) c' := by
  obtain ⟨nu, cd, e1, e2, e3⟩ := h
  refine ⟨cA S (nI ct) (nI s) (nI e) nu (upd cd C.length (nI (opC k + 64 * v))) (nI (C ++ [(k, v)]).length) (nI op) 0, ⟨nu, _, rfl, e2, CodeC_add e3 k v⟩, ?_⟩
  intro post hp
  rw [List.length_append] at hp
  unfold wC_X6_emit
  rw [p_all, p_all, e1, cA_code, cA_codeLength, cA_s_code, cA_codeLength, cA_s_codeLength, nI_1, nI_ml 64 v, nI_add, p_put (by decide) _ hC, Nat.mul_comm v 64]
  exact hp
theorem CC_open {S : CS} {ct s e nc : Nat} {C : List (Nat × Nat)} {op : Nat} {c : CS} (h : CC S ct s e nc C op c) (q : Nat) : CC S ct s e nc C q (cx_set_r_open c (nI q)) := by
  obtain ⟨nu, cd, e1, e2, e3⟩ := h
  rw [e1, cA_s_open]
  exact ⟨nu, cd, rfl, e2, e3⟩
theorem CC_fail {S : CS} {ct s e nc : Nat} {C : List (Nat × Nat)} {op : Nat} {c : CS} (h : CC S ct s e nc C op c) (f : Nat) : ∃ c', FCs S f s c' ∧ rv (wC_X6_fail (nI f) c) c' := by
  obtain ⟨nu, cd, e1, e2, e3⟩ := h
  refine ⟨cA S 30 (nI s) (nI e) nu cd (nI C.length) (nI op) (nI f), ⟨_, _, _, _, _, rfl⟩, ?_⟩
  intro post hp
  unfold wC_X6_fail
  rw [p_all, p_all, e1, cA_fault, cA_s_fault, cA_s_token]
  exact p_yes rfl hp
/-! behind a fault all reading ends -/
theorem fc_tok {S : CS} {f s : Nat} {c : CS} (h : FCs S f s c) : cx_r_token c = 30 ∧ cx_r_fault c = nI f := by
  obtain ⟨pl, nu, cd, cl, op, e⟩ := h
  rw [e, cA_token, cA_fault]
  exact ⟨rfl, rfl⟩
theorem fc_adv {S : CS} {f s : Nat} (hf : 0 < f ∧ f < 9) {c : CS} (h : FCs S f s c) : rv (wC_X6_advance c) c := by
  intro post hp
  unfold wC_X6_advance
  rw [(fc_tok h).2]
  exact p_no (nI_ne0 hf.1 (by omega)) hp
theorem fc_fail {S : CS} {f s : Nat} (hf : 0 < f ∧ f < 9) {c : CS} (h : FCs S f s c) (x : Int32) : rv (wC_X6_fail x c) c := by
  intro post hp
  obtain ⟨pl, nu, cd, cl, op, e⟩ := h
  rw [e] at hp ⊢
  unfold wC_X6_fail
  rw [p_all, p_all, p_all, cA_fault, cA_s_token]
  exact p_no (nI_ne0 hf.1 (by omega)) hp
theorem fc_emit {S : CS} {f s : Nat} {c : CS} (h : FCs S f s c) (x y : Int32) : ∃ c', FCs S f s c' ∧ rv (wC_X6_emit x y c) c' := by
  obtain ⟨pl, nu, cd, cl, op, e⟩ := h
  refine ⟨cA S 30 (nI s) pl nu (k_put 300 cd cl (x + y * 64)) (cl + 1) op (nI f), ⟨_, _, _, _, _, rfl⟩, ?_⟩
  intro post hp
  unfold wC_X6_emit
  rw [p_all, p_all, e, cA_code, cA_codeLength, cA_s_code, cA_codeLength, cA_s_codeLength]
  exact hp
theorem fc_expect {S : CS} {f s : Nat} (hf : 0 < f ∧ f < 9) {c : CS} (h : FCs S f s c) {k : Int32} (hk : ¬ (30 : Int32) = k) : rv (wC_X6_expect k c) c := by
  intro post hp
  unfold wC_X6_expect
  rw [(fc_tok h).1]
  exact p_no hk (fc_fail hf h 1 post hp)
theorem fc_open {S : CS} {f s : Nat} {c : CS} (h : FCs S f s c) (v : Int32) : FCs S f s (cx_set_r_open c v) := by
  obtain ⟨pl, nu, cd, cl, op, e⟩ := h
  rw [e, cA_s_open]
  exact ⟨_, _, _, _, _, rfl⟩
theorem fc_one {S : CS} {f s : Nat} (hf : 0 < f ∧ f < 9) {c : CS} (h : FCs S f s c) {d : Nat} (hd : 1 ≤ d) : rv (wC_rd d 2 c) c := by
  obtain ⟨d', rfl⟩ : ∃ d', d = d' + 1 := ⟨d - 1, by omega⟩
  intro post hp
  show wB_X6_readOne (wC_rd d') c post
  unfold wB_X6_readOne
  rw [(fc_tok h).1]
  refine ⟨fun z => absurd z (by decide), fun z => absurd z (by decide), fun z => absurd z (by decide), fun z => absurd z (by decide), fun z => absurd z (by decide), fun z => absurd z (by decide), fun _ _ _ _ _ _ => ?_⟩
  unfold wC_X6_readName
  rw [(fc_tok h).1]
  exact p_no (by decide) (fc_fail hf h 1 post hp)
theorem fc_product {S : CS} {f s : Nat} (hf : 0 < f ∧ f < 9) {c : CS} (h : FCs S f s c) {d : Nat} (hd : 2 ≤ d) : rv (wC_rd d 1 c) c := by
  obtain ⟨d', rfl⟩ : ∃ d', d = d' + 1 := ⟨d - 1, by omega⟩
  intro post hp
  show wB_X6_readProduct (wC_rd d') c post
  unfold wB_X6_readProduct
  refine fc_one hf h (by omega) _ ⟨1, ?_⟩
  rw [wC_X6_readProduct_6, (fc_tok h).1]
  exact p_no (by decide) (p_no (by decide) (p_no (by decide) hp))
theorem fc_sum {S : CS} {f s : Nat} (hf : 0 < f ∧ f < 9) {c : CS} (h : FCs S f s c) {d : Nat} (hd : 3 ≤ d) : rv (wC_rd d 0 c) c := by
  obtain ⟨d', rfl⟩ : ∃ d', d = d' + 1 := ⟨d - 1, by omega⟩
  intro post hp
  show wB_X6_readSum (wC_rd d') c post
  unfold wB_X6_readSum
  refine fc_product hf h (by omega) _ ⟨1, ?_⟩
  rw [wC_X6_readSum_6, (fc_tok h).1]
  exact p_no (by decide) (p_no (by decide) (p_no (by decide) hp))
theorem fc_ask {S : CS} {f s : Nat} (hf : 0 < f ∧ f < 9) {c : CS} (h : FCs S f s c) {d : Nat} (hd : 4 ≤ d) : rv (wC_rd d 6 c) c := by
  obtain ⟨d', rfl⟩ : ∃ d', d = d' + 1 := ⟨d - 1, by omega⟩
  intro post hp
  show wB_X6_readAsk (wC_rd d') c post
  unfold wB_X6_readAsk
  rw [(fc_tok h).1]
  refine p_no (by decide) (fc_sum hf h (by omega) _ ?_)
  rw [(fc_tok h).1]
  exact p_yes (by decide) (fc_fail hf h 1 post hp)
theorem fc_both {S : CS} {f s : Nat} (hf : 0 < f ∧ f < 9) {c : CS} (h : FCs S f s c) {d : Nat} (hd : 5 ≤ d) : rv (wC_rd d 5 c) c := by
  obtain ⟨d', rfl⟩ : ∃ d', d = d' + 1 := ⟨d - 1, by omega⟩
  intro post hp
  show wB_X6_readBoth (wC_rd d') c post
  unfold wB_X6_readBoth
  refine fc_ask hf h (by omega) _ ⟨1, ?_⟩
  rw [wC_X6_readBoth_6, (fc_tok h).1]
  exact p_no (by decide) (p_no (by decide) hp)
theorem fc_either {S : CS} {f s : Nat} (hf : 0 < f ∧ f < 9) {c : CS} (h : FCs S f s c) {d : Nat} (hd : 6 ≤ d) : rv (wC_rd d 4 c) c := by
  obtain ⟨d', rfl⟩ : ∃ d', d = d' + 1 := ⟨d - 1, by omega⟩
  intro post hp
  show wB_X6_readEither (wC_rd d') c post
  unfold wB_X6_readEither
  refine fc_both hf h (by omega) _ ⟨1, ?_⟩
  rw [wC_X6_readEither_6, (fc_tok h).1]
  exact p_no (by decide) (p_no (by decide) hp)
/-- a loop's end behind a fault -/
theorem fc_sum6 {S : CS} {f s : Nat} {c : CS} (h : FCs S f s c) (Rc : Nat → CS → (CS → Prop) → Prop) (x : Int32) (post : CS → Prop) (hp : post c) : wC_X6_readSum_6 Rc post 1 x c := by
  rw [wC_X6_readSum_6, (fc_tok h).1]
  exact p_two (fun _ => hp) (fun _ => p_no (by decide) (p_no (by decide) hp))
theorem fc_product6 {S : CS} {f s : Nat} {c : CS} (h : FCs S f s c) (Rc : Nat → CS → (CS → Prop) → Prop) (x : Int32) (post : CS → Prop) (hp : post c) : wC_X6_readProduct_6 Rc post 1 x c := by
  rw [wC_X6_readProduct_6, (fc_tok h).1]
  exact p_two (fun _ => hp) (fun _ => p_no (by decide) (p_no (by decide) hp))
theorem fc_both6 {S : CS} {f s : Nat} {c : CS} (h : FCs S f s c) (Rc : Nat → CS → (CS → Prop) → Prop) (x : Int32) (post : CS → Prop) (hp : post c) : wC_X6_readBoth_6 Rc post 1 x c := by
  rw [wC_X6_readBoth_6, (fc_tok h).1]
  exact p_two (fun _ => hp) (fun _ => p_no (by decide) hp)
theorem fc_either6 {S : CS} {f s : Nat} {c : CS} (h : FCs S f s c) (Rc : Nat → CS → (CS → Prop) → Prop) (x : Int32) (post : CS → Prop) (hp : post c) : wC_X6_readEither_6 Rc post 1 x c := by
  rw [wC_X6_readEither_6, (fc_tok h).1]
  exact p_two (fun _ => hp) (fun _ => p_no (by decide) hp)
