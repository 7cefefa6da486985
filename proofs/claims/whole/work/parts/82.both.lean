/-! PURE LAYER: both readers in step: a law -/
theorem law_both {S : CS} {M : MS} {n : Nat} {b : Nat → Nat} {t s0 : Nat} {tx0 : Nat → Int32} (H : HX S M n b t s0) {ct s e nc nr : Nat} {C : List (Nat × Nat)} {c : CS} {m : MS} (hT1 : TN n ct s e nc nr) (hc : CC S ct s e nc C 0 c) (hm : CM M b t tx0 ct s e nr C [] 0 0 m) (hlen : C.length ≤ s) : (∃ (ct' s' e' nc' nr' : Nat) (E : List (Nat × Nat)) (c' : CS) (m' : MS), e ≤ s' ∧ TN n ct' s' e' nc' nr' ∧ CC S ct' s' e' nc' (C ++ E) 0 c' ∧ CM M b t tx0 ct' s' e' nr' (C ++ E) [] 0 1 m' ∧ (C ++ E).length ≤ s' ∧ tyRun s0 E [] = some [true] ∧ rv (wC_X6_readSum c) c' ∧ ∀ post : Int32 → MS → Prop, post 0 m' → Lp post m) ∨ OutF S M t tx0 (wC_X6_readSum c) m := by
  have h300 := TN_300 H hT1
  rcases (rd_all H 64).2.2.1 0 ct s e nc nr C [] [] c m (by decide) (by decide) hT1 hc hm hlen (by decide) (by decide) trivial trivial (fun _ => rfl) with ⟨ct2, s2, e2, nc2, nr2, E2, D2, A2, c2, m3, b1, b2, b3, b4, b5, b6, b7, b8, ⟨b9, b10, b11, b12⟩, b13, b14⟩ | F
  · have h300' := TN_300 H b2
    have b6' : (C ++ E2).length ≤ s2 := b6
    have lenD : D2.length + A2.length = (C ++ E2).length := by
      rw [b5, List.length_append, show (opsL A2).length = A2.length from List.length_map _]
    rw [List.append_nil, b12] at b4
    have v1 : opV A2 = -1 := by
      have z := opV_skip A2 [] b8
      rw [List.append_nil] at z
      exact z
    have bt : btI ct2 A2 = -1 := by
      unfold btI
      rw [if_neg b9.1, if_neg b9.2.1, if_neg b9.2.2.1, if_neg b9.2.2.2, v1, if_neg (by decide)]
    have pt : ptI ct2 A2 = -1 := by
      unfold ptI
      rw [v1, if_neg (by decide), if_neg (by decide), if_neg (by decide), if_neg (by decide)]
    obtain ⟨m4, g1, g2⟩ := Lp_done H b4 (by omega) v1 (fun x hx => by have := b10 x hx; omega) (by omega) (by omega) (by decide) (bh_none b4 (by omega) bt pt)
    rw [← b5, b12] at g1
    exact Or.inl ⟨ct2, s2, e2, nc2, nr2, E2, c2, m4, b1, b2, b3, g1, b6', b7, b13, fun post hp => b14 post (g2 post hp)⟩
  · exact Or.inr F
