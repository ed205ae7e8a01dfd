-- the class's world when a text is kept
theorem stx_n2 {S : Nat → Nat} {tx ln b : Nat} (h : b ≠ tx) (h1 : b ≠ tx + 1) : stx S tx ln b = S b := by
  unfold stx
  rw [if_neg h, if_neg h1]
theorem shN_l {S T : Nat → Nat} {b : Nat} : (shN S b).2.2 = (shN T b).2.2 := by
  unfold shN
  split
  · rfl
  · split
    · rfl
    · split
      · rfl
      · split
        · rfl
        · split <;> rfl
theorem CI_txt {K : List Nat} {S : Nat → Nat} {O O1 : MemO} {z t ln : Nat} (h : CI K S O z t) (hO : ∀ j i a, O1 j i = some a → a ∈ K ∨ a = 2000 + 4 * t ∨ a = 2000 + 4 * t + 1 ∨ a = 2000 + 4 * t + 2 ∨ a = 2000 + 4 * t + 3) : CI ((((K ++ [2000 + 4 * t + 2]) ++ [2000 + 4 * t]) ++ [2000 + 4 * t + 1]) ++ [2000 + 4 * t + 3]) (stx S (2000 + 4 * t) ln) O1 z (t + 1) := by
  obtain ⟨⟨h1, h2, h3⟩, h4, h5, h6, h7⟩ := h
  have mem : ∀ e, e ∈ ((((K ++ [2000 + 4 * t + 2]) ++ [2000 + 4 * t]) ++ [2000 + 4 * t + 1]) ++ [2000 + 4 * t + 3]) ↔ (e ∈ K ∨ e = 2000 + 4 * t ∨ e = 2000 + 4 * t + 1 ∨ e = 2000 + 4 * t + 2 ∨ e = 2000 + 4 * t + 3) := by
    intro e
    simp only [List.mem_append, List.mem_singleton]
    constructor
    · rintro ((((q | q) | q) | q) | q)
      · exact Or.inl q
      · exact Or.inr (Or.inr (Or.inr (Or.inl q)))
      · exact Or.inr (Or.inl q)
      · exact Or.inr (Or.inr (Or.inl q))
      · exact Or.inr (Or.inr (Or.inr (Or.inr q)))
    · rintro (q | q | q | q | q)
      · exact Or.inl (Or.inl (Or.inl (Or.inl q)))
      · exact Or.inl (Or.inl (Or.inr q))
      · exact Or.inl (Or.inr q)
      · exact Or.inl (Or.inl (Or.inl (Or.inr q)))
      · exact Or.inr q
  have old : ∀ e, e ∈ K → e ∈ ((((K ++ [2000 + 4 * t + 2]) ++ [2000 + 4 * t]) ++ [2000 + 4 * t + 1]) ++ [2000 + 4 * t + 3]) := fun e he => (mem e).mpr (Or.inl he)
  refine ⟨⟨fun q hq => ⟨old _ (h1 q hq).1, shN_C q hq⟩, fun e he => ?_, fun e he => ?_⟩, ?_, fun j i a ha => (mem a).mpr (hO j i a ha), fun e he => ?_, fun e he => ?_⟩
  · have he' := of_decide_eq_true he
    have hs : stx S (2000 + 4 * t) ln e = S e := stx_n2 (by omega) (by omega)
    rw [hs] at he'
    exact ⟨old _ (h2 e (decide_eq_true he')).1, shN_sg ⟨he'.1, he'.2.1⟩⟩
  · have he' := of_decide_eq_true he
    obtain ⟨q1, q2, q3⟩ := he'
    rw [shN_tx0 ⟨q1, q2⟩, shN_tx1 ⟨q1, q2⟩, shN_tx2 ⟨q1, q2⟩, shN_tx3 ⟨q1, q2⟩]
    by_cases hx : e = 2000 + 4 * t
    · subst hx
      exact ⟨⟨(mem _).mpr (Or.inr (Or.inl rfl)), rfl⟩, ⟨(mem _).mpr (Or.inr (Or.inr (Or.inl rfl))), rfl⟩, ⟨(mem _).mpr (Or.inr (Or.inr (Or.inr (Or.inl rfl)))), rfl⟩, (mem _).mpr (Or.inr (Or.inr (Or.inr (Or.inr rfl)))), rfl⟩
    · have hs : stx S (2000 + 4 * t) ln e = S e := stx_n2 hx (by omega)
      rw [hs] at q3
      obtain ⟨⟨a1, -⟩, ⟨a2, -⟩, ⟨a3, -⟩, ⟨a4, -⟩⟩ := h3 e (decide_eq_true ⟨q1, q2, q3⟩)
      exact ⟨⟨old _ a1, rfl⟩, ⟨old _ a2, rfl⟩, ⟨old _ a3, rfl⟩, old _ a4, rfl⟩
  · intro j hj r hr
    rcases (mem j).mp hj with q | q | q | q | q
    · rw [shN_l (T := S)] at hr
      exact old _ (h4 j q r hr)
    · rw [q, shN_tx0 ⟨by omega, by omega⟩] at hr
      have hr' : r + 2 = 2000 + 4 * t + 3 ∨ r + 2 = 2000 + 4 * t + 4 ∨ r + 2 = 2000 + 4 * t + 5 := by
        have : r + 2 ∈ [2000 + 4 * t + 3, 2000 + 4 * t + 4, 2000 + 4 * t + 5] := hr
        simpa using this
      exact (mem r).mpr (by omega)
    · rw [q, shN_tx1 ⟨by omega, by omega⟩] at hr
      exact absurd hr (by simp)
    · rw [q, shN_tx2 ⟨by omega, by omega⟩] at hr
      exact absurd hr (by simp)
    · rw [q, shN_tx3 ⟨by omega, by omega⟩] at hr
      exact absurd hr (by simp)
  · rcases (mem e).mp he with q | q | q | q | q
    · exact h6 e q
    all_goals exact Or.inr (by omega)
  · rcases (mem e).mp he with q | q | q | q | q
    · have := h7 e q; omega
    all_goals omega
