theorem all_agree : ∃ RR : Nat → Nat → Mem → MemL → MemO → (Nat → Nat) → Mem → Prop, (∀ z t G L O S G', RR z t G L O S G' → z ≤ 10) ∧ Ag_init RR ∧ Ag_all RR := by
  sorry
