variable {Nq : Nat}
/-! ===== sets of at most ten ===== -/
theorem set_out : ∀ f, f < 10 → ∀ S, S < 1024 → S.testBit f = true → nI S &&& (nI (2 ^ f) ^^^ (-1)) = nI (S - 2 ^ f) ∧ (S - 2 ^ f).testBit f = false ∧ pc (nI (S - 2 ^ f)) + 1 = pc (nI S) := by decide +kernel
theorem set_in : ∀ f, f < 10 → ∀ S, S < 1024 → S.testBit f = false → nI S ||| nI (2 ^ f) = nI (S + 2 ^ f) ∧ (S + 2 ^ f).testBit f = true ∧ pc (nI (S + 2 ^ f)) = pc (nI S) + 1 := by decide +kernel
theorem pc_pos : ∀ S, S < 1024 → 0 < S → 0 < pc (nI S) := by decide +kernel
