variable {Nq : Nat}
/-! ===== the d-th of a set, by trial ===== -/
def clr : Nat → Nat → Nat
  | 0, s => s
  | d + 1, s => clr d (s &&& (s - 1))
theorem clr_lt : ∀ d s, s < 1024 → clr d s < 1024
  | 0, _, h => h
  | d + 1, s, h => clr_lt d _ (Nat.lt_of_le_of_lt Nat.and_le_left h)
theorem nth_ok : ∀ s, s < 1024 → ∀ d, d < 10 → d < fb_ct s.testBit 10 → clr d s ≠ 0 ∧ (∀ e, e < d → clr e s ≠ 0) ∧ fnd (fun p => s.testBit p && decide (fb_ct s.testBit p = d)) 10 = nI (fa_first (clr d s).testBit 10) := by decide +kernel
theorem ntz_ok : ∀ t, t < 1024 → t ≠ 0 → fa_first (bt (nI t)) 32 = fa_first t.testBit 10 := by decide +kernel
theorem pc_ok : ∀ s, s < 1024 → pc (nI s) = fb_ct s.testBit 10 := by decide +kernel
