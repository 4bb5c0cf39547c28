/-! one bit more -/
theorem pop_or1 : ∀ x, x < 4096 → ∀ t, t < 12 → pop (x ||| 2 ^ t) ≤ pop x + 1 := dec64 (by decide +kernel)
