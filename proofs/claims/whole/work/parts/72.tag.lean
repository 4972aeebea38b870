/-! TAGS -/
theorem tag_lo : ∀ b, b < 128 → ∀ be, be < 2 → (nI b <<< 1) ||| nI be = nI (2 * b + be) := by decide +kernel
theorem tag_hi : ∀ q, q < 64 → ∀ r, r < 256 → (nI q <<< 8) ||| nI r = nI (256 * q + r) := by decide +kernel
