theorem k_flt : ∀ n, n < 41 → ∀ c, c < 41 → c ≠ 0 → FP.fdiv (FP.i2f (ji ((n : Nat) : Int))) (FP.i2f (ji ((c : Nat) : Int))) &&& 0x7fffffff ≤ 0x7f800000 := by decide +kernel
theorem k_dbl : ∀ c, c < 41 → c ≠ 0 → ∀ n, n < 29 * c + 1 → FP.ddiv (FP.i2d (ji ((n : Nat) : Int))) (FP.i2d (ji ((c : Nat) : Int))) &&& 0x7fffffffffffffff ≤ 0x7ff0000000000000 := by decide +kernel
