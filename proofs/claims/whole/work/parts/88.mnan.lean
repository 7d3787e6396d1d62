theorem k_share : ∀ n, n < 41 → ∀ c, c < 41 → c ≠ 0 → FP.f2d (FP.fdiv (FP.i2f (ji ((n : Nat) : Int))) (FP.i2f (ji ((c : Nat) : Int)))) &&& 0x7fffffffffffffff ≤ 0x7ff0000000000000 ∧ Op.cmpValue (FP.dcmp (FP.f2d (FP.fdiv (FP.i2f (ji ((n : Nat) : Int))) (FP.i2f (ji ((c : Nat) : Int))))) (FP.f2d (FP.fdiv (FP.i2f (ji ((n : Nat) : Int))) (FP.i2f (ji ((c : Nat) : Int)))))) .l = 0 := by decide +kernel
theorem ord_self {x : FP.Core.Datum} (h : x ≠ .nan) : FP.Core.order x x = some .eq := by
  cases x with
  | nan => exact absurd rfl h
  | inf s => simp [FP.Core.order]
  | fin s c q => simp [FP.Core.order]
theorem dcs {x : UInt64} (h : FP.Core.decode FP.Core.b64 x.toNat ≠ .nan) : Op.cmpValue (FP.dcmp x x) .l = 0 := by
  rw [show FP.dcmp x x = some .eq from ord_self h]
  rfl
theorem k_mean0 : ∀ c, c < 41 → c ≠ 0 → ∀ n, n < 29 * c + 1 → FP.Core.decode FP.Core.b64 (FP.ddiv (FP.i2d (ji ((n : Nat) : Int))) (FP.i2d (ji ((c : Nat) : Int)))).toNat ≠ .nan := by decide +kernel
theorem k_mean : ∀ c, c < 41 → c ≠ 0 → ∀ n, n < 29 * c + 1 → Op.cmpValue (FP.dcmp (FP.ddiv (FP.i2d (ji ((n : Nat) : Int))) (FP.i2d (ji ((c : Nat) : Int)))) (FP.ddiv (FP.i2d (ji ((n : Nat) : Int))) (FP.i2d (ji ((c : Nat) : Int))))) .l = 0 := fun c h1 h2 n h3 => dcs (k_mean0 c h1 h2 n h3)
