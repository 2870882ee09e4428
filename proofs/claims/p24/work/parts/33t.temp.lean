/-! TEMPORARY: stands in 32.x2 -/
theorem nI_clampX {n : Nat} (h : n < 2 ^ 31) : Int32.toNatClampNeg (nI n) = n := by
  show (nI n).toInt.toNat = n
  rw [nI_toInt h]
  rfl
