/-! PURE: the calls: away (its sets) -/
def othU (m i : Nat) : Nat := 2 ^ m - 1 - 2 ^ i
theorem aw_1 : ∀ m, m < 9 → ∀ i, i < m → (isl 1 (nI m) - 1) &&& (isl 1 (nI i) ^^^ (-1)) = nI (othU m i) ∧ isl 1 (nI m) = nI (2 ^ m) := by decide +kernel
def hbU (j i : Nat) : Bool := decide (isr (nI j) (nI i) &&& 1 = 1)
theorem aw_2 : ∀ m, m < 9 → ∀ i, i < m → ∀ j, j < 2 ^ m → decide (nI j &&& (nI (othU m i) ^^^ (-1)) = 0) = !hbU j i := by decide +kernel
theorem aw_3 : ∀ m, m < 9 → ∀ i, i < m → ∀ j, j < 2 ^ m → othU m i < j → hbU j i = true := by decide +kernel
theorem aw_4 : ∀ m, m < 9 → ∀ i, i < m → othU m i < 2 ^ m ∧ 2 ^ m ≤ 256 := by decide +kernel
