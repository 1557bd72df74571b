/-! sets as bits -/
theorem bt_get : ∀ n : Nat, n < 6 → ∀ s : Nat, s < 64 → ((((iz (s : Int)) >>> ((iz (n : Int)) &&& 31)) &&& 1) = (0 : Int32) ↔ s.testBit n = false) := by decide +kernel
theorem bt_or : ∀ n : Nat, n < 6 → ∀ s : Nat, s < 64 → (iz (s : Int) ||| ((1 : Int32) <<< ((iz (n : Int)) &&& 31))) = iz ((s ||| 2 ^ n : Nat) : Int) := by decide +kernel
theorem bt_shl : ∀ n : Nat, n < 7 → ((1 : Int32) <<< ((iz (n : Int)) &&& 31)) = iz ((2 ^ n : Nat) : Int) := by decide +kernel
theorem bt_cmp1 : ∀ m : Nat, m < 7 → ∀ n : Nat, n < m → ∀ s : Nat, s < 2 ^ m → s.testBit n = true → (2 ^ m - 1 - s).testBit n = false := by decide +kernel
theorem bt_cmp2 : ∀ m : Nat, m < 7 → ∀ n : Nat, n < m → ∀ s : Nat, s < 2 ^ m → s.testBit n = false → (2 ^ m - 1 - s).testBit n = true := by decide +kernel
theorem bt_cmp3 : ∀ m : Nat, m < 7 → ∀ n : Nat, n < m → ∀ s : Nat, s < 2 ^ m → s.testBit n = false → (s ||| 2 ^ n) < 2 ^ m := by decide +kernel
theorem bt_cmp4 : ∀ m : Nat, m < 7 → ∀ n : Nat, n < m → ∀ s : Nat, s < 2 ^ m → s.testBit n = false → 2 ^ m - 1 - (s ||| 2 ^ n) = 2 ^ m - 1 - s - 2 ^ n := by decide +kernel
