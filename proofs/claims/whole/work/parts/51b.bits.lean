/-! ===== small bit tables ===== -/
theorem bt_or0 : ∀ n : Nat, n < 2048 → nI n ||| 0 = nI n := by decide +kernel
theorem bt_or1 : ∀ n : Nat, n < 1024 → nI (2 * n) ||| 1 = nI (2 * n + 1) := by decide +kernel
theorem bt_or1' : ∀ n : Nat, n < 1024 → nI (2 * n + 1) ||| 1 = nI (2 * n + 1) := by decide +kernel
theorem bt_and : ∀ n : Nat, n < 2048 → nI n &&& 1 = nI (n % 2) := by decide +kernel
theorem bt_and2 : ∀ n : Nat, n < 2048 → nI n &&& (-2) = nI (n / 2 * 2) := by decide +kernel
theorem bt_xor : ∀ n : Nat, n < 1024 → nI (2 * n) ^^^ 1 = nI (2 * n + 1) ∧ nI (2 * n + 1) ^^^ 1 = nI (2 * n) := by decide +kernel
theorem bt_shl : ∀ n : Nat, n < 1024 → nI n <<< (1 &&& 31) = nI (2 * n) := by decide +kernel
theorem bt_shr : ∀ n : Nat, n < 2048 → ((nI n).toUInt32 >>> ((1 : Int32).toUInt32 &&& Int32.toUInt32 31)).toInt32 = nI (n / 2) := by decide +kernel
