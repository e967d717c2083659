def pcN (k : Nat) : Nat := ((List.range 10).filter fun i => k.testBit i).length
theorem bcN : ∀ k, k < 1024 → f_J6_bitCount_0f7a4 (nI k) = some (nI (pcN k)) := by decide +kernel
theorem pcN_or : ∀ p, p < 10 → ∀ k, k < 1024 → pcN (k ||| 2 ^ p) = pcN k + if k.testBit p = true then 0 else 1 := by decide +kernel
