theorem ones_all : ∀ k, k < 1024 → r_M_ones (nI k) = some (r_Ig_bitCount (nI k)) := by decide +kernel
theorem or_all : ∀ i, i < 10 → ∀ a, a < 1024 → nI a ||| ((1 : Int32) <<< (nI i &&& 31)) = nI (a ||| 1 <<< i) := by decide +kernel
theorem or_lt : ∀ i, i < 10 → ∀ a, a < 1024 → a ||| 1 <<< i < 1024 := by decide +kernel
