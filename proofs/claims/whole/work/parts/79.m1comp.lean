/-! a comparison -/
theorem smR.rel4 {W5 W : List Nat} {C D5 : Cod} {op : Nat} (h : smR W5 W C D5) (h4 : ∀ a ∈ W5, rnk a < 4) : relP 4 W op C = (W5, op, D5) := by
  obtain ⟨W6, D, h1, h2⟩ := h
  rcases h2 with ⟨rfl, rfl⟩ | ⟨a, ha, rfl, rfl⟩
  · rcases h1 with ⟨rfl, rfl⟩ | ⟨rfl, rfl⟩
    · exact relP_t h4
    · rw [relP, if_neg (by decide), if_neg (by decide), relP_t h4]
  · obtain ⟨r5, r3⟩ := rnk_5 ha
    have e5 : ∀ X, relP 4 (a :: W5) op X = (W5, op, X ++ [(a, 0)]) := fun X => by rw [relP, if_neg (by omega), if_neg r3, relP_t h4]
    rcases h1 with ⟨rfl, rfl⟩ | ⟨rfl, rfl⟩
    · exact e5 _
    · rw [relP, if_neg (by decide), if_neg (by decide), e5]
/-- a sum that stands on a comparing sign: all of it goes into the code from rank 1 on -/
theorem rnk_4 {a : Nat} (h : a = 60 ∨ a = 61 ∨ a = 62) : rnk a = 4 ∧ ¬ a = 3 ∧ isA a := by
  rcases h with rfl | rfl | rfl <;> exact ⟨by decide, by decide, by unfold isA; omega⟩
