theorem pPat_pos {x : Int32} (h : ¬ pPat x < 0) : ¬ pPat x = -4 := fun z => h (by rw [z]; decide)
theorem pt_pos : ∀ i, i < 15 → ¬ ptF i < 0 := by decide
theorem pt_or : ∀ i, i < 15 → ptF i + 128 = ptF i ||| 128 := by decide
theorem pPat_neg {x : Int32} (h : pPat x < 0) : pPat x = -4 := by
  rcases pPat_cases x with ⟨j, hj, e⟩ | e
  · rw [e, pPat_ch j hj] at h
    exact absurd h (pt_pos j hj)
  · exact e
theorem pPat_or {x : Int32} (h : ¬ pPat x = -4) : pPat x + 128 = pPat x ||| 128 := by
  rcases pPat_cases x with ⟨j, hj, e⟩ | e
  · rw [e, pPat_ch j hj]
    exact pt_or j hj
  · exact absurd e h
theorem nI_4 {i : Nat} (h : i < 2 ^ 31) : ¬ nI i = -4 := fun z => nI_pos h (by rw [z]; decide)
