/-! the start, with the noted leaves -/
theorem pR20 (x : Int32) : pR2 (zX0 x) (zM0 x) := by
  refine ⟨pRel0 x, rfl, fun j h => ?_⟩
  have h : (j : Int) < (0 : Int32).toInt := h
  rw [pq_t0] at h
  exact absurd h (by omega)
