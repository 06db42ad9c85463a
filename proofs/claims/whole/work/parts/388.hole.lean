theorem j_law {σ : hw_S} (hJ : hw_Jv σ) (x y : Int32) : ∃ r σ1 τ, m11_law 0 x y σ = some (r, σ1) ∧ m12_law 41 x y σ1 = some (r, τ) ∧ hw_Jv τ ∧ hw_F σ1 := by
  sorry
