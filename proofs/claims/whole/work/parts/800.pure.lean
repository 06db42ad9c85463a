def hw_s0 : hw_S := ((fun _ => 0), (fun _ => 0), (fun _ _ => 0), (fun _ _ => none), 0)
theorem mL_ok (xs : Nat → Int32) (N : Nat) (hN : N ≤ 3584) : ∃ τ, mL xs N hw_s0 = some (1, τ) := by
  sorry
