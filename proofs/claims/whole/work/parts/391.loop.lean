/-! the pure layer: the law's loop -/
theorem hw_sxN {xs : Nat → Int32} {N j : Nat} (h : j < N) (hN : N ≤ 3584) : hw_sx xs N (nI j) = some (xs j) := by
  unfold hw_sx
  rw [if_neg (hw_nIx h (by omega)), nI_clamp (by omega)]
theorem hw_ifr {α : Type} {r : Int32} {x y : α} : (if r = r then x else y) = x := if_pos rfl
theorem L_stuff {xs : Nat → Int32} {N k : Nat} (hk : 7 * k + 7 ≤ N) (hN : N ≤ 3584) {σ : hw_S} (hJ : hw_Jv σ) (k18 : Option Nat → Option Nat → Int32 → hw_S → Option (Int32 × hw_S)) : ∃ τ, mL_b160 xs N k18 (some 0) (some 41) (nI (7 * k)) σ = k18 (some 0) (some 41) (nI (7 * (k + 1))) τ ∧ hw_Jv τ := by
  have hF := hJ.1
  have e7 : nI (7 * k) + 7 = nI (7 * (k + 1)) := nI_add (7 * k) 7
  have x1 : hw_sx xs N (nI (7 * k) + (1 : Int32)) = some (xs (7 * k + 1)) := (congrArg (hw_sx xs N) (nI_add (7 * k) 1)).trans (hw_sxN (by omega) hN)
  have x2 : hw_sx xs N (nI (7 * k) + (2 : Int32)) = some (xs (7 * k + 2)) := (congrArg (hw_sx xs N) (nI_add (7 * k) 2)).trans (hw_sxN (by omega) hN)
  unfold mL_b160 mL_b1292
  obtain ⟨r, σ1, τ, h1, h2, h3, h4⟩ := j_stuff hJ (xs (7 * k + 1)) (xs (7 * k + 2))
  rw [x1, Option.bind_some, x2, Option.bind_some, hw_V_0 hF, Option.bind_some, h1, hw_b2s, Option.bind_some, Option.bind_some, hw_V_41 h4, Option.bind_some, h2, hw_b2s, hw_ifr, e7]
  exact ⟨τ, rfl, h3⟩
theorem L_of {xs : Nat → Int32} {N k : Nat} (hk : 7 * k + 7 ≤ N) (hN : N ≤ 3584) {σ : hw_S} (hJ : hw_Jv σ) (k18 : Option Nat → Option Nat → Int32 → hw_S → Option (Int32 × hw_S)) : ∃ τ, mL_b193 xs N k18 (some 0) (some 41) (nI (7 * k)) σ = k18 (some 0) (some 41) (nI (7 * (k + 1))) τ ∧ hw_Jv τ := by
  have hF := hJ.1
  have e7 : nI (7 * k) + 7 = nI (7 * (k + 1)) := nI_add (7 * k) 7
  have x1 : hw_sx xs N (nI (7 * k) + (1 : Int32)) = some (xs (7 * k + 1)) := (congrArg (hw_sx xs N) (nI_add (7 * k) 1)).trans (hw_sxN (by omega) hN)
  have x2 : hw_sx xs N (nI (7 * k) + (2 : Int32)) = some (xs (7 * k + 2)) := (congrArg (hw_sx xs N) (nI_add (7 * k) 2)).trans (hw_sxN (by omega) hN)
  unfold mL_b193 mL_b1292
  obtain ⟨r, h1, h2⟩ := j_of hJ (xs (7 * k + 1)) (xs (7 * k + 2))
  rw [x1, Option.bind_some, x2, Option.bind_some, hw_V_0 hF, Option.bind_some, h1, Option.bind_some, Option.bind_some, Option.bind_some, hw_V_41 hF, Option.bind_some, h2, Option.bind_some, hw_ifr, e7]
  exact ⟨σ, rfl, hJ⟩
theorem L_feed {xs : Nat → Int32} {N k : Nat} (hk : 7 * k + 7 ≤ N) (hN : N ≤ 3584) {σ : hw_S} (hJ : hw_Jv σ) (k18 : Option Nat → Option Nat → Int32 → hw_S → Option (Int32 × hw_S)) : ∃ τ, mL_b226 xs N k18 (some 0) (some 41) (nI (7 * k)) σ = k18 (some 0) (some 41) (nI (7 * (k + 1))) τ ∧ hw_Jv τ := by
  have hF := hJ.1
  have e7 : nI (7 * k) + 7 = nI (7 * (k + 1)) := nI_add (7 * k) 7
  have x1 : hw_sx xs N (nI (7 * k) + (1 : Int32)) = some (xs (7 * k + 1)) := (congrArg (hw_sx xs N) (nI_add (7 * k) 1)).trans (hw_sxN (by omega) hN)
  have x2 : hw_sx xs N (nI (7 * k) + (2 : Int32)) = some (xs (7 * k + 2)) := (congrArg (hw_sx xs N) (nI_add (7 * k) 2)).trans (hw_sxN (by omega) hN)
  have x3 : hw_sx xs N (nI (7 * k) + (3 : Int32)) = some (xs (7 * k + 3)) := (congrArg (hw_sx xs N) (nI_add (7 * k) 3)).trans (hw_sxN (by omega) hN)
  unfold mL_b226 mL_b1292
  obtain ⟨r, σ1, τ, h1, h2, h3, h4⟩ := j_feed hJ ((Int32.toInt64 (xs (7 * k + 1)) <<< ((Int32.toInt64 (32 : Int32)) &&& 63)) ||| ((Int32.toInt64 (xs (7 * k + 2))) &&& (4294967295 : Int64))) (xs (7 * k + 3))
  rw [x1, Option.bind_some, x2, Option.bind_some, x3, Option.bind_some, hw_V_0 hF, Option.bind_some, h1, hw_b2s, Option.bind_some, Option.bind_some, Option.bind_some, hw_V_41 h4, Option.bind_some, h2, hw_b2s, hw_ifr, e7]
  exact ⟨τ, rfl, h3⟩
theorem L_law {xs : Nat → Int32} {N k : Nat} (hk : 7 * k + 7 ≤ N) (hN : N ≤ 3584) {σ : hw_S} (hJ : hw_Jv σ) (k18 : Option Nat → Option Nat → Int32 → hw_S → Option (Int32 × hw_S)) : ∃ τ, mL_b289 xs N k18 (some 0) (some 41) (nI (7 * k)) σ = k18 (some 0) (some 41) (nI (7 * (k + 1))) τ ∧ hw_Jv τ := by
  have hF := hJ.1
  have e7 : nI (7 * k) + 7 = nI (7 * (k + 1)) := nI_add (7 * k) 7
  have x1 : hw_sx xs N (nI (7 * k) + (1 : Int32)) = some (xs (7 * k + 1)) := (congrArg (hw_sx xs N) (nI_add (7 * k) 1)).trans (hw_sxN (by omega) hN)
  have x2 : hw_sx xs N (nI (7 * k) + (2 : Int32)) = some (xs (7 * k + 2)) := (congrArg (hw_sx xs N) (nI_add (7 * k) 2)).trans (hw_sxN (by omega) hN)
  unfold mL_b289 mL_b1292
  obtain ⟨r, σ1, τ, h1, h2, h3, h4⟩ := j_law hJ (xs (7 * k + 1)) (xs (7 * k + 2))
  rw [x1, Option.bind_some, x2, Option.bind_some, hw_V_0 hF, Option.bind_some, h1, hw_b2s, Option.bind_some, Option.bind_some, hw_V_41 h4, Option.bind_some, h2, hw_b2s, hw_ifr, e7]
  exact ⟨τ, rfl, h3⟩
theorem L_told {xs : Nat → Int32} {N k : Nat} (hk : 7 * k + 7 ≤ N) (hN : N ≤ 3584) {σ : hw_S} (hJ : hw_Jv σ) (k18 : Option Nat → Option Nat → Int32 → hw_S → Option (Int32 × hw_S)) : ∃ τ, mL_b322 xs N k18 (some 0) (some 41) (nI (7 * k)) σ = k18 (some 0) (some 41) (nI (7 * (k + 1))) τ ∧ hw_Jv τ := by
  have hF := hJ.1
  have e7 : nI (7 * k) + 7 = nI (7 * (k + 1)) := nI_add (7 * k) 7
  have x1 : hw_sx xs N (nI (7 * k) + (1 : Int32)) = some (xs (7 * k + 1)) := (congrArg (hw_sx xs N) (nI_add (7 * k) 1)).trans (hw_sxN (by omega) hN)
  have x2 : hw_sx xs N (nI (7 * k) + (2 : Int32)) = some (xs (7 * k + 2)) := (congrArg (hw_sx xs N) (nI_add (7 * k) 2)).trans (hw_sxN (by omega) hN)
  unfold mL_b322 mL_b1292
  obtain ⟨r, h1, h2⟩ := j_told hJ (xs (7 * k + 1)) (xs (7 * k + 2))
  rw [x1, Option.bind_some, x2, Option.bind_some, hw_V_0 hF, Option.bind_some, h1, Option.bind_some, Option.bind_some, Option.bind_some, hw_V_41 hF, Option.bind_some, h2, Option.bind_some, hw_ifr, e7]
  exact ⟨σ, rfl, hJ⟩
theorem L_winds {xs : Nat → Int32} {N k : Nat} (hk : 7 * k + 7 ≤ N) (hN : N ≤ 3584) {σ : hw_S} (hJ : hw_Jv σ) (k18 : Option Nat → Option Nat → Int32 → hw_S → Option (Int32 × hw_S)) : ∃ τ, mL_b355 xs N k18 (some 0) (some 41) (nI (7 * k)) σ = k18 (some 0) (some 41) (nI (7 * (k + 1))) τ ∧ hw_Jv τ := by
  have hF := hJ.1
  have e7 : nI (7 * k) + 7 = nI (7 * (k + 1)) := nI_add (7 * k) 7
  have x1 : hw_sx xs N (nI (7 * k) + (1 : Int32)) = some (xs (7 * k + 1)) := (congrArg (hw_sx xs N) (nI_add (7 * k) 1)).trans (hw_sxN (by omega) hN)
  have x2 : hw_sx xs N (nI (7 * k) + (2 : Int32)) = some (xs (7 * k + 2)) := (congrArg (hw_sx xs N) (nI_add (7 * k) 2)).trans (hw_sxN (by omega) hN)
  have x3 : hw_sx xs N (nI (7 * k) + (3 : Int32)) = some (xs (7 * k + 3)) := (congrArg (hw_sx xs N) (nI_add (7 * k) 3)).trans (hw_sxN (by omega) hN)
  have x4 : hw_sx xs N (nI (7 * k) + (4 : Int32)) = some (xs (7 * k + 4)) := (congrArg (hw_sx xs N) (nI_add (7 * k) 4)).trans (hw_sxN (by omega) hN)
  unfold mL_b355 mL_b1292
  obtain ⟨r, τ, h1, h2, h3⟩ := j_winds hJ (xs (7 * k + 1)) (xs (7 * k + 2)) (xs (7 * k + 3)) (xs (7 * k + 4))
  rw [x1, Option.bind_some, x2, Option.bind_some, x3, Option.bind_some, x4, Option.bind_some, hw_V_0 hF, Option.bind_some, h1, Option.bind_some, Option.bind_some, Option.bind_some, Option.bind_some, Option.bind_some, hw_V_41 hF, Option.bind_some, h2, hw_b2s, hw_ifr, e7]
  exact ⟨τ, rfl, h3⟩
theorem L_tick {xs : Nat → Int32} {N k : Nat} (hk : 7 * k + 7 ≤ N) (hN : N ≤ 3584) {σ : hw_S} (hJ : hw_Jv σ) (k18 : Option Nat → Option Nat → Int32 → hw_S → Option (Int32 × hw_S)) : ∃ τ, mL_b408 xs N k18 (some 0) (some 41) (nI (7 * k)) σ = k18 (some 0) (some 41) (nI (7 * (k + 1))) τ ∧ hw_Jv τ := by
  have hF := hJ.1
  have e7 : nI (7 * k) + 7 = nI (7 * (k + 1)) := nI_add (7 * k) 7
  have x1 : hw_sx xs N (nI (7 * k) + (1 : Int32)) = some (xs (7 * k + 1)) := (congrArg (hw_sx xs N) (nI_add (7 * k) 1)).trans (hw_sxN (by omega) hN)
  unfold mL_b408 mL_b1292
  obtain ⟨r, σ1, τ, h1, h2, h3, h4⟩ := j_tick hJ (xs (7 * k + 1))
  rw [x1, Option.bind_some, hw_V_0 hF, Option.bind_some, h1, hw_b2s, Option.bind_some, hw_V_41 h4, Option.bind_some, h2, hw_b2s, hw_ifr, e7]
  exact ⟨τ, rfl, h3⟩
theorem L_run {xs : Nat → Int32} {N k : Nat} (hk : 7 * k + 7 ≤ N) (hN : N ≤ 3584) {σ : hw_S} (hJ : hw_Jv σ) (k18 : Option Nat → Option Nat → Int32 → hw_S → Option (Int32 × hw_S)) : ∃ τ, mL_b431 xs N k18 (some 0) (some 41) (nI (7 * k)) σ = k18 (some 0) (some 41) (nI (7 * (k + 1))) τ ∧ hw_Jv τ := by
  have hF := hJ.1
  have e7 : nI (7 * k) + 7 = nI (7 * (k + 1)) := nI_add (7 * k) 7
  have x1 : hw_sx xs N (nI (7 * k) + (1 : Int32)) = some (xs (7 * k + 1)) := (congrArg (hw_sx xs N) (nI_add (7 * k) 1)).trans (hw_sxN (by omega) hN)
  have x2 : hw_sx xs N (nI (7 * k) + (2 : Int32)) = some (xs (7 * k + 2)) := (congrArg (hw_sx xs N) (nI_add (7 * k) 2)).trans (hw_sxN (by omega) hN)
  have x3 : hw_sx xs N (nI (7 * k) + (3 : Int32)) = some (xs (7 * k + 3)) := (congrArg (hw_sx xs N) (nI_add (7 * k) 3)).trans (hw_sxN (by omega) hN)
  unfold mL_b431 mL_b1292
  obtain ⟨r, σ1, τ, h1, h2, h3, h4⟩ := j_run hJ (xs (7 * k + 1)) (xs (7 * k + 2)) (xs (7 * k + 3))
  rw [x1, Option.bind_some, x2, Option.bind_some, x3, Option.bind_some, hw_V_0 hF, Option.bind_some, h1, hw_b2s, Option.bind_some, Option.bind_some, Option.bind_some, hw_V_41 h4, Option.bind_some, h2, hw_b2s, hw_ifr, e7]
  exact ⟨τ, rfl, h3⟩
theorem L_curve {xs : Nat → Int32} {N k : Nat} (hk : 7 * k + 7 ≤ N) (hN : N ≤ 3584) {σ : hw_S} (hJ : hw_Jv σ) (k18 : Option Nat → Option Nat → Int32 → hw_S → Option (Int32 × hw_S)) : ∃ τ, mL_b474 xs N k18 (some 0) (some 41) (nI (7 * k)) σ = k18 (some 0) (some 41) (nI (7 * (k + 1))) τ ∧ hw_Jv τ := by
  have hF := hJ.1
  have e7 : nI (7 * k) + 7 = nI (7 * (k + 1)) := nI_add (7 * k) 7
  have x1 : hw_sx xs N (nI (7 * k) + (1 : Int32)) = some (xs (7 * k + 1)) := (congrArg (hw_sx xs N) (nI_add (7 * k) 1)).trans (hw_sxN (by omega) hN)
  have x2 : hw_sx xs N (nI (7 * k) + (2 : Int32)) = some (xs (7 * k + 2)) := (congrArg (hw_sx xs N) (nI_add (7 * k) 2)).trans (hw_sxN (by omega) hN)
  have x3 : hw_sx xs N (nI (7 * k) + (3 : Int32)) = some (xs (7 * k + 3)) := (congrArg (hw_sx xs N) (nI_add (7 * k) 3)).trans (hw_sxN (by omega) hN)
  have x4 : hw_sx xs N (nI (7 * k) + (4 : Int32)) = some (xs (7 * k + 4)) := (congrArg (hw_sx xs N) (nI_add (7 * k) 4)).trans (hw_sxN (by omega) hN)
  have x5 : hw_sx xs N (nI (7 * k) + (5 : Int32)) = some (xs (7 * k + 5)) := (congrArg (hw_sx xs N) (nI_add (7 * k) 5)).trans (hw_sxN (by omega) hN)
  by_cases hz : xs (7 * k + 5) = 0
  · obtain ⟨r, σ1, τ, h1, h2, h3, h4⟩ := j_curve hJ (xs (7 * k + 1)) (xs (7 * k + 2)) (xs (7 * k + 3)) (xs (7 * k + 4)) 0
    unfold mL_b474 mL_b508 mL_b545 mL_b1292
    rw [x1, Option.bind_some, x2, Option.bind_some, x3, Option.bind_some, x4, Option.bind_some, x5, Option.bind_some, if_pos hz, hw_V_0 hF, Option.bind_some, h1, hw_b2s, Option.bind_some, Option.bind_some, Option.bind_some, Option.bind_some, Option.bind_some, if_pos hz, hw_V_41 h4, Option.bind_some, h2, hw_b2s, hw_ifr, e7]
    exact ⟨τ, rfl, h3⟩
  · obtain ⟨r, σ1, τ, h1, h2, h3, h4⟩ := j_curve hJ (xs (7 * k + 1)) (xs (7 * k + 2)) (xs (7 * k + 3)) (xs (7 * k + 4)) 1
    unfold mL_b474 mL_b508 mL_b545 mL_b1292
    rw [x1, Option.bind_some, x2, Option.bind_some, x3, Option.bind_some, x4, Option.bind_some, x5, Option.bind_some, if_neg hz, hw_V_0 hF, Option.bind_some, h1, hw_b2s, Option.bind_some, Option.bind_some, Option.bind_some, Option.bind_some, Option.bind_some, if_neg hz, hw_V_41 h4, Option.bind_some, h2, hw_b2s, hw_ifr, e7]
    exact ⟨τ, rfl, h3⟩
theorem L_jumps {xs : Nat → Int32} {N k : Nat} (hk : 7 * k + 7 ≤ N) (hN : N ≤ 3584) {σ : hw_S} (hJ : hw_Jv σ) (k18 : Option Nat → Option Nat → Int32 → hw_S → Option (Int32 × hw_S)) : ∃ τ, mL_b553 xs N k18 (some 0) (some 41) (nI (7 * k)) σ = k18 (some 0) (some 41) (nI (7 * (k + 1))) τ ∧ hw_Jv τ := by
  have hF := hJ.1
  have e7 : nI (7 * k) + 7 = nI (7 * (k + 1)) := nI_add (7 * k) 7
  have x1 : hw_sx xs N (nI (7 * k) + (1 : Int32)) = some (xs (7 * k + 1)) := (congrArg (hw_sx xs N) (nI_add (7 * k) 1)).trans (hw_sxN (by omega) hN)
  have x2 : hw_sx xs N (nI (7 * k) + (2 : Int32)) = some (xs (7 * k + 2)) := (congrArg (hw_sx xs N) (nI_add (7 * k) 2)).trans (hw_sxN (by omega) hN)
  have x3 : hw_sx xs N (nI (7 * k) + (3 : Int32)) = some (xs (7 * k + 3)) := (congrArg (hw_sx xs N) (nI_add (7 * k) 3)).trans (hw_sxN (by omega) hN)
  have x4 : hw_sx xs N (nI (7 * k) + (4 : Int32)) = some (xs (7 * k + 4)) := (congrArg (hw_sx xs N) (nI_add (7 * k) 4)).trans (hw_sxN (by omega) hN)
  have x5 : hw_sx xs N (nI (7 * k) + (5 : Int32)) = some (xs (7 * k + 5)) := (congrArg (hw_sx xs N) (nI_add (7 * k) 5)).trans (hw_sxN (by omega) hN)
  unfold mL_b553 mL_b1292
  obtain ⟨r, σ1, τ, h1, h2, h3, h4⟩ := j_jumps hJ (xs (7 * k + 1)) (xs (7 * k + 2)) (xs (7 * k + 3)) (xs (7 * k + 4)) (xs (7 * k + 5))
  rw [x1, Option.bind_some, x2, Option.bind_some, x3, Option.bind_some, x4, Option.bind_some, x5, Option.bind_some, hw_V_0 hF, Option.bind_some, h1, hw_b2s, Option.bind_some, Option.bind_some, Option.bind_some, Option.bind_some, Option.bind_some, hw_V_41 h4, Option.bind_some, h2, hw_b2s, hw_ifr, e7]
  exact ⟨τ, rfl, h3⟩
theorem L_several {xs : Nat → Int32} {N k : Nat} (hk : 7 * k + 7 ≤ N) (hN : N ≤ 3584) {σ : hw_S} (hJ : hw_Jv σ) (k18 : Option Nat → Option Nat → Int32 → hw_S → Option (Int32 × hw_S)) : ∃ τ, mL_b616 xs N k18 (some 0) (some 41) (nI (7 * k)) σ = k18 (some 0) (some 41) (nI (7 * (k + 1))) τ ∧ hw_Jv τ := by
  have hF := hJ.1
  have e7 : nI (7 * k) + 7 = nI (7 * (k + 1)) := nI_add (7 * k) 7
  have x1 : hw_sx xs N (nI (7 * k) + (1 : Int32)) = some (xs (7 * k + 1)) := (congrArg (hw_sx xs N) (nI_add (7 * k) 1)).trans (hw_sxN (by omega) hN)
  have x2 : hw_sx xs N (nI (7 * k) + (2 : Int32)) = some (xs (7 * k + 2)) := (congrArg (hw_sx xs N) (nI_add (7 * k) 2)).trans (hw_sxN (by omega) hN)
  have x3 : hw_sx xs N (nI (7 * k) + (3 : Int32)) = some (xs (7 * k + 3)) := (congrArg (hw_sx xs N) (nI_add (7 * k) 3)).trans (hw_sxN (by omega) hN)
  have x4 : hw_sx xs N (nI (7 * k) + (4 : Int32)) = some (xs (7 * k + 4)) := (congrArg (hw_sx xs N) (nI_add (7 * k) 4)).trans (hw_sxN (by omega) hN)
  unfold mL_b616 mL_b1292
  obtain ⟨r, σ1, τ, h1, h2, h3, h4⟩ := j_several hJ (xs (7 * k + 1)) (xs (7 * k + 2)) (xs (7 * k + 3)) (xs (7 * k + 4))
  rw [x1, Option.bind_some, x2, Option.bind_some, x3, Option.bind_some, x4, Option.bind_some, hw_V_0 hF, Option.bind_some, h1, hw_b2s, Option.bind_some, Option.bind_some, Option.bind_some, Option.bind_some, hw_V_41 h4, Option.bind_some, h2, hw_b2s, hw_ifr, e7]
  exact ⟨τ, rfl, h3⟩
theorem L_order {xs : Nat → Int32} {N k : Nat} (hk : 7 * k + 7 ≤ N) (hN : N ≤ 3584) {σ : hw_S} (hJ : hw_Jv σ) (k18 : Option Nat → Option Nat → Int32 → hw_S → Option (Int32 × hw_S)) : ∃ τ, mL_b669 xs N k18 (some 0) (some 41) (nI (7 * k)) σ = k18 (some 0) (some 41) (nI (7 * (k + 1))) τ ∧ hw_Jv τ := by
  have hF := hJ.1
  have e7 : nI (7 * k) + 7 = nI (7 * (k + 1)) := nI_add (7 * k) 7
  have x1 : hw_sx xs N (nI (7 * k) + (1 : Int32)) = some (xs (7 * k + 1)) := (congrArg (hw_sx xs N) (nI_add (7 * k) 1)).trans (hw_sxN (by omega) hN)
  have x2 : hw_sx xs N (nI (7 * k) + (2 : Int32)) = some (xs (7 * k + 2)) := (congrArg (hw_sx xs N) (nI_add (7 * k) 2)).trans (hw_sxN (by omega) hN)
  have x3 : hw_sx xs N (nI (7 * k) + (3 : Int32)) = some (xs (7 * k + 3)) := (congrArg (hw_sx xs N) (nI_add (7 * k) 3)).trans (hw_sxN (by omega) hN)
  have x4 : hw_sx xs N (nI (7 * k) + (4 : Int32)) = some (xs (7 * k + 4)) := (congrArg (hw_sx xs N) (nI_add (7 * k) 4)).trans (hw_sxN (by omega) hN)
  unfold mL_b669 mL_b1292
  obtain ⟨r, σ1, τ, h1, h2, h3, h4⟩ := j_order hJ (xs (7 * k + 1)) (xs (7 * k + 2)) (xs (7 * k + 3)) (xs (7 * k + 4))
  rw [x1, Option.bind_some, x2, Option.bind_some, x3, Option.bind_some, x4, Option.bind_some, hw_V_0 hF, Option.bind_some, h1, hw_b2s, Option.bind_some, Option.bind_some, Option.bind_some, Option.bind_some, hw_V_41 h4, Option.bind_some, h2, hw_b2s, hw_ifr, e7]
  exact ⟨τ, rfl, h3⟩
theorem L_want {xs : Nat → Int32} {N k : Nat} (hk : 7 * k + 7 ≤ N) (hN : N ≤ 3584) {σ : hw_S} (hJ : hw_Jv σ) (k18 : Option Nat → Option Nat → Int32 → hw_S → Option (Int32 × hw_S)) : ∃ τ, mL_b722 xs N k18 (some 0) (some 41) (nI (7 * k)) σ = k18 (some 0) (some 41) (nI (7 * (k + 1))) τ ∧ hw_Jv τ := by
  have hF := hJ.1
  have e7 : nI (7 * k) + 7 = nI (7 * (k + 1)) := nI_add (7 * k) 7
  have x1 : hw_sx xs N (nI (7 * k) + (1 : Int32)) = some (xs (7 * k + 1)) := (congrArg (hw_sx xs N) (nI_add (7 * k) 1)).trans (hw_sxN (by omega) hN)
  unfold mL_b722 mL_b1292
  obtain ⟨r, σ1, τ, h1, h2, h3, h4⟩ := j_want hJ (xs (7 * k + 1))
  rw [x1, Option.bind_some, hw_V_0 hF, Option.bind_some, h1, hw_b2s, Option.bind_some, hw_V_41 h4, Option.bind_some, h2, hw_b2s, hw_ifr, e7]
  exact ⟨τ, rfl, h3⟩
theorem L_found {xs : Nat → Int32} {N k : Nat} (hk : 7 * k + 7 ≤ N) (hN : N ≤ 3584) {σ : hw_S} (hJ : hw_Jv σ) (k18 : Option Nat → Option Nat → Int32 → hw_S → Option (Int32 × hw_S)) : ∃ τ, mL_b745 xs N k18 (some 0) (some 41) (nI (7 * k)) σ = k18 (some 0) (some 41) (nI (7 * (k + 1))) τ ∧ hw_Jv τ := by
  have hF := hJ.1
  have e7 : nI (7 * k) + 7 = nI (7 * (k + 1)) := nI_add (7 * k) 7
  have x1 : hw_sx xs N (nI (7 * k) + (1 : Int32)) = some (xs (7 * k + 1)) := (congrArg (hw_sx xs N) (nI_add (7 * k) 1)).trans (hw_sxN (by omega) hN)
  have x2 : hw_sx xs N (nI (7 * k) + (2 : Int32)) = some (xs (7 * k + 2)) := (congrArg (hw_sx xs N) (nI_add (7 * k) 2)).trans (hw_sxN (by omega) hN)
  have x3 : hw_sx xs N (nI (7 * k) + (3 : Int32)) = some (xs (7 * k + 3)) := (congrArg (hw_sx xs N) (nI_add (7 * k) 3)).trans (hw_sxN (by omega) hN)
  have x4 : hw_sx xs N (nI (7 * k) + (4 : Int32)) = some (xs (7 * k + 4)) := (congrArg (hw_sx xs N) (nI_add (7 * k) 4)).trans (hw_sxN (by omega) hN)
  have x5 : hw_sx xs N (nI (7 * k) + (5 : Int32)) = some (xs (7 * k + 5)) := (congrArg (hw_sx xs N) (nI_add (7 * k) 5)).trans (hw_sxN (by omega) hN)
  unfold mL_b745 mL_b1292
  obtain ⟨r, σ1, τ, h1, h2, h3, h4⟩ := j_found hJ (xs (7 * k + 1)) (xs (7 * k + 2)) (xs (7 * k + 3)) (xs (7 * k + 4)) (xs (7 * k + 5))
  rw [x1, Option.bind_some, x2, Option.bind_some, x3, Option.bind_some, x4, Option.bind_some, x5, Option.bind_some, hw_V_0 hF, Option.bind_some, h1, hw_b2s, Option.bind_some, Option.bind_some, Option.bind_some, Option.bind_some, Option.bind_some, hw_V_41 h4, Option.bind_some, h2, hw_b2s, hw_ifr, e7]
  exact ⟨τ, rfl, h3⟩
theorem L_bears {xs : Nat → Int32} {N k : Nat} (hk : 7 * k + 7 ≤ N) (hN : N ≤ 3584) {σ : hw_S} (hJ : hw_Jv σ) (k18 : Option Nat → Option Nat → Int32 → hw_S → Option (Int32 × hw_S)) : ∃ τ, mL_b808 xs N k18 (some 0) (some 41) (nI (7 * k)) σ = k18 (some 0) (some 41) (nI (7 * (k + 1))) τ ∧ hw_Jv τ := by
  have hF := hJ.1
  have e7 : nI (7 * k) + 7 = nI (7 * (k + 1)) := nI_add (7 * k) 7
  have x1 : hw_sx xs N (nI (7 * k) + (1 : Int32)) = some (xs (7 * k + 1)) := (congrArg (hw_sx xs N) (nI_add (7 * k) 1)).trans (hw_sxN (by omega) hN)
  have x2 : hw_sx xs N (nI (7 * k) + (2 : Int32)) = some (xs (7 * k + 2)) := (congrArg (hw_sx xs N) (nI_add (7 * k) 2)).trans (hw_sxN (by omega) hN)
  have x3 : hw_sx xs N (nI (7 * k) + (3 : Int32)) = some (xs (7 * k + 3)) := (congrArg (hw_sx xs N) (nI_add (7 * k) 3)).trans (hw_sxN (by omega) hN)
  have x4 : hw_sx xs N (nI (7 * k) + (4 : Int32)) = some (xs (7 * k + 4)) := (congrArg (hw_sx xs N) (nI_add (7 * k) 4)).trans (hw_sxN (by omega) hN)
  unfold mL_b808 mL_b1292
  obtain ⟨r, τ, h1, h2, h3⟩ := j_bears hJ (xs (7 * k + 1)) (xs (7 * k + 2)) (xs (7 * k + 3)) (xs (7 * k + 4))
  rw [x1, Option.bind_some, x2, Option.bind_some, x3, Option.bind_some, x4, Option.bind_some, hw_V_0 hF, Option.bind_some, h1, Option.bind_some, Option.bind_some, Option.bind_some, Option.bind_some, Option.bind_some, hw_V_41 hF, Option.bind_some, h2, hw_b2s, hw_ifr, e7]
  exact ⟨τ, rfl, h3⟩
theorem L_film {xs : Nat → Int32} {N k : Nat} (hk : 7 * k + 7 ≤ N) (hN : N ≤ 3584) {σ : hw_S} (hJ : hw_Jv σ) (k18 : Option Nat → Option Nat → Int32 → hw_S → Option (Int32 × hw_S)) : ∃ τ, mL_b861 xs N k18 (some 0) (some 41) (nI (7 * k)) σ = k18 (some 0) (some 41) (nI (7 * (k + 1))) τ ∧ hw_Jv τ := by
  have hF := hJ.1
  have e7 : nI (7 * k) + 7 = nI (7 * (k + 1)) := nI_add (7 * k) 7
  have x1 : hw_sx xs N (nI (7 * k) + (1 : Int32)) = some (xs (7 * k + 1)) := (congrArg (hw_sx xs N) (nI_add (7 * k) 1)).trans (hw_sxN (by omega) hN)
  have x2 : hw_sx xs N (nI (7 * k) + (2 : Int32)) = some (xs (7 * k + 2)) := (congrArg (hw_sx xs N) (nI_add (7 * k) 2)).trans (hw_sxN (by omega) hN)
  have x3 : hw_sx xs N (nI (7 * k) + (3 : Int32)) = some (xs (7 * k + 3)) := (congrArg (hw_sx xs N) (nI_add (7 * k) 3)).trans (hw_sxN (by omega) hN)
  unfold mL_b861 mL_b1292
  obtain ⟨r, σ1, τ, h1, h2, h3, h4⟩ := j_film hJ (xs (7 * k + 1)) (xs (7 * k + 2)) (xs (7 * k + 3))
  rw [x1, Option.bind_some, x2, Option.bind_some, x3, Option.bind_some, hw_V_0 hF, Option.bind_some, h1, hw_b2s, Option.bind_some, Option.bind_some, Option.bind_some, hw_V_41 h4, Option.bind_some, h2, hw_b2s, hw_ifr, e7]
  exact ⟨τ, rfl, h3⟩
theorem L_off {xs : Nat → Int32} {N k : Nat} (hk : 7 * k + 7 ≤ N) (hN : N ≤ 3584) {σ : hw_S} (hJ : hw_Jv σ) (k18 : Option Nat → Option Nat → Int32 → hw_S → Option (Int32 × hw_S)) : ∃ τ, mL_b904 xs N k18 (some 0) (some 41) (nI (7 * k)) σ = k18 (some 0) (some 41) (nI (7 * (k + 1))) τ ∧ hw_Jv τ := by
  have hF := hJ.1
  have e7 : nI (7 * k) + 7 = nI (7 * (k + 1)) := nI_add (7 * k) 7
  have x1 : hw_sx xs N (nI (7 * k) + (1 : Int32)) = some (xs (7 * k + 1)) := (congrArg (hw_sx xs N) (nI_add (7 * k) 1)).trans (hw_sxN (by omega) hN)
  unfold mL_b904 mL_b1292
  obtain ⟨r, τ, h1, h2, h3⟩ := j_off hJ (xs (7 * k + 1))
  rw [x1, Option.bind_some, hw_V_0 hF, Option.bind_some, h1, Option.bind_some, Option.bind_some, hw_V_41 hF, Option.bind_some, h2, hw_b2s, hw_ifr, e7]
  exact ⟨τ, rfl, h3⟩
theorem L_which {xs : Nat → Int32} {N k : Nat} (hk : 7 * k + 7 ≤ N) (hN : N ≤ 3584) {σ : hw_S} (hJ : hw_Jv σ) (k18 : Option Nat → Option Nat → Int32 → hw_S → Option (Int32 × hw_S)) : ∃ τ, mL_b927 xs N k18 (some 0) (some 41) (nI (7 * k)) σ = k18 (some 0) (some 41) (nI (7 * (k + 1))) τ ∧ hw_Jv τ := by
  have hF := hJ.1
  have e7 : nI (7 * k) + 7 = nI (7 * (k + 1)) := nI_add (7 * k) 7
  unfold mL_b927 mL_b1292
  obtain ⟨r, τ, h1, h2, h3⟩ := j_which hJ 
  rw [hw_V_0 hF, Option.bind_some, h1, Option.bind_some, hw_V_41 hF, Option.bind_some, h2, hw_b2s, hw_ifr, e7]
  exact ⟨τ, rfl, h3⟩
theorem L_fits {xs : Nat → Int32} {N k : Nat} (hk : 7 * k + 7 ≤ N) (hN : N ≤ 3584) {σ : hw_S} (hJ : hw_Jv σ) (k18 : Option Nat → Option Nat → Int32 → hw_S → Option (Int32 × hw_S)) : ∃ τ, mL_b940 xs N k18 (some 0) (some 41) (nI (7 * k)) σ = k18 (some 0) (some 41) (nI (7 * (k + 1))) τ ∧ hw_Jv τ := by
  have hF := hJ.1
  have e7 : nI (7 * k) + 7 = nI (7 * (k + 1)) := nI_add (7 * k) 7
  have x1 : hw_sx xs N (nI (7 * k) + (1 : Int32)) = some (xs (7 * k + 1)) := (congrArg (hw_sx xs N) (nI_add (7 * k) 1)).trans (hw_sxN (by omega) hN)
  have x2 : hw_sx xs N (nI (7 * k) + (2 : Int32)) = some (xs (7 * k + 2)) := (congrArg (hw_sx xs N) (nI_add (7 * k) 2)).trans (hw_sxN (by omega) hN)
  unfold mL_b940 mL_b1292
  obtain ⟨r, τ, h1, h2, h3⟩ := j_fits hJ (xs (7 * k + 1)) (xs (7 * k + 2))
  rw [x1, Option.bind_some, x2, Option.bind_some, hw_V_0 hF, Option.bind_some, h1, Option.bind_some, Option.bind_some, Option.bind_some, hw_V_41 hF, Option.bind_some, h2, hw_b2s, hw_ifr, e7]
  exact ⟨τ, rfl, h3⟩
theorem L_read {xs : Nat → Int32} {N k : Nat} (hk : 7 * k + 7 ≤ N) (hN : N ≤ 3584) {σ : hw_S} (hJ : hw_Jv σ) (k18 : Option Nat → Option Nat → Int32 → hw_S → Option (Int32 × hw_S)) : ∃ τ, mL_b973 xs N k18 (some 0) (some 41) (nI (7 * k)) σ = k18 (some 0) (some 41) (nI (7 * (k + 1))) τ ∧ hw_Jv τ := by
  have hF := hJ.1
  have e7 : nI (7 * k) + 7 = nI (7 * (k + 1)) := nI_add (7 * k) 7
  have x1 : hw_sx xs N (nI (7 * k) + (1 : Int32)) = some (xs (7 * k + 1)) := (congrArg (hw_sx xs N) (nI_add (7 * k) 1)).trans (hw_sxN (by omega) hN)
  have x2 : hw_sx xs N (nI (7 * k) + (2 : Int32)) = some (xs (7 * k + 2)) := (congrArg (hw_sx xs N) (nI_add (7 * k) 2)).trans (hw_sxN (by omega) hN)
  have x3 : hw_sx xs N (nI (7 * k) + (3 : Int32)) = some (xs (7 * k + 3)) := (congrArg (hw_sx xs N) (nI_add (7 * k) 3)).trans (hw_sxN (by omega) hN)
  have x4 : hw_sx xs N (nI (7 * k) + (4 : Int32)) = some (xs (7 * k + 4)) := (congrArg (hw_sx xs N) (nI_add (7 * k) 4)).trans (hw_sxN (by omega) hN)
  have x5 : hw_sx xs N (nI (7 * k) + (5 : Int32)) = some (xs (7 * k + 5)) := (congrArg (hw_sx xs N) (nI_add (7 * k) 5)).trans (hw_sxN (by omega) hN)
  have x6 : hw_sx xs N (nI (7 * k) + (6 : Int32)) = some (xs (7 * k + 6)) := (congrArg (hw_sx xs N) (nI_add (7 * k) 6)).trans (hw_sxN (by omega) hN)
  unfold mL_b973 mL_b1292
  obtain ⟨r, σ1, τ, h1, h2, h3, h4⟩ := j_read hJ (xs (7 * k + 1)) (xs (7 * k + 2)) (xs (7 * k + 3)) (xs (7 * k + 4)) (xs (7 * k + 5)) (xs (7 * k + 6))
  rw [x1, Option.bind_some, x2, Option.bind_some, x3, Option.bind_some, x4, Option.bind_some, x5, Option.bind_some, x6, Option.bind_some, hw_V_0 hF, Option.bind_some, h1, hw_b2s, Option.bind_some, Option.bind_some, Option.bind_some, Option.bind_some, Option.bind_some, Option.bind_some, hw_V_41 h4, Option.bind_some, h2, hw_b2s, hw_ifr, e7]
  exact ⟨τ, rfl, h3⟩
theorem L_next {xs : Nat → Int32} {N k : Nat} (hk : 7 * k + 7 ≤ N) (hN : N ≤ 3584) {σ : hw_S} (hJ : hw_Jv σ) (k18 : Option Nat → Option Nat → Int32 → hw_S → Option (Int32 × hw_S)) : ∃ τ, mL_b1048 xs N k18 (some 0) (some 41) (nI (7 * k)) σ = k18 (some 0) (some 41) (nI (7 * (k + 1))) τ ∧ hw_Jv τ := by
  have hF := hJ.1
  have e7 : nI (7 * k) + 7 = nI (7 * (k + 1)) := nI_add (7 * k) 7
  have x1 : hw_sx xs N (nI (7 * k) + (1 : Int32)) = some (xs (7 * k + 1)) := (congrArg (hw_sx xs N) (nI_add (7 * k) 1)).trans (hw_sxN (by omega) hN)
  have x2 : hw_sx xs N (nI (7 * k) + (2 : Int32)) = some (xs (7 * k + 2)) := (congrArg (hw_sx xs N) (nI_add (7 * k) 2)).trans (hw_sxN (by omega) hN)
  unfold mL_b1048 mL_b1292
  obtain ⟨r, τ, h1, h2, h3⟩ := j_next hJ (xs (7 * k + 1)) (xs (7 * k + 2))
  rw [x1, Option.bind_some, x2, Option.bind_some, hw_V_0 hF, Option.bind_some, h1, Option.bind_some, Option.bind_some, Option.bind_some, hw_V_41 hF, Option.bind_some, h2, hw_b2s, hw_ifr, e7]
  exact ⟨τ, rfl, h3⟩
theorem L_two {xs : Nat → Int32} {N k : Nat} (hk : 7 * k + 7 ≤ N) (hN : N ≤ 3584) {σ : hw_S} (hJ : hw_Jv σ) (k18 : Option Nat → Option Nat → Int32 → hw_S → Option (Int32 × hw_S)) : ∃ τ, mL_b1081 xs N k18 (some 0) (some 41) (nI (7 * k)) σ = k18 (some 0) (some 41) (nI (7 * (k + 1))) τ ∧ hw_Jv τ := by
  have hF := hJ.1
  have e7 : nI (7 * k) + 7 = nI (7 * (k + 1)) := nI_add (7 * k) 7
  have x1 : hw_sx xs N (nI (7 * k) + (1 : Int32)) = some (xs (7 * k + 1)) := (congrArg (hw_sx xs N) (nI_add (7 * k) 1)).trans (hw_sxN (by omega) hN)
  have x2 : hw_sx xs N (nI (7 * k) + (2 : Int32)) = some (xs (7 * k + 2)) := (congrArg (hw_sx xs N) (nI_add (7 * k) 2)).trans (hw_sxN (by omega) hN)
  have x3 : hw_sx xs N (nI (7 * k) + (3 : Int32)) = some (xs (7 * k + 3)) := (congrArg (hw_sx xs N) (nI_add (7 * k) 3)).trans (hw_sxN (by omega) hN)
  have x4 : hw_sx xs N (nI (7 * k) + (4 : Int32)) = some (xs (7 * k + 4)) := (congrArg (hw_sx xs N) (nI_add (7 * k) 4)).trans (hw_sxN (by omega) hN)
  have x5 : hw_sx xs N (nI (7 * k) + (5 : Int32)) = some (xs (7 * k + 5)) := (congrArg (hw_sx xs N) (nI_add (7 * k) 5)).trans (hw_sxN (by omega) hN)
  unfold mL_b1081 mL_b1292
  obtain ⟨r, τ, h1, h2, h3⟩ := j_two hJ (xs (7 * k + 1)) (xs (7 * k + 2)) (xs (7 * k + 3)) (xs (7 * k + 4)) (xs (7 * k + 5))
  rw [x1, Option.bind_some, x2, Option.bind_some, x3, Option.bind_some, x4, Option.bind_some, x5, Option.bind_some, hw_V_0 hF, Option.bind_some, h1, Option.bind_some, Option.bind_some, Option.bind_some, Option.bind_some, Option.bind_some, Option.bind_some, hw_V_41 hF, Option.bind_some, h2, hw_b2s, hw_ifr, e7]
  exact ⟨τ, rfl, h3⟩
theorem L_act {xs : Nat → Int32} {N k : Nat} (hk : 7 * k + 7 ≤ N) (hN : N ≤ 3584) {σ : hw_S} (hJ : hw_Jv σ) (k18 : Option Nat → Option Nat → Int32 → hw_S → Option (Int32 × hw_S)) : ∃ τ, mL_b1144 xs N k18 (some 0) (some 41) (nI (7 * k)) σ = k18 (some 0) (some 41) (nI (7 * (k + 1))) τ ∧ hw_Jv τ := by
  have hF := hJ.1
  have e7 : nI (7 * k) + 7 = nI (7 * (k + 1)) := nI_add (7 * k) 7
  have x1 : hw_sx xs N (nI (7 * k) + (1 : Int32)) = some (xs (7 * k + 1)) := (congrArg (hw_sx xs N) (nI_add (7 * k) 1)).trans (hw_sxN (by omega) hN)
  have x2 : hw_sx xs N (nI (7 * k) + (2 : Int32)) = some (xs (7 * k + 2)) := (congrArg (hw_sx xs N) (nI_add (7 * k) 2)).trans (hw_sxN (by omega) hN)
  have x3 : hw_sx xs N (nI (7 * k) + (3 : Int32)) = some (xs (7 * k + 3)) := (congrArg (hw_sx xs N) (nI_add (7 * k) 3)).trans (hw_sxN (by omega) hN)
  unfold mL_b1144 mL_b1292
  obtain ⟨r, σ1, τ, h1, h2, h3, h4⟩ := j_act hJ (xs (7 * k + 1)) (xs (7 * k + 2)) (xs (7 * k + 3))
  rw [x1, Option.bind_some, x2, Option.bind_some, x3, Option.bind_some, hw_V_0 hF, Option.bind_some, h1, hw_b2s, Option.bind_some, Option.bind_some, Option.bind_some, hw_V_41 h4, Option.bind_some, h2, hw_b2s, hw_ifr, e7]
  exact ⟨τ, rfl, h3⟩
theorem L_trace {xs : Nat → Int32} {N k : Nat} (hk : 7 * k + 7 ≤ N) (hN : N ≤ 3584) {σ : hw_S} (hJ : hw_Jv σ) (k18 : Option Nat → Option Nat → Int32 → hw_S → Option (Int32 × hw_S)) : ∃ τ, mL_b1187 xs N k18 (some 0) (some 41) (nI (7 * k)) σ = k18 (some 0) (some 41) (nI (7 * (k + 1))) τ ∧ hw_Jv τ := by
  have hF := hJ.1
  have e7 : nI (7 * k) + 7 = nI (7 * (k + 1)) := nI_add (7 * k) 7
  have x1 : hw_sx xs N (nI (7 * k) + (1 : Int32)) = some (xs (7 * k + 1)) := (congrArg (hw_sx xs N) (nI_add (7 * k) 1)).trans (hw_sxN (by omega) hN)
  unfold mL_b1187 mL_b1292
  obtain ⟨r, h1, h2⟩ := j_trace hJ (xs (7 * k + 1))
  rw [x1, Option.bind_some, hw_V_0 hF, Option.bind_some, h1, Option.bind_some, Option.bind_some, hw_V_41 hF, Option.bind_some, h2, Option.bind_some, hw_ifr, e7]
  exact ⟨σ, rfl, hJ⟩
theorem L_as {xs : Nat → Int32} {N k : Nat} (hk : 7 * k + 7 ≤ N) (hN : N ≤ 3584) {σ : hw_S} (hJ : hw_Jv σ) (k18 : Option Nat → Option Nat → Int32 → hw_S → Option (Int32 × hw_S)) : ∃ τ, mL_b1210 xs N k18 (some 0) (some 41) (nI (7 * k)) σ = k18 (some 0) (some 41) (nI (7 * (k + 1))) τ ∧ hw_Jv τ := by
  have hF := hJ.1
  have e7 : nI (7 * k) + 7 = nI (7 * (k + 1)) := nI_add (7 * k) 7
  have x1 : hw_sx xs N (nI (7 * k) + (1 : Int32)) = some (xs (7 * k + 1)) := (congrArg (hw_sx xs N) (nI_add (7 * k) 1)).trans (hw_sxN (by omega) hN)
  have x2 : hw_sx xs N (nI (7 * k) + (2 : Int32)) = some (xs (7 * k + 2)) := (congrArg (hw_sx xs N) (nI_add (7 * k) 2)).trans (hw_sxN (by omega) hN)
  unfold mL_b1210 mL_b1292
  obtain ⟨r, h1, h2⟩ := j_as hJ (xs (7 * k + 1)) (xs (7 * k + 2))
  rw [x1, Option.bind_some, x2, Option.bind_some, hw_V_0 hF, Option.bind_some, h1, Option.bind_some, Option.bind_some, Option.bind_some, hw_V_41 hF, Option.bind_some, h2, Option.bind_some, hw_ifr, e7]
  exact ⟨σ, rfl, hJ⟩
theorem L_image {xs : Nat → Int32} {N k : Nat} (hk : 7 * k + 7 ≤ N) (hN : N ≤ 3584) {σ : hw_S} (hJ : hw_Jv σ) (k18 : Option Nat → Option Nat → Int32 → hw_S → Option (Int32 × hw_S)) : ∃ τ, mL_b1243 xs N k18 (some 0) (some 41) (nI (7 * k)) σ = k18 (some 0) (some 41) (nI (7 * (k + 1))) τ ∧ hw_Jv τ := by
  have hF := hJ.1
  have e7 : nI (7 * k) + 7 = nI (7 * (k + 1)) := nI_add (7 * k) 7
  unfold mL_b1243 mL_b1292
  obtain ⟨r, σ1, τ, h1, h2, h3, h4⟩ := j_image hJ 
  rw [hw_V_0 hF, Option.bind_some, h1, hw_b2s, hw_V_41 h4, Option.bind_some, h2, hw_b2s, hw_ifr, e7]
  exact ⟨τ, rfl, h3⟩
theorem L_undo {xs : Nat → Int32} {N k : Nat} (hk : 7 * k + 7 ≤ N) (hN : N ≤ 3584) {σ : hw_S} (hJ : hw_Jv σ) (k18 : Option Nat → Option Nat → Int32 → hw_S → Option (Int32 × hw_S)) : ∃ τ, mL_b1256 xs N k18 (some 0) (some 41) (nI (7 * k)) σ = k18 (some 0) (some 41) (nI (7 * (k + 1))) τ ∧ hw_Jv τ := by
  have hF := hJ.1
  have e7 : nI (7 * k) + 7 = nI (7 * (k + 1)) := nI_add (7 * k) 7
  unfold mL_b1256 mL_b1292
  obtain ⟨r, σ1, τ, h1, h2, h3, h4⟩ := j_undo hJ 
  rw [hw_V_0 hF, Option.bind_some, h1, hw_b2s, hw_V_41 h4, Option.bind_some, h2, hw_b2s, hw_ifr, e7]
  exact ⟨τ, rfl, h3⟩
theorem L_count {xs : Nat → Int32} {N k : Nat} (hk : 7 * k + 7 ≤ N) (hN : N ≤ 3584) {σ : hw_S} (hJ : hw_Jv σ) (k18 : Option Nat → Option Nat → Int32 → hw_S → Option (Int32 × hw_S)) : ∃ τ, mL_b1269 xs N k18 (some 0) (some 41) (nI (7 * k)) σ = k18 (some 0) (some 41) (nI (7 * (k + 1))) τ ∧ hw_Jv τ := by
  have hF := hJ.1
  have e7 : nI (7 * k) + 7 = nI (7 * (k + 1)) := nI_add (7 * k) 7
  have x1 : hw_sx xs N (nI (7 * k) + (1 : Int32)) = some (xs (7 * k + 1)) := (congrArg (hw_sx xs N) (nI_add (7 * k) 1)).trans (hw_sxN (by omega) hN)
  unfold mL_b1269 mL_b1292
  obtain ⟨r, h1, h2⟩ := j_count hJ (xs (7 * k + 1))
  rw [x1, Option.bind_some, hw_V_0 hF, Option.bind_some, h1, Option.bind_some, Option.bind_some, hw_V_41 hF, Option.bind_some, h2, Option.bind_some, hw_ifr, e7]
  exact ⟨σ, rfl, hJ⟩
theorem mL_loop {xs : Nat → Int32} {N : Nat} (hN : N ≤ 3584) : ∀ d k fuel σ, k + d = N / 7 → d < fuel → hw_Jv σ → ∃ τ, mL_b18 xs N fuel (some 0) (some 41) (nI (7 * k)) σ = some (1, τ) := by
  intro d
  induction d with
  | zero =>
    intro k fuel σ e hf hJ
    obtain ⟨fuel, rfl⟩ : ∃ k, fuel = k + 1 := ⟨fuel - 1, by omega⟩
    have lt : (Int32.ofNat N) - (7 : Int32) < nI (7 * k) := by
      show nI N - nI 7 < nI (7 * k)
      rw [iI_nI, iI_nI, iI_nI, iI_sub, iI_lt (by omega) (by omega) (by omega) (by omega)]
      omega
    exact ⟨σ, by rw [mL_b18, if_pos lt]⟩
  | succ d ih =>
    intro k fuel σ e hf hJ
    obtain ⟨fuel, rfl⟩ : ∃ k, fuel = k + 1 := ⟨fuel - 1, by omega⟩
    have hk : 7 * k + 7 ≤ N := by omega
    have lt : ¬ (Int32.ofNat N) - (7 : Int32) < nI (7 * k) := by
      show ¬ nI N - nI 7 < nI (7 * k)
      rw [iI_nI, iI_nI, iI_nI, iI_sub, iI_lt (by omega) (by omega) (by omega) (by omega)]
      omega
    have go : ∀ τ, hw_Jv τ → ∃ υ, mL_b18 xs N fuel (some 0) (some 41) (nI (7 * (k + 1))) τ = some (1, υ) := fun τ h => ih (k + 1) fuel τ (by omega) (by omega) h
    rw [mL_b18, if_neg lt, hw_sxN (show 7 * k < N by omega) hN, Option.bind_some]
    generalize xs (7 * k) &&& (31 : Int32) = c
    by_cases h0 : c = 0
    · rw [if_pos h0]
      obtain ⟨τ, t1, t2⟩ := L_stuff hk hN hJ (mL_b18 xs N fuel)
      rw [t1]
      exact go τ t2
    rw [if_neg h0]
    by_cases h1 : c = 1
    · rw [if_pos h1]
      obtain ⟨τ, t1, t2⟩ := L_of hk hN hJ (mL_b18 xs N fuel)
      rw [t1]
      exact go τ t2
    rw [if_neg h1]
    by_cases h2 : c = 2
    · rw [if_pos h2]
      obtain ⟨τ, t1, t2⟩ := L_feed hk hN hJ (mL_b18 xs N fuel)
      rw [t1]
      exact go τ t2
    rw [if_neg h2]
    by_cases h3 : c = 3
    · rw [if_pos h3]
      obtain ⟨τ, t1, t2⟩ := L_law hk hN hJ (mL_b18 xs N fuel)
      rw [t1]
      exact go τ t2
    rw [if_neg h3]
    by_cases h4 : c = 4
    · rw [if_pos h4]
      obtain ⟨τ, t1, t2⟩ := L_told hk hN hJ (mL_b18 xs N fuel)
      rw [t1]
      exact go τ t2
    rw [if_neg h4]
    by_cases h5 : c = 5
    · rw [if_pos h5]
      obtain ⟨τ, t1, t2⟩ := L_winds hk hN hJ (mL_b18 xs N fuel)
      rw [t1]
      exact go τ t2
    rw [if_neg h5]
    by_cases h6 : c = 6
    · rw [if_pos h6]
      obtain ⟨τ, t1, t2⟩ := L_tick hk hN hJ (mL_b18 xs N fuel)
      rw [t1]
      exact go τ t2
    rw [if_neg h6]
    by_cases h7 : c = 7
    · rw [if_pos h7]
      obtain ⟨τ, t1, t2⟩ := L_run hk hN hJ (mL_b18 xs N fuel)
      rw [t1]
      exact go τ t2
    rw [if_neg h7]
    by_cases h8 : c = 8
    · rw [if_pos h8]
      obtain ⟨τ, t1, t2⟩ := L_curve hk hN hJ (mL_b18 xs N fuel)
      rw [t1]
      exact go τ t2
    rw [if_neg h8]
    by_cases h9 : c = 9
    · rw [if_pos h9]
      obtain ⟨τ, t1, t2⟩ := L_jumps hk hN hJ (mL_b18 xs N fuel)
      rw [t1]
      exact go τ t2
    rw [if_neg h9]
    by_cases h10 : c = 10
    · rw [if_pos h10]
      obtain ⟨τ, t1, t2⟩ := L_several hk hN hJ (mL_b18 xs N fuel)
      rw [t1]
      exact go τ t2
    rw [if_neg h10]
    by_cases h11 : c = 11
    · rw [if_pos h11]
      obtain ⟨τ, t1, t2⟩ := L_order hk hN hJ (mL_b18 xs N fuel)
      rw [t1]
      exact go τ t2
    rw [if_neg h11]
    by_cases h12 : c = 12
    · rw [if_pos h12]
      obtain ⟨τ, t1, t2⟩ := L_want hk hN hJ (mL_b18 xs N fuel)
      rw [t1]
      exact go τ t2
    rw [if_neg h12]
    by_cases h13 : c = 13
    · rw [if_pos h13]
      obtain ⟨τ, t1, t2⟩ := L_found hk hN hJ (mL_b18 xs N fuel)
      rw [t1]
      exact go τ t2
    rw [if_neg h13]
    by_cases h14 : c = 14
    · rw [if_pos h14]
      obtain ⟨τ, t1, t2⟩ := L_bears hk hN hJ (mL_b18 xs N fuel)
      rw [t1]
      exact go τ t2
    rw [if_neg h14]
    by_cases h15 : c = 15
    · rw [if_pos h15]
      obtain ⟨τ, t1, t2⟩ := L_film hk hN hJ (mL_b18 xs N fuel)
      rw [t1]
      exact go τ t2
    rw [if_neg h15]
    by_cases h16 : c = 16
    · rw [if_pos h16]
      obtain ⟨τ, t1, t2⟩ := L_off hk hN hJ (mL_b18 xs N fuel)
      rw [t1]
      exact go τ t2
    rw [if_neg h16]
    by_cases h17 : c = 17
    · rw [if_pos h17]
      obtain ⟨τ, t1, t2⟩ := L_which hk hN hJ (mL_b18 xs N fuel)
      rw [t1]
      exact go τ t2
    rw [if_neg h17]
    by_cases h18 : c = 18
    · rw [if_pos h18]
      obtain ⟨τ, t1, t2⟩ := L_fits hk hN hJ (mL_b18 xs N fuel)
      rw [t1]
      exact go τ t2
    rw [if_neg h18]
    by_cases h19 : c = 19
    · rw [if_pos h19]
      obtain ⟨τ, t1, t2⟩ := L_read hk hN hJ (mL_b18 xs N fuel)
      rw [t1]
      exact go τ t2
    rw [if_neg h19]
    by_cases h20 : c = 20
    · rw [if_pos h20]
      obtain ⟨τ, t1, t2⟩ := L_next hk hN hJ (mL_b18 xs N fuel)
      rw [t1]
      exact go τ t2
    rw [if_neg h20]
    by_cases h21 : c = 21
    · rw [if_pos h21]
      obtain ⟨τ, t1, t2⟩ := L_two hk hN hJ (mL_b18 xs N fuel)
      rw [t1]
      exact go τ t2
    rw [if_neg h21]
    by_cases h22 : c = 22
    · rw [if_pos h22]
      obtain ⟨τ, t1, t2⟩ := L_act hk hN hJ (mL_b18 xs N fuel)
      rw [t1]
      exact go τ t2
    rw [if_neg h22]
    by_cases h23 : c = 23
    · rw [if_pos h23]
      obtain ⟨τ, t1, t2⟩ := L_trace hk hN hJ (mL_b18 xs N fuel)
      rw [t1]
      exact go τ t2
    rw [if_neg h23]
    by_cases h24 : c = 24
    · rw [if_pos h24]
      obtain ⟨τ, t1, t2⟩ := L_as hk hN hJ (mL_b18 xs N fuel)
      rw [t1]
      exact go τ t2
    rw [if_neg h24]
    by_cases h25 : c = 25
    · rw [if_pos h25]
      obtain ⟨τ, t1, t2⟩ := L_image hk hN hJ (mL_b18 xs N fuel)
      rw [t1]
      exact go τ t2
    rw [if_neg h25]
    by_cases h26 : c = 26
    · rw [if_pos h26]
      obtain ⟨τ, t1, t2⟩ := L_undo hk hN hJ (mL_b18 xs N fuel)
      rw [t1]
      exact go τ t2
    rw [if_neg h26]
    by_cases h27 : c = 27
    · rw [if_pos h27]
      obtain ⟨τ, t1, t2⟩ := L_count hk hN hJ (mL_b18 xs N fuel)
      rw [t1]
      exact go τ t2
    rw [if_neg h27]
    unfold mL_b1292
    rw [show nI (7 * k) + 7 = nI (7 * (k + 1)) from nI_add (7 * k) 7]
    exact go σ hJ
theorem mL_ok (xs : Nat → Int32) (N : Nat) (hN : N ≤ 3584) : ∃ τ, mL xs N hw_s0 = some (1, τ) := by
  obtain ⟨σ, h1, h2⟩ := hw_mI_e
  have e : mL xs N hw_s0 = hw_b2 (hw_nwO 12 0 hw_s0) fun v0 σ0 => (m11_init v0 σ0).bind fun σ4 => hw_b2 (hw_nwO 13 0 σ4) fun v8 σ8 => (m12_init v8 σ8).bind fun σ12 => mL_b18 xs N 513 (some v0) (some v8) (0 : Int32) σ12 := rfl
  have g : mL xs N hw_s0 = mL_b18 xs N 513 (some 0) (some 41) (0 : Int32) σ := by
    rw [e]
    unfold hw_mI at h1
    cases e0 : hw_nwO 12 0 hw_s0 with
    | none => rw [e0] at h1; cases h1
    | some q0 =>
      rw [e0] at h1
      obtain ⟨v0, σ0⟩ := q0
      rw [hw_b2s] at h1 ⊢
      cases e1 : m11_init v0 σ0 with
      | none => rw [e1] at h1; cases h1
      | some σ4 =>
        rw [e1, Option.bind_some] at h1
        rw [Option.bind_some]
        cases e2 : hw_nwO 13 0 σ4 with
        | none => rw [e2] at h1; cases h1
        | some q8 =>
          rw [e2] at h1
          obtain ⟨v8, σ8⟩ := q8
          rw [hw_b2s] at h1 ⊢
          cases e3 : m12_init v8 σ8 with
          | none => rw [e3] at h1; cases h1
          | some σ12 =>
            rw [e3, Option.bind_some] at h1
            rw [Option.bind_some]
            have a := Option.some.inj h1
            have a1 : v0 = 0 := congrArg Prod.fst a
            have a2 : v8 = 41 := congrArg (fun q => q.2.1) a
            have a3 : σ12 = σ := congrArg (fun q => q.2.2) a
            rw [a1, a2, a3]
  obtain ⟨τ, t⟩ := mL_loop (xs := xs) hN (N / 7) 0 513 σ (by omega) (by omega) (hw_ckI_J h2)
  exact ⟨τ, g.trans t⟩
