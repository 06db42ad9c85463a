/-! the pure layer: the start -/
def hw_s0 : hw_S := ((fun _ => 0), (fun _ => 0), (fun _ _ => 0), (fun _ _ => none), 0)
def hw_mI : Option (Nat × Nat × hw_S) :=
  hw_b2 (hw_nwO 12 0 hw_s0) fun v0 σ0 =>
  (m11_init v0 σ0).bind fun σ4 =>
  hw_b2 (hw_nwO 13 0 σ4) fun v8 σ8 =>
  (m12_init v8 σ8).bind fun σ12 => some (v0, v8, σ12)
def hw_ckI (σ : hw_S) : Bool :=
  ((List.range 55).all fun a => σ.1 a == hw_TG.getD a 0) && ((List.range 55).all fun a => σ.2.1 a == hw_LN.getD a 0) && (hw_PT.all fun q => σ.2.2.2.1 q.1 q.2.1 == some q.2.2) && σ.2.2.2.2 == 55 &&
  (([(1, 1), (1, 3), (1, 5), (1, 7), (1, 9), (1, 13), (42, 0), (42, 1), (42, 2), (42, 3), (42, 4), (42, 5), (0, 2), (41, 3), (23, 1), (41, 22)] : List (Nat × Nat)).all fun q => σ.2.2.1 q.1 q.2 == 0) &&
  ((List.range 8).all fun i => σ.2.2.2.1 2 i == none && σ.2.2.2.1 3 i == none && σ.2.2.2.1 11 i == none && σ.2.2.2.1 12 i == none)
set_option maxRecDepth 20000 in
theorem hw_mI_ok : (match hw_mI with
  | some (a, b, σ) => a == 0 && b == 41 && hw_ckI σ
  | none => false) = true := by decide +kernel
theorem hw_mI_e : ∃ σ, hw_mI = some (0, 41, σ) ∧ hw_ckI σ = true := by
  have h := hw_mI_ok
  cases he : hw_mI with
  | none => rw [he] at h; cases h
  | some q =>
    obtain ⟨a, b, σ⟩ := q
    rw [he] at h
    have h : (a == 0 && b == 41 && hw_ckI σ) = true := h
    simp only [Bool.and_eq_true, beq_iff_eq] at h
    obtain ⟨⟨rfl, rfl⟩, h⟩ := h
    exact ⟨σ, rfl, h⟩
theorem hw_ckI_J {σ : hw_S} (h : hw_ckI σ = true) : hw_Jv σ := by
  unfold hw_ckI at h
  simp only [Bool.and_eq_true, List.all_eq_true, beq_iff_eq, List.mem_range] at h
  obtain ⟨⟨⟨⟨⟨h1, h2⟩, h3⟩, h4⟩, h5⟩, h6⟩ := h
  have n : ∀ q : Nat × Nat, q ∈ ([(1, 1), (1, 3), (1, 5), (1, 7), (1, 9), (1, 13), (42, 0), (42, 1), (42, 2), (42, 3), (42, 4), (42, 5), (0, 2), (41, 3), (23, 1), (41, 22)] : List (Nat × Nat)) → σ.2.2.1 q.1 q.2 = 0 := h5
  refine ⟨⟨h1, h2, h3, by rw [h4]; exact Nat.le_refl 55⟩, ⟨fun i hi a ha => ?_, fun i hi a ha => ?_⟩, ⟨fun i hi a ha => ?_, fun i hi a ha => ?_⟩, ⟨0, 0, 0, 0, 0, 0, ⟨by decide, by decide, by decide, by decide, by decide, by decide⟩, ⟨n (42, 0) (by decide), n (42, 1) (by decide), n (42, 2) (by decide), n (42, 3) (by decide), n (42, 4) (by decide), n (42, 5) (by decide)⟩, ⟨n (1, 1) (by decide), n (1, 3) (by decide), n (1, 13) (by decide), n (1, 7) (by decide), n (1, 9) (by decide), n (1, 5) (by decide)⟩, fun i hi => absurd hi (Nat.not_lt_zero i), fun i hi => absurd hi (Nat.not_lt_zero i), fun i hi => absurd hi (Nat.not_lt_zero i), fun i hi => absurd hi (Nat.not_lt_zero i), fun i hi => absurd hi (Nat.not_lt_zero i), fun i hi => absurd hi (Nat.not_lt_zero i)⟩, Or.inl ⟨n (0, 2) (by decide), n (41, 3) (by decide)⟩, 0, by decide, n (23, 1) (by decide), n (41, 22) (by decide), fun i hi => absurd hi (Nat.not_lt_zero i)⟩
  · have e := (h6 i (by omega)).1.1.1
    have ha : σ.2.2.2.1 2 i = some a := ha
    rw [e] at ha; cases ha
  · have e := (h6 i (by omega)).1.1.2
    have ha : σ.2.2.2.1 3 i = some a := ha
    rw [e] at ha; cases ha
  · have e := (h6 i (by omega)).1.2
    have ha : σ.2.2.2.1 11 i = some a := ha
    rw [e] at ha; cases ha
  · have e := (h6 i (by omega)).2
    have ha : σ.2.2.2.1 12 i = some a := ha
    rw [e] at ha; cases ha
