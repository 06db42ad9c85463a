/-! the pure layer: tick, want, film -/
/-- the parts of hw_rel, where only numbers at the places A have changed -/
theorem rel_d {A : Nat → Nat → Prop} {σ τ : hw_S} {c0 c1 c2 c3 c4 c5 d0 d1 d2 d3 d4 d5 : Nat} (h : hw_d A σ τ) (hA : ∀ a k, A a k → a < 55) (hr : hw_rel σ 1 (σ.2.2.1 42) c0 c1 c2 c3 c4 c5) (n0 : ∀ k, A 42 k → k < 10 → (k = 2 ∨ k = 3 ∨ k = 4 ∨ k = 5)) (n1 : ∀ k, A 42 k → k < 130 ∨ 1332 ≤ k) (n2 : ∀ k, A 1 k → k ≠ 1 ∧ k ≠ 3)
    (e0 : d0 = c0) (e1 : d1 = c1) (b2 : d2 ≤ 12) (b3 : d3 ≤ 20) (b4 : d4 ≤ 8) (b5 : d5 ≤ 120) (w2 : τ.2.2.1 42 2 = nI d2) (w3 : τ.2.2.1 42 3 = nI d3) (w4 : τ.2.2.1 42 4 = nI d4) (w5 : τ.2.2.1 42 5 = nI d5) (s2 : τ.2.2.1 1 13 = nI d2) (s3 : τ.2.2.1 1 7 = nI d3) (s4 : τ.2.2.1 1 9 = nI d4) (s5 : τ.2.2.1 1 5 = nI d5)
    (r6 : ∀ i, i < d5 → τ.2.2.1 4 i = τ.2.2.1 42 (10 + i) ∧ ∃ q : Nat, q < 256 ∧ τ.2.2.1 42 (10 + i) = nI q)
    (r7 : ∀ i, i < d3 → τ.2.2.1 5 i = τ.2.2.1 42 (1332 + i) ∧ hw_dok (τ.2.2.1 42 (1332 + i)))
    (r8 : ∀ i, i < d4 → τ.2.2.1 6 i = τ.2.2.1 42 (1352 + i) ∧ ∃ q : Nat, q ≤ 4 ∧ τ.2.2.1 42 (1352 + i) = nI q)
    (r9 : ∀ i, i < d2 → τ.2.2.1 7 i = τ.2.2.1 42 (1360 + i) ∧ τ.2.2.1 8 i = τ.2.2.1 42 (1372 + i) ∧ τ.2.2.1 9 i = τ.2.2.1 42 (1384 + i) ∧ (∃ q : Nat, q < c0 ∧ τ.2.2.1 42 (1360 + i) = nI q) ∧ hw_dok (τ.2.2.1 42 (1372 + i)) ∧ ∃ q : Nat, q ≤ 999 ∧ τ.2.2.1 42 (1384 + i) = nI q) : hw_R0 τ 1 (τ.2.2.1 42) := by
  subst e0; subst e1
  obtain ⟨⟨b0, b1, -, -, -, -⟩, ⟨w0, w1, -, -, -, -⟩, ⟨s0, s1, -, -, -, -⟩, r4, r5, -, -, -, -⟩ := hr
  have hk := h.k hA
  refine ⟨d0, d1, d2, d3, d4, d5, ⟨b0, b1, b2, b3, b4, b5⟩, ⟨?_, ?_, w2, w3, w4, w5⟩, ⟨?_, ?_, s2, s3, s4, s5⟩, ?_, ?_, r6, r7, r8, r9⟩
  · rw [h.2.2.2 42 0 (fun c => by have := n0 0 c (by decide); omega)]; exact w0
  · rw [h.2.2.2 42 1 (fun c => by have := n0 1 c (by decide); omega)]; exact w1
  · rw [h.2.2.2 1 1 (fun c => absurd rfl (n2 1 c).1)]; exact s0
  · rw [h.2.2.2 1 3 (fun c => absurd rfl (n2 3 c).2)]; exact s1
  · exact k4_sf hk (fun i hi => ⟨by rw [h.2.2.1], h.2.2.2 42 _ (fun c => by have := n1 _ c; omega), h.2.2.2 42 _ (fun c => by have := n1 _ c; omega)⟩) r4
  · exact k5_lw hk (fun i hi => ⟨by rw [h.2.2.1], fun k hk => h.2.2.2 42 k (fun c => by have := n1 _ c; unfold hw_il at hk; omega)⟩) r5
