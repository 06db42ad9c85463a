/-! the pure layer: feed -/
theorem fb_bv (b : BitVec 64) (s : Nat) (hs : s ≤ 56) : ((b >>> s).signExtend 32 &&& 255#32) = ((b.sshiftRight s &&& 255#64).signExtend 32) := by
  apply BitVec.eq_of_getLsbD_eq
  intro j hj
  have a1 : (255#32).getLsbD j = decide (j < 8) := (show ∀ j, j < 32 → (255#32).getLsbD j = decide (j < 8) by decide +kernel) j hj
  have a2 : (255#64).getLsbD j = decide (j < 8) := (show ∀ j, j < 32 → (255#64).getLsbD j = decide (j < 8) by decide +kernel) j hj
  have h64 : j < 64 := by omega
  rw [BitVec.getLsbD_and, BitVec.getLsbD_signExtend, BitVec.getLsbD_signExtend, BitVec.getLsbD_and, BitVec.getLsbD_ushiftRight, BitVec.getLsbD_sshiftRight, a1, a2, if_pos h64, if_pos h64]
  by_cases h8 : j < 8
  · rw [if_pos (show s + j < 64 by omega)]
    simp [h8, hj, h64]
  · simp [h8]
theorem fb_cu : ∀ k, k < 64 → ((nI k).toInt64.toUInt64 &&& Int64.toUInt64 63) = UInt64.ofNat k := by decide +kernel
theorem fb_cs : ∀ k, k < 64 → (((nI k).toInt64 &&& 63).toBitVec.smod 64).toNat = k := by decide +kernel
theorem fb_c1 (l1 : Int64) {k : Nat} (hk : k < 64) : (Int64.toUInt64 l1 >>> UInt64.ofNat k).toInt64.toBitVec = l1.toBitVec >>> k := by
  apply BitVec.eq_of_toNat_eq
  show (l1.toUInt64 >>> UInt64.ofNat k).toNat = _
  rw [UInt64.toNat_shiftRight, BitVec.toNat_ushiftRight, UInt64.toNat_ofNat', show k % 2 ^ 64 % 64 = k by omega]
  rfl
theorem fb_c2 (l1 : Int64) {k : Nat} (hk : k < 64) : (l1 >>> ((nI k).toInt64 &&& 63)).toBitVec = l1.toBitVec.sshiftRight k := by
  show l1.toBitVec.sshiftRight (((nI k).toInt64 &&& 63).toBitVec.smod 64).toNat = _
  rw [fb_cs k hk]
/-- the byte that feed takes at a place, by class and by model -/
def fb_c (l1 : Int64) (i : Nat) : Int32 := (Int64.toInt32 ((Int64.toUInt64 l1 >>> ((Int32.toInt64 ((8 : Int32) * nI i)).toUInt64 &&& Int64.toUInt64 63)).toInt64)) &&& (255 : Int32)
theorem fb_e (l1 : Int64) {i : Nat} (hi : i < 8) : Int64.toInt32 ((l1 >>> ((Int32.toInt64 ((8 : Int32) * nI i)) &&& 63)) &&& (255 : Int64)) = fb_c l1 i := by
  unfold fb_c
  rw [show (8 : Int32) * nI i = nI (8 * i) from nI_mul 8 i, fb_cu (8 * i) (by omega)]
  apply Int32.toBitVec_inj.1
  rw [Int64.toBitVec_toInt32, Int64.toBitVec_and, fb_c2 l1 (by omega), Int32.toBitVec_and, Int64.toBitVec_toInt32, fb_c1 l1 (by omega)]
  exact (fb_bv l1.toBitVec (8 * i) (by omega)).symm
theorem fb_q (l1 : Int64) (i : Nat) : ∃ q : Nat, q < 256 ∧ fb_c l1 i = nI q := pk_andE _ 8 (by decide +kernel)
theorem hw_mm (m : Nat) : nI m + (-1) = nI m - (1 : Int32) := (Int32.sub_eq_add_neg _ _).symm
def hw_afd (a k : Nat) : Prop := (a = 1 ∧ k = 5) ∨ a = 4 ∨ (a = 42 ∧ (k = 5 ∨ (10 ≤ k ∧ k < 130)))
theorem rel_fd {σ τ : hw_S} {c0 c1 c2 c3 c4 c5 d5 : Nat} (h : hw_d hw_afd σ τ) (hr : hw_rel σ 1 (σ.2.2.1 42) c0 c1 c2 c3 c4 c5) (b5 : d5 ≤ 120) (w5 : τ.2.2.1 42 5 = nI d5) (s5 : τ.2.2.1 1 5 = nI d5) (r6 : ∀ i, i < d5 → τ.2.2.1 4 i = τ.2.2.1 42 (10 + i) ∧ ∃ q : Nat, q < 256 ∧ τ.2.2.1 42 (10 + i) = nI q) : hw_R0 τ 1 (τ.2.2.1 42) := by
  obtain ⟨⟨-, -, g2, g3, g4, -⟩, ⟨-, -, w2, w3, w4, -⟩, ⟨-, -, s2, s3, s4, -⟩, -, -, -, r7, r8, r9⟩ := id hr
  have K : ∀ a k, ¬ hw_afd a k → τ.2.2.1 a k = σ.2.2.1 a k := h.2.2.2
  refine rel_d h (fun a k c => by unfold hw_afd at c; omega) hr (fun k c => by unfold hw_afd at c; omega) (fun k c => by unfold hw_afd at c; omega) (fun k c => by unfold hw_afd at c; omega) rfl rfl g2 g3 g4 b5 ((K 42 2 (by unfold hw_afd; omega)).trans w2) ((K 42 3 (by unfold hw_afd; omega)).trans w3) ((K 42 4 (by unfold hw_afd; omega)).trans w4) w5 ((K 1 13 (by unfold hw_afd; omega)).trans s2) ((K 1 7 (by unfold hw_afd; omega)).trans s3) ((K 1 9 (by unfold hw_afd; omega)).trans s4) s5 r6 (fun i hi => ?_) (fun i hi => ?_) (fun i hi => ?_)
  · rw [K 5 i (by unfold hw_afd; omega), K 42 (1332 + i) (by unfold hw_afd; omega)]; exact r7 i hi
  · rw [K 6 i (by unfold hw_afd; omega), K 42 (1352 + i) (by unfold hw_afd; omega)]; exact r8 i hi
  · rw [K 7 i (by unfold hw_afd; omega), K 8 i (by unfold hw_afd; omega), K 9 i (by unfold hw_afd; omega), K 42 (1360 + i) (by unfold hw_afd; omega), K 42 (1372 + i) (by unfold hw_afd; omega), K 42 (1384 + i) (by unfold hw_afd; omega)]; exact r9 i hi
def hw_afc (a k : Nat) : Prop := (a = 1 ∧ k = 5) ∨ a = 4
def hw_afr (a k : Nat) : Prop := a = 42 ∧ (k = 5 ∨ (10 ≤ k ∧ k < 130))
theorem c_feed {l1 : Int64} {c5 n : Nat} (hn8 : n ≤ 8) (hb : c5 + n ≤ 120) : ∀ m j fuel σ, j + m = n → m < fuel → hw_F σ → σ.2.2.1 1 5 = nI (c5 + j) → (m = 0 → True) → ∃ τ, m11_feed_b35 fuel 0 l1 (nI m - (1 : Int32)) σ = some (nI (c5 + n), τ) ∧ hw_d hw_afc σ τ ∧ τ.2.2.1 1 5 = nI (c5 + n) ∧ (∀ i, j ≤ i → i < n → τ.2.2.1 4 (c5 + i) = fb_c l1 (n - 1 - i)) ∧ ∀ i, i < c5 + j → τ.2.2.1 4 i = σ.2.2.1 4 i := by
  intro m
  induction m with
  | zero =>
    intro j fuel σ e hf hF h5 _
    obtain ⟨fuel, rfl⟩ : ∃ k, fuel = k + 1 := ⟨fuel - 1, by omega⟩
    have e : j = n := e
    subst e
    refine ⟨σ, ?_, hw_d.rf, h5, fun i h1 h2 => by omega, fun i _ => rfl⟩
    rw [m11_feed_b35, if_pos (show nI 0 - (1 : Int32) < 0 by decide), hw_P_0_0 hF, Option.bind_some, hw_G_1 hF, Option.bind_some, h5]
  | succ m ih =>
    intro j fuel σ e hf hF h5 _
    obtain ⟨fuel, rfl⟩ : ∃ k, fuel = k + 1 := ⟨fuel - 1, by omega⟩
    have F1 : hw_F (hw_wI 4 (c5 + j) (fb_c l1 m) σ) := hF
    have F2 : hw_F (hw_wI 1 5 (nI (c5 + (j + 1))) (hw_wI 4 (c5 + j) (fb_c l1 m) σ)) := hF
    obtain ⟨τ, g1, g2, g3, g4, g5⟩ := ih (j + 1) fuel (hw_wI 1 5 (nI (c5 + (j + 1))) (hw_wI 4 (c5 + j) (fb_c l1 m) σ)) (by omega) (by omega) F2 hw_wI_y (fun _ => trivial)
    refine ⟨τ, ?_, ((hw_d.wI (by unfold hw_afc; omega)).tr (hw_d.wI (by unfold hw_afc; omega))).tr g2, g3, fun i h1 h2 => ?_, fun i h1 => ?_⟩
    · rw [m11_feed_b35, show nI (m + 1) - (1 : Int32) = nI m from nI_pred m, if_neg (nI_pos (by omega)), hw_P_0_0 hF, Option.bind_some, hw_P_1_4 hF, Option.bind_some, Option.bind_some, hw_G_1 hF, Option.bind_some, h5]
      rw [show (Int64.toInt32 ((Int64.toUInt64 l1 >>> ((Int32.toInt64 ((8 : Int32) * nI m)).toUInt64 &&& Int64.toUInt64 63)).toInt64)) &&& (255 : Int32) = fb_c l1 m from rfl]
      rw [hw_B_4 hF (by omega), Option.bind_some, hw_P_0_0 F1, Option.bind_some, hw_G_1 F1, Option.bind_some, hw_wI_n (by omega), h5, nI_1, hw_W_1 F1, Option.bind_some, hw_mm]
      exact g1
    · by_cases hij : i = j
      · subst hij
        rw [g5 (c5 + i) (by omega), hw_wI_n (by omega), hw_wI_y]
        congr 1
        omega
      · exact g4 i (by omega) h2
    · rw [g5 i (by omega), hw_wI_n (by omega), hw_wI_n (by omega)]
theorem r_feed {l1 : Int64} {c5 n : Nat} (hn8 : n ≤ 8) (hb : c5 + n ≤ 120) : ∀ m j fuel σ, j + m = n → m < fuel → hw_F σ → σ.2.2.1 42 5 = nI (c5 + j) → ∃ τ, m12_feed_b34 fuel 41 l1 (nI m - (1 : Int32)) σ = some (nI (c5 + n), τ) ∧ hw_d hw_afr σ τ ∧ τ.2.2.1 42 5 = nI (c5 + n) ∧ (∀ i, j ≤ i → i < n → τ.2.2.1 42 (10 + (c5 + i)) = fb_c l1 (n - 1 - i)) ∧ ∀ i, i < c5 + j → τ.2.2.1 42 (10 + i) = σ.2.2.1 42 (10 + i) := by
  intro m
  induction m with
  | zero =>
    intro j fuel σ e hf hF h5
    obtain ⟨fuel, rfl⟩ : ∃ k, fuel = k + 1 := ⟨fuel - 1, by omega⟩
    have e : j = n := e
    subst e
    refine ⟨σ, ?_, hw_d.rf, h5, fun i h1 h2 => by omega, fun i _ => rfl⟩
    rw [m12_feed_b34, if_pos (show nI 0 - (1 : Int32) < 0 by decide), hw_P_41_1 hF, Option.bind_some, hw_Z_5 hF, Option.bind_some, h5]
  | succ m ih =>
    intro j fuel σ e hf hF h5
    obtain ⟨fuel, rfl⟩ : ∃ k, fuel = k + 1 := ⟨fuel - 1, by omega⟩
    have F1 : hw_F (hw_wI 42 (10 + (c5 + j)) (fb_c l1 m) σ) := hF
    have F2 : hw_F (hw_wI 42 5 (nI (c5 + (j + 1))) (hw_wI 42 (10 + (c5 + j)) (fb_c l1 m) σ)) := hF
    obtain ⟨τ, g1, g2, g3, g4, g5⟩ := ih (j + 1) fuel (hw_wI 42 5 (nI (c5 + (j + 1))) (hw_wI 42 (10 + (c5 + j)) (fb_c l1 m) σ)) (by omega) (by omega) F2 hw_wI_y
    have y1 : (hw_wI 42 (10 + (c5 + j)) (fb_c l1 m) σ).2.2.1 42 5 = nI (c5 + j) := by rw [hw_wI_n (by omega), h5]
    refine ⟨τ, ?_, ((hw_d.wI (by unfold hw_afr; omega)).tr (hw_d.wI (by unfold hw_afr; omega))).tr g2, g3, fun i h1 h2 => ?_, fun i h1 => ?_⟩
    · rw [m12_feed_b34, show nI (m + 1) - (1 : Int32) = nI m from nI_pred m, if_neg (nI_pos (by omega)), hw_P_41_1 hF, Option.bind_some, Option.bind_some, hw_Z_5 hF, Option.bind_some, h5, fb_e l1 (by omega), show (10 : Int32) + nI (c5 + j) = nI (10 + (c5 + j)) from nI_add 10 (c5 + j), hw_B_42 hF (by omega), Option.bind_some, hw_P_41_1 F1, Option.bind_some, hw_Z_5 F1, Option.bind_some, y1, nI_1, show (5 : Int32) = nI 5 from rfl, hw_B_42 F1 (by decide), Option.bind_some, hw_mm]
      exact g1
    · by_cases hij : i = j
      · subst hij
        rw [g5 (c5 + i) (by omega), hw_wI_n (by omega), hw_wI_y]
        congr 1
        omega
      · exact g4 i (by omega) h2
    · rw [g5 i (by omega), hw_wI_n (by omega), hw_wI_n (by omega)]
theorem j_feed {σ : hw_S} (hJ : hw_Jv σ) (l1 : Int64) (x : Int32) : ∃ r σ1 τ, m11_feed 0 l1 x σ = some (r, σ1) ∧ m12_feed 41 l1 x σ1 = some (r, τ) ∧ hw_Jv τ ∧ hw_F σ1 := by
  obtain ⟨hF, p1, p2, ⟨c0, c1, c2, c3, c4, c5, hr⟩, him, htr⟩ := id hJ
  have s5 : σ.2.2.1 1 5 = nI c5 := hr.2.2.1.2.2.2.2.2
  have w5 : σ.2.2.1 42 5 = nI c5 := hr.2.1.2.2.2.2.2
  have b5 : c5 ≤ 120 := hr.1.2.2.2.2.2
  have htp : ∀ i, i < c5 → σ.2.2.1 4 i = σ.2.2.1 42 (10 + i) ∧ ∃ q : Nat, q < 256 ∧ σ.2.2.1 42 (10 + i) = nI q := hr.2.2.2.2.2.1
  have ein1 : m11_isWithin x (1 : Int32) (8 : Int32) = some (hw_tb (nI 1 ≤ x ∧ x ≤ nI 8)) := e11_isWithin x 1 8
  have ein : m12_in x (1 : Int32) (8 : Int32) = some (hw_tb (nI 1 ≤ x ∧ x ≤ nI 8)) := e12_in x 1 8
  unfold m11_feed m12_feed
  rw [ein1, Option.bind_some, hw_itb]
  by_cases hx : nI 1 ≤ x ∧ x ≤ nI 8
  · obtain ⟨n, n1, n2, rfl⟩ := hw_win (lo := 1) (hi := 8) (by decide) (by decide) hx
    rw [if_pos hx, hw_P_0_0 hF, Option.bind_some, hw_G_1 hF, Option.bind_some, s5, nI_add]
    by_cases hc : c5 + n ≤ 120
    · rw [if_pos (show nI (c5 + n) ≤ (120 : Int32) from nI_le (b := 120) hc (by decide))]
      obtain ⟨σ1, g1, g2, g3, g4, g5⟩ := c_feed (l1 := l1) (c5 := c5) (n := n) n2 hc n 0 hw_fu σ (by omega) (by show n < 4000; omega) hF (by rw [s5]; rfl) (fun _ => trivial)
      have F1 := g2.F hF
      have w51 : σ1.2.2.1 42 5 = nI c5 := by rw [g2.2.2.2 42 5 (by unfold hw_afc; omega), w5]
      obtain ⟨τ, k1, k2, k3, k4, k5⟩ := r_feed (l1 := l1) (c5 := c5) (n := n) n2 hc n 0 hw_fu σ1 (by omega) (by show n < 4000; omega) F1 (by rw [w51]; rfl)
      have dd : hw_d hw_afd σ τ := (g2.mono (fun a k h => by unfold hw_afc at h; unfold hw_afd; omega)).tr (k2.mono (fun a k h => by unfold hw_afr at h; unfold hw_afd; omega))
      refine ⟨nI (c5 + n), σ1, τ, g1, ?_, Jv_d hJ dd (fun a k c => by unfold hw_afd at c; omega) (rel_fd (d5 := c5 + n) dd hr hc k3 (by rw [k2.2.2.2 1 5 (by unfold hw_afr; omega), g3]) (fun i hi => ?_)), F1⟩
      · rw [ein, Option.bind_some, hw_itb, if_pos hx, hw_P_41_1 F1, Option.bind_some, hw_Z_5 F1, Option.bind_some, w51, nI_add, if_pos (show nI (c5 + n) ≤ (120 : Int32) from nI_le (b := 120) hc (by decide))]
        exact k1
      · rw [k2.2.2.2 4 i (by unfold hw_afr; omega)]
        by_cases hic : i < c5
        · rw [g5 i (by omega), k5 i (by omega), g2.2.2.2 42 (10 + i) (by unfold hw_afc; omega)]
          exact htp i hic
        · obtain ⟨j, rfl⟩ : ∃ j, i = c5 + j := ⟨i - c5, by omega⟩
          rw [g4 j (by omega) (by omega), k4 j (by omega) (by omega)]
          exact ⟨rfl, fb_q l1 _⟩
    · rw [if_neg (show ¬ nI (c5 + n) ≤ (120 : Int32) from nI_ge (a := 120) (by omega) (by omega))]
      refine ⟨_, σ, σ, rfl, ?_, hJ, hF⟩
      rw [ein, Option.bind_some, hw_itb, if_pos hx, hw_P_41_1 hF, Option.bind_some, hw_Z_5 hF, Option.bind_some, w5, nI_add, if_neg (show ¬ nI (c5 + n) ≤ (120 : Int32) from nI_ge (a := 120) (by omega) (by omega))]
  · rw [if_neg hx]
    refine ⟨_, σ, σ, rfl, ?_, hJ, hF⟩
    rw [ein, Option.bind_some, hw_itb, if_neg hx]
