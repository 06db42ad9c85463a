/-! the fixed cells: the class object at 0, the model at 41, what they hold; law and stuff objects come behind 55 -/
def hw_TG : List Nat := [12, 9, 24, 23, 21, 21, 21, 21, 21, 21, 9, 24, 23, 21, 21, 21, 21, 21, 21, 5, 21, 21, 21, 11, 21, 21, 21, 21, 21, 21, 21, 21, 25, 21, 21, 21, 21, 21, 21, 21, 21, 13, 21, 21, 21, 22, 21, 21, 21, 21, 21, 21, 21, 21, 21]
def hw_LN : List Nat := [0, 0, 5, 8, 120, 20, 8, 12, 12, 12, 0, 5, 8, 120, 20, 8, 12, 12, 12, 0, 0, 120, 4, 0, 20, 20, 20, 20, 61, 61, 100, 100, 8, 100, 100, 100, 100, 100, 100, 100, 100, 0, 1396, 1396, 5, 64, 20, 20, 20, 61, 61, 100, 900, 8, 20]
def hw_PT : List (Nat × Nat × Nat) := [(1, 0, 2), (1, 2, 3), (1, 4, 4), (1, 6, 5), (1, 8, 6), (1, 10, 7), (1, 11, 8), (1, 12, 9), (0, 0, 1), (10, 0, 11), (10, 2, 12), (10, 4, 13), (10, 6, 14), (10, 8, 15), (10, 10, 16), (10, 11, 17), (10, 12, 18), (0, 1, 10), (19, 3, 21), (19, 5, 22), (0, 3, 19), (23, 0, 24), (0, 4, 23), (0, 5, 25), (0, 6, 26), (0, 7, 27), (0, 8, 28), (0, 9, 29), (0, 10, 30), (0, 11, 31), (0, 12, 32), (32, 0, 33), (32, 1, 34), (32, 2, 35), (32, 3, 36), (32, 4, 37), (32, 5, 38), (32, 6, 39), (32, 7, 40), (41, 1, 42), (41, 2, 43), (41, 9, 44), (41, 10, 45), (41, 11, 46), (41, 12, 47), (41, 13, 48), (41, 16, 49), (41, 17, 50), (41, 18, 51), (41, 19, 52), (41, 20, 53), (41, 21, 54)]
def hw_F (σ : hw_S) : Prop := (∀ a, a < 55 → σ.1 a = hw_TG.getD a 0) ∧ (∀ a, a < 55 → σ.2.1 a = hw_LN.getD a 0) ∧ (∀ q ∈ hw_PT, σ.2.2.2.1 q.1 q.2.1 = some q.2.2) ∧ 55 ≤ σ.2.2.2.2
theorem hw_F_wI {a k : Nat} {v : Int32} {σ : hw_S} : hw_F (hw_wI a k v σ) ↔ hw_F σ := Iff.rfl
theorem hw_wI_1 {a k : Nat} {v : Int32} {σ : hw_S} : (hw_wI a k v σ).1 = σ.1 := rfl
theorem hw_wI_2 {a k : Nat} {v : Int32} {σ : hw_S} : (hw_wI a k v σ).2.1 = σ.2.1 := rfl
theorem hw_wI_4 {a k : Nat} {v : Int32} {σ : hw_S} : (hw_wI a k v σ).2.2.2 = σ.2.2.2 := rfl
theorem hw_wI_3 {a k x j : Nat} {v : Int32} {σ : hw_S} : (hw_wI a k v σ).2.2.1 x j = if x = a ∧ j = k then v else σ.2.2.1 x j := by
  show (if x = a then (fun j => if j = k then v else σ.2.2.1 a j) else σ.2.2.1 x) j = _
  by_cases hx : x = a
  · rw [if_pos hx]
    subst hx
    by_cases hj : j = k
    · simp [hj]
    · simp [hj]
  · rw [if_neg hx, if_neg (fun h => hx h.1)]
theorem hw_Fgi {σ : hw_S} (h : hw_F σ) {q : Nat → Bool} {a k : Nat} (ha : a < 55) (hq : q (hw_TG.getD a 0) = true) : hw_gI q k (some a) σ = some (σ.2.2.1 a k) := by
  show (if q (σ.1 a) = true then _ else _) = _
  rw [h.1 a ha, if_pos hq]
theorem hw_Frv {σ : hw_S} (h : hw_F σ) {q : Nat → Bool} {a : Nat} (ha : a < 55) (hq : q (hw_TG.getD a 0) = true) : hw_rv q (some a) σ = some a := by
  show (if q (σ.1 a) = true then _ else _) = _
  rw [h.1 a ha, if_pos hq]
theorem hw_Fpi {σ : hw_S} (h : hw_F σ) {q : Nat → Bool} {a k : Nat} {v : Int32} (ha : a < 55) (hq : q (hw_TG.getD a 0) = true) : hw_pI q k (some a) v σ = some (hw_wI a k v σ) := by
  show (if q (σ.1 a) = true then _ else _) = _
  rw [h.1 a ha, if_pos hq]
theorem hw_Fgp {σ : hw_S} (h : hw_F σ) {q : Nat → Bool} {a k v : Nat} (ha : a < 55) (hq : q (hw_TG.getD a 0) = true) (hp : (a, k, v) ∈ hw_PT) : hw_gP q k (some a) σ = some (some v) := by
  show (if q (σ.1 a) = true then _ else _) = _
  rw [h.1 a ha, if_pos hq]
  exact congrArg some (h.2.2.1 _ hp)
theorem hw_nIx {n L : Nat} (h : n < L) (hL : L < 2 ^ 31) : ¬ (nI n < 0 ∨ L ≤ (nI n).toNatClampNeg) := by
  rw [nI_clamp (Nat.lt_trans h hL)]
  exact fun c => c.elim (nI_pos (Nat.lt_trans h hL)) (fun c => absurd h (Nat.not_lt.mpr c))
theorem hw_Fai {σ : hw_S} (h : hw_F σ) {t a n : Nat} (ha : a < 55) (ht : hw_TG.getD a 0 = t + 21) (hn : n < hw_LN.getD a 0) (hL : hw_LN.getD a 0 < 2 ^ 31) : hw_aI t (some a) (nI n) σ = some (σ.2.2.1 a n) := by
  show (if σ.1 a = t + 21 ∧ ¬ (nI n < 0 ∨ σ.2.1 a ≤ (nI n).toNatClampNeg) then _ else _) = _
  rw [h.1 a ha, h.2.1 a ha, if_pos ⟨ht, hw_nIx hn hL⟩, nI_clamp (Nat.lt_trans hn hL)]
theorem hw_Fap {σ : hw_S} (h : hw_F σ) {t a n : Nat} (ha : a < 55) (ht : hw_TG.getD a 0 = t + 21) (hn : n < hw_LN.getD a 0) (hL : hw_LN.getD a 0 < 2 ^ 31) : hw_aP t (some a) (nI n) σ = some (σ.2.2.2.1 a n) := by
  show (if σ.1 a = t + 21 ∧ ¬ (nI n < 0 ∨ σ.2.1 a ≤ (nI n).toNatClampNeg) then _ else _) = _
  rw [h.1 a ha, h.2.1 a ha, if_pos ⟨ht, hw_nIx hn hL⟩, nI_clamp (Nat.lt_trans hn hL)]
theorem hw_Fsi {σ : hw_S} (h : hw_F σ) {a n : Nat} {v : Int32} (ha : a < 55) (ht : hw_TG.getD a 0 = 21) (hn : n < hw_LN.getD a 0) (hL : hw_LN.getD a 0 < 2 ^ 31) : hw_sI (some a) (nI n) v σ = some (hw_wI a n v σ) := by
  show (if σ.1 a = 21 ∧ ¬ (nI n < 0 ∨ σ.2.1 a ≤ (nI n).toNatClampNeg) then _ else _) = _
  rw [h.1 a ha, h.2.1 a ha, if_pos ⟨ht, hw_nIx hn hL⟩, nI_clamp (Nat.lt_trans hn hL)]

theorem hw_P_1_0 {σ : hw_S} (h : hw_F σ) : hw_gP (hw_q 8) 0 (some 1) σ = some (some 2) := hw_Fgp h (by decide) (by decide) (by decide)
theorem hw_P_1_2 {σ : hw_S} (h : hw_F σ) : hw_gP (hw_q 8) 2 (some 1) σ = some (some 3) := hw_Fgp h (by decide) (by decide) (by decide)
theorem hw_P_1_4 {σ : hw_S} (h : hw_F σ) : hw_gP (hw_q 8) 4 (some 1) σ = some (some 4) := hw_Fgp h (by decide) (by decide) (by decide)
theorem hw_P_1_6 {σ : hw_S} (h : hw_F σ) : hw_gP (hw_q 8) 6 (some 1) σ = some (some 5) := hw_Fgp h (by decide) (by decide) (by decide)
theorem hw_P_1_8 {σ : hw_S} (h : hw_F σ) : hw_gP (hw_q 8) 8 (some 1) σ = some (some 6) := hw_Fgp h (by decide) (by decide) (by decide)
theorem hw_P_1_10 {σ : hw_S} (h : hw_F σ) : hw_gP (hw_q 8) 10 (some 1) σ = some (some 7) := hw_Fgp h (by decide) (by decide) (by decide)
theorem hw_P_1_11 {σ : hw_S} (h : hw_F σ) : hw_gP (hw_q 8) 11 (some 1) σ = some (some 8) := hw_Fgp h (by decide) (by decide) (by decide)
theorem hw_P_1_12 {σ : hw_S} (h : hw_F σ) : hw_gP (hw_q 8) 12 (some 1) σ = some (some 9) := hw_Fgp h (by decide) (by decide) (by decide)
theorem hw_P_0_0 {σ : hw_S} (h : hw_F σ) : hw_gP (hw_q 11) 0 (some 0) σ = some (some 1) := hw_Fgp h (by decide) (by decide) (by decide)
theorem hw_P_10_0 {σ : hw_S} (h : hw_F σ) : hw_gP (hw_q 8) 0 (some 10) σ = some (some 11) := hw_Fgp h (by decide) (by decide) (by decide)
theorem hw_P_10_2 {σ : hw_S} (h : hw_F σ) : hw_gP (hw_q 8) 2 (some 10) σ = some (some 12) := hw_Fgp h (by decide) (by decide) (by decide)
theorem hw_P_10_4 {σ : hw_S} (h : hw_F σ) : hw_gP (hw_q 8) 4 (some 10) σ = some (some 13) := hw_Fgp h (by decide) (by decide) (by decide)
theorem hw_P_10_6 {σ : hw_S} (h : hw_F σ) : hw_gP (hw_q 8) 6 (some 10) σ = some (some 14) := hw_Fgp h (by decide) (by decide) (by decide)
theorem hw_P_10_8 {σ : hw_S} (h : hw_F σ) : hw_gP (hw_q 8) 8 (some 10) σ = some (some 15) := hw_Fgp h (by decide) (by decide) (by decide)
theorem hw_P_10_10 {σ : hw_S} (h : hw_F σ) : hw_gP (hw_q 8) 10 (some 10) σ = some (some 16) := hw_Fgp h (by decide) (by decide) (by decide)
theorem hw_P_10_11 {σ : hw_S} (h : hw_F σ) : hw_gP (hw_q 8) 11 (some 10) σ = some (some 17) := hw_Fgp h (by decide) (by decide) (by decide)
theorem hw_P_10_12 {σ : hw_S} (h : hw_F σ) : hw_gP (hw_q 8) 12 (some 10) σ = some (some 18) := hw_Fgp h (by decide) (by decide) (by decide)
theorem hw_P_0_1 {σ : hw_S} (h : hw_F σ) : hw_gP (hw_q 11) 1 (some 0) σ = some (some 10) := hw_Fgp h (by decide) (by decide) (by decide)
theorem hw_P_19_3 {σ : hw_S} (h : hw_F σ) : hw_gP (hw_q 4) 3 (some 19) σ = some (some 21) := hw_Fgp h (by decide) (by decide) (by decide)
theorem hw_P_19_5 {σ : hw_S} (h : hw_F σ) : hw_gP (hw_q 4) 5 (some 19) σ = some (some 22) := hw_Fgp h (by decide) (by decide) (by decide)
theorem hw_P_0_3 {σ : hw_S} (h : hw_F σ) : hw_gP (hw_q 11) 3 (some 0) σ = some (some 19) := hw_Fgp h (by decide) (by decide) (by decide)
theorem hw_P_23_0 {σ : hw_S} (h : hw_F σ) : hw_gP (hw_q 10) 0 (some 23) σ = some (some 24) := hw_Fgp h (by decide) (by decide) (by decide)
theorem hw_P_0_4 {σ : hw_S} (h : hw_F σ) : hw_gP (hw_q 11) 4 (some 0) σ = some (some 23) := hw_Fgp h (by decide) (by decide) (by decide)
theorem hw_P_0_5 {σ : hw_S} (h : hw_F σ) : hw_gP (hw_q 11) 5 (some 0) σ = some (some 25) := hw_Fgp h (by decide) (by decide) (by decide)
theorem hw_P_0_6 {σ : hw_S} (h : hw_F σ) : hw_gP (hw_q 11) 6 (some 0) σ = some (some 26) := hw_Fgp h (by decide) (by decide) (by decide)
theorem hw_P_0_7 {σ : hw_S} (h : hw_F σ) : hw_gP (hw_q 11) 7 (some 0) σ = some (some 27) := hw_Fgp h (by decide) (by decide) (by decide)
theorem hw_P_0_8 {σ : hw_S} (h : hw_F σ) : hw_gP (hw_q 11) 8 (some 0) σ = some (some 28) := hw_Fgp h (by decide) (by decide) (by decide)
theorem hw_P_0_9 {σ : hw_S} (h : hw_F σ) : hw_gP (hw_q 11) 9 (some 0) σ = some (some 29) := hw_Fgp h (by decide) (by decide) (by decide)
theorem hw_P_0_10 {σ : hw_S} (h : hw_F σ) : hw_gP (hw_q 11) 10 (some 0) σ = some (some 30) := hw_Fgp h (by decide) (by decide) (by decide)
theorem hw_P_0_11 {σ : hw_S} (h : hw_F σ) : hw_gP (hw_q 11) 11 (some 0) σ = some (some 31) := hw_Fgp h (by decide) (by decide) (by decide)
theorem hw_P_0_12 {σ : hw_S} (h : hw_F σ) : hw_gP (hw_q 11) 12 (some 0) σ = some (some 32) := hw_Fgp h (by decide) (by decide) (by decide)
theorem hw_P_41_1 {σ : hw_S} (h : hw_F σ) : hw_gP (hw_q 12) 1 (some 41) σ = some (some 42) := hw_Fgp h (by decide) (by decide) (by decide)
theorem hw_P_41_2 {σ : hw_S} (h : hw_F σ) : hw_gP (hw_q 12) 2 (some 41) σ = some (some 43) := hw_Fgp h (by decide) (by decide) (by decide)
theorem hw_P_41_9 {σ : hw_S} (h : hw_F σ) : hw_gP (hw_q 12) 9 (some 41) σ = some (some 44) := hw_Fgp h (by decide) (by decide) (by decide)
theorem hw_P_41_10 {σ : hw_S} (h : hw_F σ) : hw_gP (hw_q 12) 10 (some 41) σ = some (some 45) := hw_Fgp h (by decide) (by decide) (by decide)
theorem hw_P_41_11 {σ : hw_S} (h : hw_F σ) : hw_gP (hw_q 12) 11 (some 41) σ = some (some 46) := hw_Fgp h (by decide) (by decide) (by decide)
theorem hw_P_41_12 {σ : hw_S} (h : hw_F σ) : hw_gP (hw_q 12) 12 (some 41) σ = some (some 47) := hw_Fgp h (by decide) (by decide) (by decide)
theorem hw_P_41_13 {σ : hw_S} (h : hw_F σ) : hw_gP (hw_q 12) 13 (some 41) σ = some (some 48) := hw_Fgp h (by decide) (by decide) (by decide)
theorem hw_P_41_16 {σ : hw_S} (h : hw_F σ) : hw_gP (hw_q 12) 16 (some 41) σ = some (some 49) := hw_Fgp h (by decide) (by decide) (by decide)
theorem hw_P_41_17 {σ : hw_S} (h : hw_F σ) : hw_gP (hw_q 12) 17 (some 41) σ = some (some 50) := hw_Fgp h (by decide) (by decide) (by decide)
theorem hw_P_41_18 {σ : hw_S} (h : hw_F σ) : hw_gP (hw_q 12) 18 (some 41) σ = some (some 51) := hw_Fgp h (by decide) (by decide) (by decide)
theorem hw_P_41_19 {σ : hw_S} (h : hw_F σ) : hw_gP (hw_q 12) 19 (some 41) σ = some (some 52) := hw_Fgp h (by decide) (by decide) (by decide)
theorem hw_P_41_20 {σ : hw_S} (h : hw_F σ) : hw_gP (hw_q 12) 20 (some 41) σ = some (some 53) := hw_Fgp h (by decide) (by decide) (by decide)
theorem hw_P_41_21 {σ : hw_S} (h : hw_F σ) : hw_gP (hw_q 12) 21 (some 41) σ = some (some 54) := hw_Fgp h (by decide) (by decide) (by decide)
theorem hw_G_0 {σ : hw_S} {k : Nat} (h : hw_F σ) : hw_gI (hw_q 11) k (some 0) σ = some (σ.2.2.1 0 k) := hw_Fgi h (by decide) (by decide)
theorem hw_V_0 {σ : hw_S} (h : hw_F σ) : hw_rv (hw_q 11) (some 0) σ = some 0 := hw_Frv h (by decide) (by decide)
theorem hw_W_0 {σ : hw_S} {k : Nat} {v : Int32} (h : hw_F σ) : hw_pI (hw_q 11) k (some 0) v σ = some (hw_wI 0 k v σ) := hw_Fpi h (by decide) (by decide)
theorem hw_G_1 {σ : hw_S} {k : Nat} (h : hw_F σ) : hw_gI (hw_q 8) k (some 1) σ = some (σ.2.2.1 1 k) := hw_Fgi h (by decide) (by decide)
theorem hw_V_1 {σ : hw_S} (h : hw_F σ) : hw_rv (hw_q 8) (some 1) σ = some 1 := hw_Frv h (by decide) (by decide)
theorem hw_W_1 {σ : hw_S} {k : Nat} {v : Int32} (h : hw_F σ) : hw_pI (hw_q 8) k (some 1) v σ = some (hw_wI 1 k v σ) := hw_Fpi h (by decide) (by decide)
theorem hw_A_2 {σ : hw_S} {n : Nat} (h : hw_F σ) (hn : n < 5) : hw_aP 3 (some 2) (nI n) σ = some (σ.2.2.2.1 2 n) := hw_Fap h (by decide) (by decide) hn (by decide)
theorem hw_A_3 {σ : hw_S} {n : Nat} (h : hw_F σ) (hn : n < 8) : hw_aP 2 (some 3) (nI n) σ = some (σ.2.2.2.1 3 n) := hw_Fap h (by decide) (by decide) hn (by decide)
theorem hw_A_4 {σ : hw_S} {n : Nat} (h : hw_F σ) (hn : n < 120) : hw_aI 0 (some 4) (nI n) σ = some (σ.2.2.1 4 n) := hw_Fai h (by decide) (by decide) hn (by decide)
theorem hw_B_4 {σ : hw_S} {n : Nat} {v : Int32} (h : hw_F σ) (hn : n < 120) : hw_sI (some 4) (nI n) v σ = some (hw_wI 4 n v σ) := hw_Fsi h (by decide) (by decide) hn (by decide)
theorem hw_A_5 {σ : hw_S} {n : Nat} (h : hw_F σ) (hn : n < 20) : hw_aI 0 (some 5) (nI n) σ = some (σ.2.2.1 5 n) := hw_Fai h (by decide) (by decide) hn (by decide)
theorem hw_B_5 {σ : hw_S} {n : Nat} {v : Int32} (h : hw_F σ) (hn : n < 20) : hw_sI (some 5) (nI n) v σ = some (hw_wI 5 n v σ) := hw_Fsi h (by decide) (by decide) hn (by decide)
theorem hw_A_6 {σ : hw_S} {n : Nat} (h : hw_F σ) (hn : n < 8) : hw_aI 0 (some 6) (nI n) σ = some (σ.2.2.1 6 n) := hw_Fai h (by decide) (by decide) hn (by decide)
theorem hw_B_6 {σ : hw_S} {n : Nat} {v : Int32} (h : hw_F σ) (hn : n < 8) : hw_sI (some 6) (nI n) v σ = some (hw_wI 6 n v σ) := hw_Fsi h (by decide) (by decide) hn (by decide)
theorem hw_A_7 {σ : hw_S} {n : Nat} (h : hw_F σ) (hn : n < 12) : hw_aI 0 (some 7) (nI n) σ = some (σ.2.2.1 7 n) := hw_Fai h (by decide) (by decide) hn (by decide)
theorem hw_B_7 {σ : hw_S} {n : Nat} {v : Int32} (h : hw_F σ) (hn : n < 12) : hw_sI (some 7) (nI n) v σ = some (hw_wI 7 n v σ) := hw_Fsi h (by decide) (by decide) hn (by decide)
theorem hw_A_8 {σ : hw_S} {n : Nat} (h : hw_F σ) (hn : n < 12) : hw_aI 0 (some 8) (nI n) σ = some (σ.2.2.1 8 n) := hw_Fai h (by decide) (by decide) hn (by decide)
theorem hw_B_8 {σ : hw_S} {n : Nat} {v : Int32} (h : hw_F σ) (hn : n < 12) : hw_sI (some 8) (nI n) v σ = some (hw_wI 8 n v σ) := hw_Fsi h (by decide) (by decide) hn (by decide)
theorem hw_A_9 {σ : hw_S} {n : Nat} (h : hw_F σ) (hn : n < 12) : hw_aI 0 (some 9) (nI n) σ = some (σ.2.2.1 9 n) := hw_Fai h (by decide) (by decide) hn (by decide)
theorem hw_B_9 {σ : hw_S} {n : Nat} {v : Int32} (h : hw_F σ) (hn : n < 12) : hw_sI (some 9) (nI n) v σ = some (hw_wI 9 n v σ) := hw_Fsi h (by decide) (by decide) hn (by decide)
theorem hw_G_10 {σ : hw_S} {k : Nat} (h : hw_F σ) : hw_gI (hw_q 8) k (some 10) σ = some (σ.2.2.1 10 k) := hw_Fgi h (by decide) (by decide)
theorem hw_V_10 {σ : hw_S} (h : hw_F σ) : hw_rv (hw_q 8) (some 10) σ = some 10 := hw_Frv h (by decide) (by decide)
theorem hw_W_10 {σ : hw_S} {k : Nat} {v : Int32} (h : hw_F σ) : hw_pI (hw_q 8) k (some 10) v σ = some (hw_wI 10 k v σ) := hw_Fpi h (by decide) (by decide)
theorem hw_A_11 {σ : hw_S} {n : Nat} (h : hw_F σ) (hn : n < 5) : hw_aP 3 (some 11) (nI n) σ = some (σ.2.2.2.1 11 n) := hw_Fap h (by decide) (by decide) hn (by decide)
theorem hw_A_12 {σ : hw_S} {n : Nat} (h : hw_F σ) (hn : n < 8) : hw_aP 2 (some 12) (nI n) σ = some (σ.2.2.2.1 12 n) := hw_Fap h (by decide) (by decide) hn (by decide)
theorem hw_A_13 {σ : hw_S} {n : Nat} (h : hw_F σ) (hn : n < 120) : hw_aI 0 (some 13) (nI n) σ = some (σ.2.2.1 13 n) := hw_Fai h (by decide) (by decide) hn (by decide)
theorem hw_B_13 {σ : hw_S} {n : Nat} {v : Int32} (h : hw_F σ) (hn : n < 120) : hw_sI (some 13) (nI n) v σ = some (hw_wI 13 n v σ) := hw_Fsi h (by decide) (by decide) hn (by decide)
theorem hw_A_14 {σ : hw_S} {n : Nat} (h : hw_F σ) (hn : n < 20) : hw_aI 0 (some 14) (nI n) σ = some (σ.2.2.1 14 n) := hw_Fai h (by decide) (by decide) hn (by decide)
theorem hw_B_14 {σ : hw_S} {n : Nat} {v : Int32} (h : hw_F σ) (hn : n < 20) : hw_sI (some 14) (nI n) v σ = some (hw_wI 14 n v σ) := hw_Fsi h (by decide) (by decide) hn (by decide)
theorem hw_A_15 {σ : hw_S} {n : Nat} (h : hw_F σ) (hn : n < 8) : hw_aI 0 (some 15) (nI n) σ = some (σ.2.2.1 15 n) := hw_Fai h (by decide) (by decide) hn (by decide)
theorem hw_B_15 {σ : hw_S} {n : Nat} {v : Int32} (h : hw_F σ) (hn : n < 8) : hw_sI (some 15) (nI n) v σ = some (hw_wI 15 n v σ) := hw_Fsi h (by decide) (by decide) hn (by decide)
theorem hw_A_16 {σ : hw_S} {n : Nat} (h : hw_F σ) (hn : n < 12) : hw_aI 0 (some 16) (nI n) σ = some (σ.2.2.1 16 n) := hw_Fai h (by decide) (by decide) hn (by decide)
theorem hw_B_16 {σ : hw_S} {n : Nat} {v : Int32} (h : hw_F σ) (hn : n < 12) : hw_sI (some 16) (nI n) v σ = some (hw_wI 16 n v σ) := hw_Fsi h (by decide) (by decide) hn (by decide)
theorem hw_A_17 {σ : hw_S} {n : Nat} (h : hw_F σ) (hn : n < 12) : hw_aI 0 (some 17) (nI n) σ = some (σ.2.2.1 17 n) := hw_Fai h (by decide) (by decide) hn (by decide)
theorem hw_B_17 {σ : hw_S} {n : Nat} {v : Int32} (h : hw_F σ) (hn : n < 12) : hw_sI (some 17) (nI n) v σ = some (hw_wI 17 n v σ) := hw_Fsi h (by decide) (by decide) hn (by decide)
theorem hw_A_18 {σ : hw_S} {n : Nat} (h : hw_F σ) (hn : n < 12) : hw_aI 0 (some 18) (nI n) σ = some (σ.2.2.1 18 n) := hw_Fai h (by decide) (by decide) hn (by decide)
theorem hw_B_18 {σ : hw_S} {n : Nat} {v : Int32} (h : hw_F σ) (hn : n < 12) : hw_sI (some 18) (nI n) v σ = some (hw_wI 18 n v σ) := hw_Fsi h (by decide) (by decide) hn (by decide)
theorem hw_G_19 {σ : hw_S} {k : Nat} (h : hw_F σ) : hw_gI (hw_q 4) k (some 19) σ = some (σ.2.2.1 19 k) := hw_Fgi h (by decide) (by decide)
theorem hw_V_19 {σ : hw_S} (h : hw_F σ) : hw_rv (hw_q 4) (some 19) σ = some 19 := hw_Frv h (by decide) (by decide)
theorem hw_W_19 {σ : hw_S} {k : Nat} {v : Int32} (h : hw_F σ) : hw_pI (hw_q 4) k (some 19) v σ = some (hw_wI 19 k v σ) := hw_Fpi h (by decide) (by decide)
theorem hw_A_21 {σ : hw_S} {n : Nat} (h : hw_F σ) (hn : n < 120) : hw_aI 0 (some 21) (nI n) σ = some (σ.2.2.1 21 n) := hw_Fai h (by decide) (by decide) hn (by decide)
theorem hw_B_21 {σ : hw_S} {n : Nat} {v : Int32} (h : hw_F σ) (hn : n < 120) : hw_sI (some 21) (nI n) v σ = some (hw_wI 21 n v σ) := hw_Fsi h (by decide) (by decide) hn (by decide)
theorem hw_A_22 {σ : hw_S} {n : Nat} (h : hw_F σ) (hn : n < 4) : hw_aI 0 (some 22) (nI n) σ = some (σ.2.2.1 22 n) := hw_Fai h (by decide) (by decide) hn (by decide)
theorem hw_B_22 {σ : hw_S} {n : Nat} {v : Int32} (h : hw_F σ) (hn : n < 4) : hw_sI (some 22) (nI n) v σ = some (hw_wI 22 n v σ) := hw_Fsi h (by decide) (by decide) hn (by decide)
theorem hw_G_23 {σ : hw_S} {k : Nat} (h : hw_F σ) : hw_gI (hw_q 10) k (some 23) σ = some (σ.2.2.1 23 k) := hw_Fgi h (by decide) (by decide)
theorem hw_V_23 {σ : hw_S} (h : hw_F σ) : hw_rv (hw_q 10) (some 23) σ = some 23 := hw_Frv h (by decide) (by decide)
theorem hw_W_23 {σ : hw_S} {k : Nat} {v : Int32} (h : hw_F σ) : hw_pI (hw_q 10) k (some 23) v σ = some (hw_wI 23 k v σ) := hw_Fpi h (by decide) (by decide)
theorem hw_A_24 {σ : hw_S} {n : Nat} (h : hw_F σ) (hn : n < 20) : hw_aI 0 (some 24) (nI n) σ = some (σ.2.2.1 24 n) := hw_Fai h (by decide) (by decide) hn (by decide)
theorem hw_B_24 {σ : hw_S} {n : Nat} {v : Int32} (h : hw_F σ) (hn : n < 20) : hw_sI (some 24) (nI n) v σ = some (hw_wI 24 n v σ) := hw_Fsi h (by decide) (by decide) hn (by decide)
theorem hw_A_25 {σ : hw_S} {n : Nat} (h : hw_F σ) (hn : n < 20) : hw_aI 0 (some 25) (nI n) σ = some (σ.2.2.1 25 n) := hw_Fai h (by decide) (by decide) hn (by decide)
theorem hw_B_25 {σ : hw_S} {n : Nat} {v : Int32} (h : hw_F σ) (hn : n < 20) : hw_sI (some 25) (nI n) v σ = some (hw_wI 25 n v σ) := hw_Fsi h (by decide) (by decide) hn (by decide)
theorem hw_A_26 {σ : hw_S} {n : Nat} (h : hw_F σ) (hn : n < 20) : hw_aI 0 (some 26) (nI n) σ = some (σ.2.2.1 26 n) := hw_Fai h (by decide) (by decide) hn (by decide)
theorem hw_B_26 {σ : hw_S} {n : Nat} {v : Int32} (h : hw_F σ) (hn : n < 20) : hw_sI (some 26) (nI n) v σ = some (hw_wI 26 n v σ) := hw_Fsi h (by decide) (by decide) hn (by decide)
theorem hw_A_27 {σ : hw_S} {n : Nat} (h : hw_F σ) (hn : n < 20) : hw_aI 0 (some 27) (nI n) σ = some (σ.2.2.1 27 n) := hw_Fai h (by decide) (by decide) hn (by decide)
theorem hw_B_27 {σ : hw_S} {n : Nat} {v : Int32} (h : hw_F σ) (hn : n < 20) : hw_sI (some 27) (nI n) v σ = some (hw_wI 27 n v σ) := hw_Fsi h (by decide) (by decide) hn (by decide)
theorem hw_A_28 {σ : hw_S} {n : Nat} (h : hw_F σ) (hn : n < 61) : hw_aI 0 (some 28) (nI n) σ = some (σ.2.2.1 28 n) := hw_Fai h (by decide) (by decide) hn (by decide)
theorem hw_B_28 {σ : hw_S} {n : Nat} {v : Int32} (h : hw_F σ) (hn : n < 61) : hw_sI (some 28) (nI n) v σ = some (hw_wI 28 n v σ) := hw_Fsi h (by decide) (by decide) hn (by decide)
theorem hw_A_29 {σ : hw_S} {n : Nat} (h : hw_F σ) (hn : n < 61) : hw_aI 0 (some 29) (nI n) σ = some (σ.2.2.1 29 n) := hw_Fai h (by decide) (by decide) hn (by decide)
theorem hw_B_29 {σ : hw_S} {n : Nat} {v : Int32} (h : hw_F σ) (hn : n < 61) : hw_sI (some 29) (nI n) v σ = some (hw_wI 29 n v σ) := hw_Fsi h (by decide) (by decide) hn (by decide)
theorem hw_A_30 {σ : hw_S} {n : Nat} (h : hw_F σ) (hn : n < 100) : hw_aI 0 (some 30) (nI n) σ = some (σ.2.2.1 30 n) := hw_Fai h (by decide) (by decide) hn (by decide)
theorem hw_B_30 {σ : hw_S} {n : Nat} {v : Int32} (h : hw_F σ) (hn : n < 100) : hw_sI (some 30) (nI n) v σ = some (hw_wI 30 n v σ) := hw_Fsi h (by decide) (by decide) hn (by decide)
theorem hw_A_31 {σ : hw_S} {n : Nat} (h : hw_F σ) (hn : n < 100) : hw_aI 0 (some 31) (nI n) σ = some (σ.2.2.1 31 n) := hw_Fai h (by decide) (by decide) hn (by decide)
theorem hw_B_31 {σ : hw_S} {n : Nat} {v : Int32} (h : hw_F σ) (hn : n < 100) : hw_sI (some 31) (nI n) v σ = some (hw_wI 31 n v σ) := hw_Fsi h (by decide) (by decide) hn (by decide)
theorem hw_A_33 {σ : hw_S} {n : Nat} (h : hw_F σ) (hn : n < 100) : hw_aI 0 (some 33) (nI n) σ = some (σ.2.2.1 33 n) := hw_Fai h (by decide) (by decide) hn (by decide)
theorem hw_B_33 {σ : hw_S} {n : Nat} {v : Int32} (h : hw_F σ) (hn : n < 100) : hw_sI (some 33) (nI n) v σ = some (hw_wI 33 n v σ) := hw_Fsi h (by decide) (by decide) hn (by decide)
theorem hw_A_34 {σ : hw_S} {n : Nat} (h : hw_F σ) (hn : n < 100) : hw_aI 0 (some 34) (nI n) σ = some (σ.2.2.1 34 n) := hw_Fai h (by decide) (by decide) hn (by decide)
theorem hw_B_34 {σ : hw_S} {n : Nat} {v : Int32} (h : hw_F σ) (hn : n < 100) : hw_sI (some 34) (nI n) v σ = some (hw_wI 34 n v σ) := hw_Fsi h (by decide) (by decide) hn (by decide)
theorem hw_A_35 {σ : hw_S} {n : Nat} (h : hw_F σ) (hn : n < 100) : hw_aI 0 (some 35) (nI n) σ = some (σ.2.2.1 35 n) := hw_Fai h (by decide) (by decide) hn (by decide)
theorem hw_B_35 {σ : hw_S} {n : Nat} {v : Int32} (h : hw_F σ) (hn : n < 100) : hw_sI (some 35) (nI n) v σ = some (hw_wI 35 n v σ) := hw_Fsi h (by decide) (by decide) hn (by decide)
theorem hw_A_36 {σ : hw_S} {n : Nat} (h : hw_F σ) (hn : n < 100) : hw_aI 0 (some 36) (nI n) σ = some (σ.2.2.1 36 n) := hw_Fai h (by decide) (by decide) hn (by decide)
theorem hw_B_36 {σ : hw_S} {n : Nat} {v : Int32} (h : hw_F σ) (hn : n < 100) : hw_sI (some 36) (nI n) v σ = some (hw_wI 36 n v σ) := hw_Fsi h (by decide) (by decide) hn (by decide)
theorem hw_A_37 {σ : hw_S} {n : Nat} (h : hw_F σ) (hn : n < 100) : hw_aI 0 (some 37) (nI n) σ = some (σ.2.2.1 37 n) := hw_Fai h (by decide) (by decide) hn (by decide)
theorem hw_B_37 {σ : hw_S} {n : Nat} {v : Int32} (h : hw_F σ) (hn : n < 100) : hw_sI (some 37) (nI n) v σ = some (hw_wI 37 n v σ) := hw_Fsi h (by decide) (by decide) hn (by decide)
theorem hw_A_38 {σ : hw_S} {n : Nat} (h : hw_F σ) (hn : n < 100) : hw_aI 0 (some 38) (nI n) σ = some (σ.2.2.1 38 n) := hw_Fai h (by decide) (by decide) hn (by decide)
theorem hw_B_38 {σ : hw_S} {n : Nat} {v : Int32} (h : hw_F σ) (hn : n < 100) : hw_sI (some 38) (nI n) v σ = some (hw_wI 38 n v σ) := hw_Fsi h (by decide) (by decide) hn (by decide)
theorem hw_A_39 {σ : hw_S} {n : Nat} (h : hw_F σ) (hn : n < 100) : hw_aI 0 (some 39) (nI n) σ = some (σ.2.2.1 39 n) := hw_Fai h (by decide) (by decide) hn (by decide)
theorem hw_B_39 {σ : hw_S} {n : Nat} {v : Int32} (h : hw_F σ) (hn : n < 100) : hw_sI (some 39) (nI n) v σ = some (hw_wI 39 n v σ) := hw_Fsi h (by decide) (by decide) hn (by decide)
theorem hw_A_40 {σ : hw_S} {n : Nat} (h : hw_F σ) (hn : n < 100) : hw_aI 0 (some 40) (nI n) σ = some (σ.2.2.1 40 n) := hw_Fai h (by decide) (by decide) hn (by decide)
theorem hw_B_40 {σ : hw_S} {n : Nat} {v : Int32} (h : hw_F σ) (hn : n < 100) : hw_sI (some 40) (nI n) v σ = some (hw_wI 40 n v σ) := hw_Fsi h (by decide) (by decide) hn (by decide)
theorem hw_G_41 {σ : hw_S} {k : Nat} (h : hw_F σ) : hw_gI (hw_q 12) k (some 41) σ = some (σ.2.2.1 41 k) := hw_Fgi h (by decide) (by decide)
theorem hw_V_41 {σ : hw_S} (h : hw_F σ) : hw_rv (hw_q 12) (some 41) σ = some 41 := hw_Frv h (by decide) (by decide)
theorem hw_W_41 {σ : hw_S} {k : Nat} {v : Int32} (h : hw_F σ) : hw_pI (hw_q 12) k (some 41) v σ = some (hw_wI 41 k v σ) := hw_Fpi h (by decide) (by decide)
theorem hw_A_42 {σ : hw_S} {n : Nat} (h : hw_F σ) (hn : n < 1396) : hw_aI 0 (some 42) (nI n) σ = some (σ.2.2.1 42 n) := hw_Fai h (by decide) (by decide) hn (by decide)
theorem hw_B_42 {σ : hw_S} {n : Nat} {v : Int32} (h : hw_F σ) (hn : n < 1396) : hw_sI (some 42) (nI n) v σ = some (hw_wI 42 n v σ) := hw_Fsi h (by decide) (by decide) hn (by decide)
theorem hw_A_43 {σ : hw_S} {n : Nat} (h : hw_F σ) (hn : n < 1396) : hw_aI 0 (some 43) (nI n) σ = some (σ.2.2.1 43 n) := hw_Fai h (by decide) (by decide) hn (by decide)
theorem hw_B_43 {σ : hw_S} {n : Nat} {v : Int32} (h : hw_F σ) (hn : n < 1396) : hw_sI (some 43) (nI n) v σ = some (hw_wI 43 n v σ) := hw_Fsi h (by decide) (by decide) hn (by decide)
theorem hw_A_44 {σ : hw_S} {n : Nat} (h : hw_F σ) (hn : n < 5) : hw_aI 0 (some 44) (nI n) σ = some (σ.2.2.1 44 n) := hw_Fai h (by decide) (by decide) hn (by decide)
theorem hw_B_44 {σ : hw_S} {n : Nat} {v : Int32} (h : hw_F σ) (hn : n < 5) : hw_sI (some 44) (nI n) v σ = some (hw_wI 44 n v σ) := hw_Fsi h (by decide) (by decide) hn (by decide)
theorem hw_A_46 {σ : hw_S} {n : Nat} (h : hw_F σ) (hn : n < 20) : hw_aI 0 (some 46) (nI n) σ = some (σ.2.2.1 46 n) := hw_Fai h (by decide) (by decide) hn (by decide)
theorem hw_B_46 {σ : hw_S} {n : Nat} {v : Int32} (h : hw_F σ) (hn : n < 20) : hw_sI (some 46) (nI n) v σ = some (hw_wI 46 n v σ) := hw_Fsi h (by decide) (by decide) hn (by decide)
theorem hw_A_47 {σ : hw_S} {n : Nat} (h : hw_F σ) (hn : n < 20) : hw_aI 0 (some 47) (nI n) σ = some (σ.2.2.1 47 n) := hw_Fai h (by decide) (by decide) hn (by decide)
theorem hw_B_47 {σ : hw_S} {n : Nat} {v : Int32} (h : hw_F σ) (hn : n < 20) : hw_sI (some 47) (nI n) v σ = some (hw_wI 47 n v σ) := hw_Fsi h (by decide) (by decide) hn (by decide)
theorem hw_A_48 {σ : hw_S} {n : Nat} (h : hw_F σ) (hn : n < 20) : hw_aI 0 (some 48) (nI n) σ = some (σ.2.2.1 48 n) := hw_Fai h (by decide) (by decide) hn (by decide)
theorem hw_B_48 {σ : hw_S} {n : Nat} {v : Int32} (h : hw_F σ) (hn : n < 20) : hw_sI (some 48) (nI n) v σ = some (hw_wI 48 n v σ) := hw_Fsi h (by decide) (by decide) hn (by decide)
theorem hw_A_49 {σ : hw_S} {n : Nat} (h : hw_F σ) (hn : n < 61) : hw_aI 0 (some 49) (nI n) σ = some (σ.2.2.1 49 n) := hw_Fai h (by decide) (by decide) hn (by decide)
theorem hw_B_49 {σ : hw_S} {n : Nat} {v : Int32} (h : hw_F σ) (hn : n < 61) : hw_sI (some 49) (nI n) v σ = some (hw_wI 49 n v σ) := hw_Fsi h (by decide) (by decide) hn (by decide)
theorem hw_A_50 {σ : hw_S} {n : Nat} (h : hw_F σ) (hn : n < 61) : hw_aI 0 (some 50) (nI n) σ = some (σ.2.2.1 50 n) := hw_Fai h (by decide) (by decide) hn (by decide)
theorem hw_B_50 {σ : hw_S} {n : Nat} {v : Int32} (h : hw_F σ) (hn : n < 61) : hw_sI (some 50) (nI n) v σ = some (hw_wI 50 n v σ) := hw_Fsi h (by decide) (by decide) hn (by decide)
theorem hw_A_51 {σ : hw_S} {n : Nat} (h : hw_F σ) (hn : n < 100) : hw_aI 0 (some 51) (nI n) σ = some (σ.2.2.1 51 n) := hw_Fai h (by decide) (by decide) hn (by decide)
theorem hw_B_51 {σ : hw_S} {n : Nat} {v : Int32} (h : hw_F σ) (hn : n < 100) : hw_sI (some 51) (nI n) v σ = some (hw_wI 51 n v σ) := hw_Fsi h (by decide) (by decide) hn (by decide)
theorem hw_A_52 {σ : hw_S} {n : Nat} (h : hw_F σ) (hn : n < 900) : hw_aI 0 (some 52) (nI n) σ = some (σ.2.2.1 52 n) := hw_Fai h (by decide) (by decide) hn (by decide)
theorem hw_B_52 {σ : hw_S} {n : Nat} {v : Int32} (h : hw_F σ) (hn : n < 900) : hw_sI (some 52) (nI n) v σ = some (hw_wI 52 n v σ) := hw_Fsi h (by decide) (by decide) hn (by decide)
theorem hw_A_53 {σ : hw_S} {n : Nat} (h : hw_F σ) (hn : n < 8) : hw_aI 0 (some 53) (nI n) σ = some (σ.2.2.1 53 n) := hw_Fai h (by decide) (by decide) hn (by decide)
theorem hw_B_53 {σ : hw_S} {n : Nat} {v : Int32} (h : hw_F σ) (hn : n < 8) : hw_sI (some 53) (nI n) v σ = some (hw_wI 53 n v σ) := hw_Fsi h (by decide) (by decide) hn (by decide)
theorem hw_A_54 {σ : hw_S} {n : Nat} (h : hw_F σ) (hn : n < 20) : hw_aI 0 (some 54) (nI n) σ = some (σ.2.2.1 54 n) := hw_Fai h (by decide) (by decide) hn (by decide)
theorem hw_B_54 {σ : hw_S} {n : Nat} {v : Int32} (h : hw_F σ) (hn : n < 20) : hw_sI (some 54) (nI n) v σ = some (hw_wI 54 n v σ) := hw_Fsi h (by decide) (by decide) hn (by decide)
