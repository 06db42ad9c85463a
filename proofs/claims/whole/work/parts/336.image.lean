/-! the pure layer: image, undo -/
theorem hw_Fsp {σ : hw_S} (h : hw_F σ) {t a n : Nat} {v : Option Nat} (ha : a < 55) (ht : hw_TG.getD a 0 = t + 21) (hn : n < hw_LN.getD a 0) (hL : hw_LN.getD a 0 < 2 ^ 31) (ok : hw_okP t v σ = true) : hw_sP t (some a) (nI n) v σ = some (hw_wP a n v σ) := by
  show (if (σ.1 a = t + 21 ∧ ¬ (nI n < 0 ∨ σ.2.1 a ≤ (nI n).toNatClampNeg)) ∧ hw_okP t v σ = true then _ else _) = _
  rw [h.1 a ha, h.2.1 a ha, if_pos ⟨⟨ht, hw_nIx hn hL⟩, ok⟩, nI_clamp (Nat.lt_trans hn hL)]
def hw_cp (a c n : Nat) (σ : hw_S) : hw_S := (σ.1, σ.2.1, (fun z => if z = c then (fun j => if j < n then σ.2.2.1 a j else σ.2.2.1 c j) else σ.2.2.1 z), σ.2.2.2)
theorem hw_cp_3 {a c n z j : Nat} {σ : hw_S} : (hw_cp a c n σ).2.2.1 z j = if z = c ∧ j < n then σ.2.2.1 a j else σ.2.2.1 z j := by
  show (if z = c then (fun j => if j < n then σ.2.2.1 a j else σ.2.2.1 c j) else σ.2.2.1 z) j = _
  by_cases hz : z = c
  · subst hz
    rw [if_pos rfl]
    by_cases hj : j < n
    · simp [hj]
    · simp [hj]
  · rw [if_neg hz, if_neg (fun c => hz c.1)]
theorem hw_cp_n {a c n z j : Nat} {σ : hw_S} (h : ¬ (z = c ∧ j < n)) : (hw_cp a c n σ).2.2.1 z j = σ.2.2.1 z j := by rw [hw_cp_3, if_neg h]
theorem hw_cp_y {a c n j : Nat} {σ : hw_S} (h : j < n) : (hw_cp a c n σ).2.2.1 c j = σ.2.2.1 a j := by rw [hw_cp_3, if_pos ⟨rfl, h⟩]
theorem hw_Fcp {σ : hw_S} (h : hw_F σ) {a c n : Nat} (ha : a < 55) (hc : c < 55) (hta : hw_TG.getD a 0 = 21) (htc : hw_TG.getD c 0 = 21) (hna : n ≤ hw_LN.getD a 0) (hnc : n ≤ hw_LN.getD c 0) (hn : n < 2 ^ 31) : hw_cpI (some a) (some c) (nI n) σ = some (hw_cp a c n σ) := by
  show (if (σ.1 a = 21 ∧ σ.1 c = 21) ∧ (¬ nI n < 0 ∧ (nI n).toNatClampNeg ≤ σ.2.1 a ∧ (nI n).toNatClampNeg ≤ σ.2.1 c) then _ else _) = _
  have e : (nI n).toNatClampNeg = n := nI_clamp hn
  rw [h.1 a ha, h.1 c hc, h.2.1 a ha, h.2.1 c hc, if_pos ⟨⟨hta, htc⟩, nI_pos hn, by rw [e]; exact hna, by rw [e]; exact hnc⟩]
  unfold hw_cp
  rw [e]
/-- tags, lengths, size as before; numbers but at A, references but at P -/
def hw_c (A P : Nat → Nat → Prop) (σ τ : hw_S) : Prop := τ.1 = σ.1 ∧ τ.2.1 = σ.2.1 ∧ τ.2.2.2.2 = σ.2.2.2.2 ∧ (∀ a k, ¬ A a k → τ.2.2.1 a k = σ.2.2.1 a k) ∧ ∀ a k, ¬ P a k → τ.2.2.2.1 a k = σ.2.2.2.1 a k
theorem hw_c.rf {A P : Nat → Nat → Prop} {σ : hw_S} : hw_c A P σ σ := ⟨rfl, rfl, rfl, fun _ _ _ => rfl, fun _ _ _ => rfl⟩
theorem hw_c.tr {A P : Nat → Nat → Prop} {σ τ υ : hw_S} (h : hw_c A P σ τ) (h2 : hw_c A P τ υ) : hw_c A P σ υ := ⟨h2.1.trans h.1, h2.2.1.trans h.2.1, h2.2.2.1.trans h.2.2.1, fun a k n => (h2.2.2.2.1 a k n).trans (h.2.2.2.1 a k n), fun a k n => (h2.2.2.2.2 a k n).trans (h.2.2.2.2 a k n)⟩
theorem hw_c.wP {A P : Nat → Nat → Prop} {σ : hw_S} {a k : Nat} {v : Option Nat} (h : P a k) : hw_c A P σ (hw_wP a k v σ) := ⟨rfl, rfl, rfl, fun _ _ _ => rfl, fun x j n => hw_wP_n (fun c => n (by rw [c.1, c.2]; exact h))⟩
theorem hw_c.wI {A P : Nat → Nat → Prop} {σ : hw_S} {a k : Nat} {v : Int32} (h : A a k) : hw_c A P σ (hw_wI a k v σ) := ⟨rfl, rfl, rfl, fun x j n => hw_wI_n (fun c => n (by rw [c.1, c.2]; exact h)), fun _ _ _ => rfl⟩
theorem hw_c.cp {A P : Nat → Nat → Prop} {σ : hw_S} {a c n : Nat} (h : ∀ j, A c j) : hw_c A P σ (hw_cp a c n σ) := ⟨rfl, rfl, rfl, fun x j m => hw_cp_n (fun e => m (by rw [e.1]; exact h j)), fun _ _ _ => rfl⟩
theorem hw_c.F {A P : Nat → Nat → Prop} {σ τ : hw_S} (h : hw_c A P σ τ) (hP : ∀ a k, P a k → a = 2 ∨ a = 3 ∨ a = 11 ∨ a = 12) (hF : hw_F σ) : hw_F τ := by
  refine hw_F_k hF (fun a _ => ⟨by rw [h.1], by rw [h.2.1]⟩) (fun a k _ h2 h3 h11 h12 _ => h.2.2.2.2 a k (fun c => by have := hP a k c; omega)) (by rw [h.2.2.1]; exact Nat.le_refl _)
theorem hw_c.k {A P : Nat → Nat → Prop} {σ τ : hw_S} (h : hw_c A P σ τ) (hA : ∀ a k, A a k → a < 55) (hP : ∀ a k, P a k → a < 55) : hw_k σ τ :=
  ⟨by rw [h.2.2.1]; exact Nat.le_refl _, fun a h3 h4 => ⟨by rw [h.1], by rw [h.2.1], funext fun k => h.2.2.2.1 a k (fun c => absurd (hA a k c) (by omega)), funext fun k => h.2.2.2.2 a k (fun c => absurd (hP a k c) (by omega))⟩⟩
theorem hw_c.mono {A P B Q : Nat → Nat → Prop} {σ τ : hw_S} (h : hw_c A P σ τ) (hA : ∀ a k, A a k → B a k) (hP : ∀ a k, P a k → Q a k) : hw_c B Q σ τ := ⟨h.1, h.2.1, h.2.2.1, fun a k n => h.2.2.2.1 a k (fun c => n (hA a k c)), fun a k n => h.2.2.2.2 a k (fun c => n (hP a k c))⟩
theorem hw_d.c {A P : Nat → Nat → Prop} {σ τ : hw_S} (h : hw_d A σ τ) : hw_c A P σ τ := ⟨h.1, h.2.1, by rw [h.2.2.1], h.2.2.2, fun a k _ => by rw [h.2.2.1]⟩
theorem hw_ok9 {σ : hw_S} {v : Option Nat} (h : ∀ a, v = some a → σ.1 a = 10) : hw_okP 3 v σ = true := by
  cases v with
  | none => rfl
  | some a =>
    show hw_q 9 (σ.1 a) = true
    rw [h a rfl]
    decide
theorem hw_okL {σ : hw_S} {v : Option Nat} (h : ∀ a, v = some a → hw_qL (σ.1 a) = true) : hw_okP 2 v σ = true := by
  cases v with
  | none => rfl
  | some a => exact h a rfl
def hw_ab10 (a k : Nat) : Prop := (a = 10 ∧ (k = 1 ∨ k = 3 ∨ k = 5 ∨ k = 7 ∨ k = 9 ∨ k = 13)) ∨ (13 ≤ a ∧ a ≤ 18)
def hw_pb10 (a _k : Nat) : Prop := a = 11 ∨ a = 12
theorem hw_pb10_i : ∀ a k, hw_pb10 a k → a = 2 ∨ a = 3 ∨ a = 11 ∨ a = 12 := fun a k h => by unfold hw_pb10 at h; omega
def hw_fin10 (σ τ : hw_S) : Prop := hw_c hw_ab10 hw_pb10 σ τ ∧ (∀ i, i < 5 → τ.2.2.2.1 11 i = σ.2.2.2.1 2 i) ∧ (∀ i, i < 8 → τ.2.2.2.1 12 i = σ.2.2.2.1 3 i) ∧ (∀ k, k = 1 ∨ k = 3 ∨ k = 5 ∨ k = 7 ∨ k = 9 ∨ k = 13 → τ.2.2.1 10 k = σ.2.2.1 1 k) ∧ ∀ d k, 3 ≤ d → d ≤ 8 → k < (if d = 3 then 120 else if d = 4 then 20 else if d = 5 then 8 else 12) → τ.2.2.1 (10 + d) k = σ.2.2.1 (1 + d) k
theorem c_bl10_c {ρ : hw_S} (hF : hw_F ρ) : ∀ fuel, ∃ τ, m8_becomeLike_b27 (fuel + 1) 10 (some 1) (nI 8) ρ = some τ ∧ hw_c hw_ab10 hw_pb10 ρ τ ∧ (∀ a k, τ.2.2.2.1 a k = ρ.2.2.2.1 a k) ∧ (∀ k, k = 1 ∨ k = 3 ∨ k = 5 ∨ k = 7 ∨ k = 9 ∨ k = 13 → τ.2.2.1 10 k = ρ.2.2.1 1 k) ∧ ∀ d k, 3 ≤ d → d ≤ 8 → k < (if d = 3 then 120 else if d = 4 then 20 else if d = 5 then 8 else 12) → τ.2.2.1 (10 + d) k = ρ.2.2.1 (1 + d) k := by
  intro fuel
  have F1 : hw_F (hw_cp 4 13 120 ρ) := hF
  have F2 : hw_F (hw_cp 5 14 20 (hw_cp 4 13 120 ρ)) := hF
  have F3 : hw_F (hw_cp 6 15 8 (hw_cp 5 14 20 (hw_cp 4 13 120 ρ))) := hF
  have F4 : hw_F (hw_cp 7 16 12 (hw_cp 6 15 8 (hw_cp 5 14 20 (hw_cp 4 13 120 ρ)))) := hF
  have F5 : hw_F (hw_cp 8 17 12 (hw_cp 7 16 12 (hw_cp 6 15 8 (hw_cp 5 14 20 (hw_cp 4 13 120 ρ))))) := hF
  have F6 : hw_F (hw_cp 9 18 12 (hw_cp 8 17 12 (hw_cp 7 16 12 (hw_cp 6 15 8 (hw_cp 5 14 20 (hw_cp 4 13 120 ρ)))))) := hF
  have F7 : hw_F (hw_wI 10 1 (ρ.2.2.1 1 1) (hw_cp 9 18 12 (hw_cp 8 17 12 (hw_cp 7 16 12 (hw_cp 6 15 8 (hw_cp 5 14 20 (hw_cp 4 13 120 ρ))))))) := hF
  have F8 : hw_F (hw_wI 10 3 (ρ.2.2.1 1 3) (hw_wI 10 1 (ρ.2.2.1 1 1) (hw_cp 9 18 12 (hw_cp 8 17 12 (hw_cp 7 16 12 (hw_cp 6 15 8 (hw_cp 5 14 20 (hw_cp 4 13 120 ρ)))))))) := hF
  have F9 : hw_F (hw_wI 10 5 (ρ.2.2.1 1 5) (hw_wI 10 3 (ρ.2.2.1 1 3) (hw_wI 10 1 (ρ.2.2.1 1 1) (hw_cp 9 18 12 (hw_cp 8 17 12 (hw_cp 7 16 12 (hw_cp 6 15 8 (hw_cp 5 14 20 (hw_cp 4 13 120 ρ))))))))) := hF
  have F10 : hw_F (hw_wI 10 7 (ρ.2.2.1 1 7) (hw_wI 10 5 (ρ.2.2.1 1 5) (hw_wI 10 3 (ρ.2.2.1 1 3) (hw_wI 10 1 (ρ.2.2.1 1 1) (hw_cp 9 18 12 (hw_cp 8 17 12 (hw_cp 7 16 12 (hw_cp 6 15 8 (hw_cp 5 14 20 (hw_cp 4 13 120 ρ)))))))))) := hF
  have F11 : hw_F (hw_wI 10 9 (ρ.2.2.1 1 9) (hw_wI 10 7 (ρ.2.2.1 1 7) (hw_wI 10 5 (ρ.2.2.1 1 5) (hw_wI 10 3 (ρ.2.2.1 1 3) (hw_wI 10 1 (ρ.2.2.1 1 1) (hw_cp 9 18 12 (hw_cp 8 17 12 (hw_cp 7 16 12 (hw_cp 6 15 8 (hw_cp 5 14 20 (hw_cp 4 13 120 ρ))))))))))) := hF
  have F12 : hw_F (hw_wI 10 13 (ρ.2.2.1 1 13) (hw_wI 10 9 (ρ.2.2.1 1 9) (hw_wI 10 7 (ρ.2.2.1 1 7) (hw_wI 10 5 (ρ.2.2.1 1 5) (hw_wI 10 3 (ρ.2.2.1 1 3) (hw_wI 10 1 (ρ.2.2.1 1 1) (hw_cp 9 18 12 (hw_cp 8 17 12 (hw_cp 7 16 12 (hw_cp 6 15 8 (hw_cp 5 14 20 (hw_cp 4 13 120 ρ)))))))))))) := hF
  have c1 : hw_cpI (some 4) (some 13) (120 : Int32) ρ = some (hw_cp 4 13 120 ρ) := hw_Fcp (n := 120) hF (by decide) (by decide) (by decide) (by decide) (by decide) (by decide) (by decide)
  have c2 : hw_cpI (some 5) (some 14) (20 : Int32) (hw_cp 4 13 120 ρ) = some (hw_cp 5 14 20 (hw_cp 4 13 120 ρ)) := hw_Fcp (n := 20) F1 (by decide) (by decide) (by decide) (by decide) (by decide) (by decide) (by decide)
  have c3 : hw_cpI (some 6) (some 15) (8 : Int32) (hw_cp 5 14 20 (hw_cp 4 13 120 ρ)) = some (hw_cp 6 15 8 (hw_cp 5 14 20 (hw_cp 4 13 120 ρ))) := hw_Fcp (n := 8) F2 (by decide) (by decide) (by decide) (by decide) (by decide) (by decide) (by decide)
  have c4 : hw_cpI (some 7) (some 16) (12 : Int32) (hw_cp 6 15 8 (hw_cp 5 14 20 (hw_cp 4 13 120 ρ))) = some (hw_cp 7 16 12 (hw_cp 6 15 8 (hw_cp 5 14 20 (hw_cp 4 13 120 ρ)))) := hw_Fcp (n := 12) F3 (by decide) (by decide) (by decide) (by decide) (by decide) (by decide) (by decide)
  have c5 : hw_cpI (some 8) (some 17) (12 : Int32) (hw_cp 7 16 12 (hw_cp 6 15 8 (hw_cp 5 14 20 (hw_cp 4 13 120 ρ)))) = some (hw_cp 8 17 12 (hw_cp 7 16 12 (hw_cp 6 15 8 (hw_cp 5 14 20 (hw_cp 4 13 120 ρ))))) := hw_Fcp (n := 12) F4 (by decide) (by decide) (by decide) (by decide) (by decide) (by decide) (by decide)
  have c6 : hw_cpI (some 9) (some 18) (12 : Int32) (hw_cp 8 17 12 (hw_cp 7 16 12 (hw_cp 6 15 8 (hw_cp 5 14 20 (hw_cp 4 13 120 ρ))))) = some (hw_cp 9 18 12 (hw_cp 8 17 12 (hw_cp 7 16 12 (hw_cp 6 15 8 (hw_cp 5 14 20 (hw_cp 4 13 120 ρ)))))) := hw_Fcp (n := 12) F5 (by decide) (by decide) (by decide) (by decide) (by decide) (by decide) (by decide)
  have v1 : (hw_cp 9 18 12 (hw_cp 8 17 12 (hw_cp 7 16 12 (hw_cp 6 15 8 (hw_cp 5 14 20 (hw_cp 4 13 120 ρ)))))).2.2.1 1 1 = ρ.2.2.1 1 1 := by rw [hw_cp_n (by omega), hw_cp_n (by omega), hw_cp_n (by omega), hw_cp_n (by omega), hw_cp_n (by omega), hw_cp_n (by omega)]
  have v2 : (hw_wI 10 1 (ρ.2.2.1 1 1) (hw_cp 9 18 12 (hw_cp 8 17 12 (hw_cp 7 16 12 (hw_cp 6 15 8 (hw_cp 5 14 20 (hw_cp 4 13 120 ρ))))))).2.2.1 1 3 = ρ.2.2.1 1 3 := by rw [hw_wI_n (by omega), hw_cp_n (by omega), hw_cp_n (by omega), hw_cp_n (by omega), hw_cp_n (by omega), hw_cp_n (by omega), hw_cp_n (by omega)]
  have v3 : (hw_wI 10 3 (ρ.2.2.1 1 3) (hw_wI 10 1 (ρ.2.2.1 1 1) (hw_cp 9 18 12 (hw_cp 8 17 12 (hw_cp 7 16 12 (hw_cp 6 15 8 (hw_cp 5 14 20 (hw_cp 4 13 120 ρ)))))))).2.2.1 1 5 = ρ.2.2.1 1 5 := by rw [hw_wI_n (by omega), hw_wI_n (by omega), hw_cp_n (by omega), hw_cp_n (by omega), hw_cp_n (by omega), hw_cp_n (by omega), hw_cp_n (by omega), hw_cp_n (by omega)]
  have v4 : (hw_wI 10 5 (ρ.2.2.1 1 5) (hw_wI 10 3 (ρ.2.2.1 1 3) (hw_wI 10 1 (ρ.2.2.1 1 1) (hw_cp 9 18 12 (hw_cp 8 17 12 (hw_cp 7 16 12 (hw_cp 6 15 8 (hw_cp 5 14 20 (hw_cp 4 13 120 ρ))))))))).2.2.1 1 7 = ρ.2.2.1 1 7 := by rw [hw_wI_n (by omega), hw_wI_n (by omega), hw_wI_n (by omega), hw_cp_n (by omega), hw_cp_n (by omega), hw_cp_n (by omega), hw_cp_n (by omega), hw_cp_n (by omega), hw_cp_n (by omega)]
  have v5 : (hw_wI 10 7 (ρ.2.2.1 1 7) (hw_wI 10 5 (ρ.2.2.1 1 5) (hw_wI 10 3 (ρ.2.2.1 1 3) (hw_wI 10 1 (ρ.2.2.1 1 1) (hw_cp 9 18 12 (hw_cp 8 17 12 (hw_cp 7 16 12 (hw_cp 6 15 8 (hw_cp 5 14 20 (hw_cp 4 13 120 ρ)))))))))).2.2.1 1 9 = ρ.2.2.1 1 9 := by rw [hw_wI_n (by omega), hw_wI_n (by omega), hw_wI_n (by omega), hw_wI_n (by omega), hw_cp_n (by omega), hw_cp_n (by omega), hw_cp_n (by omega), hw_cp_n (by omega), hw_cp_n (by omega), hw_cp_n (by omega)]
  have v6 : (hw_wI 10 9 (ρ.2.2.1 1 9) (hw_wI 10 7 (ρ.2.2.1 1 7) (hw_wI 10 5 (ρ.2.2.1 1 5) (hw_wI 10 3 (ρ.2.2.1 1 3) (hw_wI 10 1 (ρ.2.2.1 1 1) (hw_cp 9 18 12 (hw_cp 8 17 12 (hw_cp 7 16 12 (hw_cp 6 15 8 (hw_cp 5 14 20 (hw_cp 4 13 120 ρ))))))))))).2.2.1 1 13 = ρ.2.2.1 1 13 := by rw [hw_wI_n (by omega), hw_wI_n (by omega), hw_wI_n (by omega), hw_wI_n (by omega), hw_wI_n (by omega), hw_cp_n (by omega), hw_cp_n (by omega), hw_cp_n (by omega), hw_cp_n (by omega), hw_cp_n (by omega), hw_cp_n (by omega)]
  refine ⟨(hw_wI 10 13 (ρ.2.2.1 1 13) (hw_wI 10 9 (ρ.2.2.1 1 9) (hw_wI 10 7 (ρ.2.2.1 1 7) (hw_wI 10 5 (ρ.2.2.1 1 5) (hw_wI 10 3 (ρ.2.2.1 1 3) (hw_wI 10 1 (ρ.2.2.1 1 1) (hw_cp 9 18 12 (hw_cp 8 17 12 (hw_cp 7 16 12 (hw_cp 6 15 8 (hw_cp 5 14 20 (hw_cp 4 13 120 ρ)))))))))))), ?_, ?_, fun _ _ => rfl, ?_, ?_⟩
  · rw [m8_becomeLike_b27, if_pos (show (8 : Int32) ≤ nI 8 from by decide), hw_P_1_4 hF, Option.bind_some, hw_P_10_4 hF, Option.bind_some, c1, Option.bind_some, hw_P_1_6 F1, Option.bind_some, hw_P_10_6 F1, Option.bind_some, c2, Option.bind_some, hw_P_1_8 F2, Option.bind_some, hw_P_10_8 F2, Option.bind_some, c3, Option.bind_some, hw_P_1_10 F3, Option.bind_some, hw_P_10_10 F3, Option.bind_some, c4, Option.bind_some, hw_P_1_11 F4, Option.bind_some, hw_P_10_11 F4, Option.bind_some, c5, Option.bind_some, hw_P_1_12 F5, Option.bind_some, hw_P_10_12 F5, Option.bind_some, c6, Option.bind_some, hw_G_1 F6, Option.bind_some, v1, hw_W_10 F6, Option.bind_some, hw_G_1 F7, Option.bind_some, v2, hw_W_10 F7, Option.bind_some, hw_G_1 F8, Option.bind_some, v3, hw_W_10 F8, Option.bind_some, hw_G_1 F9, Option.bind_some, v4, hw_W_10 F9, Option.bind_some, hw_G_1 F10, Option.bind_some, v5, hw_W_10 F10, Option.bind_some, hw_G_1 F11, Option.bind_some, v6, hw_W_10 F11, Option.bind_some]
  · exact ((((((((((((hw_c.rf).tr (hw_c.cp (fun j => by unfold hw_ab10; omega))).tr (hw_c.cp (fun j => by unfold hw_ab10; omega))).tr (hw_c.cp (fun j => by unfold hw_ab10; omega))).tr (hw_c.cp (fun j => by unfold hw_ab10; omega))).tr (hw_c.cp (fun j => by unfold hw_ab10; omega))).tr (hw_c.cp (fun j => by unfold hw_ab10; omega))).tr (hw_c.wI (by unfold hw_ab10; omega))).tr (hw_c.wI (by unfold hw_ab10; omega))).tr (hw_c.wI (by unfold hw_ab10; omega))).tr (hw_c.wI (by unfold hw_ab10; omega))).tr (hw_c.wI (by unfold hw_ab10; omega))).tr (hw_c.wI (by unfold hw_ab10; omega))
  · intro k hk
    rcases hk with rfl | rfl | rfl | rfl | rfl | rfl
    · rw [hw_wI_n (by omega), hw_wI_n (by omega), hw_wI_n (by omega), hw_wI_n (by omega), hw_wI_n (by omega), hw_wI_y]
    · rw [hw_wI_n (by omega), hw_wI_n (by omega), hw_wI_n (by omega), hw_wI_n (by omega), hw_wI_y]
    · rw [hw_wI_n (by omega), hw_wI_n (by omega), hw_wI_n (by omega), hw_wI_y]
    · rw [hw_wI_n (by omega), hw_wI_n (by omega), hw_wI_y]
    · rw [hw_wI_n (by omega), hw_wI_y]
    · rw [hw_wI_y]
  · intro d k h3 h8 hk
    have hd : d = 3 ∨ d = 4 ∨ d = 5 ∨ d = 6 ∨ d = 7 ∨ d = 8 := by omega
    rcases hd with rfl | rfl | rfl | rfl | rfl | rfl
    · have hk : k < 120 := hk
      show (hw_wI 10 13 (ρ.2.2.1 1 13) (hw_wI 10 9 (ρ.2.2.1 1 9) (hw_wI 10 7 (ρ.2.2.1 1 7) (hw_wI 10 5 (ρ.2.2.1 1 5) (hw_wI 10 3 (ρ.2.2.1 1 3) (hw_wI 10 1 (ρ.2.2.1 1 1) (hw_cp 9 18 12 (hw_cp 8 17 12 (hw_cp 7 16 12 (hw_cp 6 15 8 (hw_cp 5 14 20 (hw_cp 4 13 120 ρ)))))))))))).2.2.1 13 k = ρ.2.2.1 4 k
      rw [hw_wI_n (by omega), hw_wI_n (by omega), hw_wI_n (by omega), hw_wI_n (by omega), hw_wI_n (by omega), hw_wI_n (by omega), hw_cp_n (by omega), hw_cp_n (by omega), hw_cp_n (by omega), hw_cp_n (by omega), hw_cp_n (by omega), hw_cp_y hk]
    · have hk : k < 20 := hk
      show (hw_wI 10 13 (ρ.2.2.1 1 13) (hw_wI 10 9 (ρ.2.2.1 1 9) (hw_wI 10 7 (ρ.2.2.1 1 7) (hw_wI 10 5 (ρ.2.2.1 1 5) (hw_wI 10 3 (ρ.2.2.1 1 3) (hw_wI 10 1 (ρ.2.2.1 1 1) (hw_cp 9 18 12 (hw_cp 8 17 12 (hw_cp 7 16 12 (hw_cp 6 15 8 (hw_cp 5 14 20 (hw_cp 4 13 120 ρ)))))))))))).2.2.1 14 k = ρ.2.2.1 5 k
      rw [hw_wI_n (by omega), hw_wI_n (by omega), hw_wI_n (by omega), hw_wI_n (by omega), hw_wI_n (by omega), hw_wI_n (by omega), hw_cp_n (by omega), hw_cp_n (by omega), hw_cp_n (by omega), hw_cp_n (by omega), hw_cp_y hk, hw_cp_n (by omega)]
    · have hk : k < 8 := hk
      show (hw_wI 10 13 (ρ.2.2.1 1 13) (hw_wI 10 9 (ρ.2.2.1 1 9) (hw_wI 10 7 (ρ.2.2.1 1 7) (hw_wI 10 5 (ρ.2.2.1 1 5) (hw_wI 10 3 (ρ.2.2.1 1 3) (hw_wI 10 1 (ρ.2.2.1 1 1) (hw_cp 9 18 12 (hw_cp 8 17 12 (hw_cp 7 16 12 (hw_cp 6 15 8 (hw_cp 5 14 20 (hw_cp 4 13 120 ρ)))))))))))).2.2.1 15 k = ρ.2.2.1 6 k
      rw [hw_wI_n (by omega), hw_wI_n (by omega), hw_wI_n (by omega), hw_wI_n (by omega), hw_wI_n (by omega), hw_wI_n (by omega), hw_cp_n (by omega), hw_cp_n (by omega), hw_cp_n (by omega), hw_cp_y hk, hw_cp_n (by omega), hw_cp_n (by omega)]
    · have hk : k < 12 := hk
      show (hw_wI 10 13 (ρ.2.2.1 1 13) (hw_wI 10 9 (ρ.2.2.1 1 9) (hw_wI 10 7 (ρ.2.2.1 1 7) (hw_wI 10 5 (ρ.2.2.1 1 5) (hw_wI 10 3 (ρ.2.2.1 1 3) (hw_wI 10 1 (ρ.2.2.1 1 1) (hw_cp 9 18 12 (hw_cp 8 17 12 (hw_cp 7 16 12 (hw_cp 6 15 8 (hw_cp 5 14 20 (hw_cp 4 13 120 ρ)))))))))))).2.2.1 16 k = ρ.2.2.1 7 k
      rw [hw_wI_n (by omega), hw_wI_n (by omega), hw_wI_n (by omega), hw_wI_n (by omega), hw_wI_n (by omega), hw_wI_n (by omega), hw_cp_n (by omega), hw_cp_n (by omega), hw_cp_y hk, hw_cp_n (by omega), hw_cp_n (by omega), hw_cp_n (by omega)]
    · have hk : k < 12 := hk
      show (hw_wI 10 13 (ρ.2.2.1 1 13) (hw_wI 10 9 (ρ.2.2.1 1 9) (hw_wI 10 7 (ρ.2.2.1 1 7) (hw_wI 10 5 (ρ.2.2.1 1 5) (hw_wI 10 3 (ρ.2.2.1 1 3) (hw_wI 10 1 (ρ.2.2.1 1 1) (hw_cp 9 18 12 (hw_cp 8 17 12 (hw_cp 7 16 12 (hw_cp 6 15 8 (hw_cp 5 14 20 (hw_cp 4 13 120 ρ)))))))))))).2.2.1 17 k = ρ.2.2.1 8 k
      rw [hw_wI_n (by omega), hw_wI_n (by omega), hw_wI_n (by omega), hw_wI_n (by omega), hw_wI_n (by omega), hw_wI_n (by omega), hw_cp_n (by omega), hw_cp_y hk, hw_cp_n (by omega), hw_cp_n (by omega), hw_cp_n (by omega), hw_cp_n (by omega)]
    · have hk : k < 12 := hk
      show (hw_wI 10 13 (ρ.2.2.1 1 13) (hw_wI 10 9 (ρ.2.2.1 1 9) (hw_wI 10 7 (ρ.2.2.1 1 7) (hw_wI 10 5 (ρ.2.2.1 1 5) (hw_wI 10 3 (ρ.2.2.1 1 3) (hw_wI 10 1 (ρ.2.2.1 1 1) (hw_cp 9 18 12 (hw_cp 8 17 12 (hw_cp 7 16 12 (hw_cp 6 15 8 (hw_cp 5 14 20 (hw_cp 4 13 120 ρ)))))))))))).2.2.1 18 k = ρ.2.2.1 9 k
      rw [hw_wI_n (by omega), hw_wI_n (by omega), hw_wI_n (by omega), hw_wI_n (by omega), hw_wI_n (by omega), hw_wI_n (by omega), hw_cp_y hk, hw_cp_n (by omega), hw_cp_n (by omega), hw_cp_n (by omega), hw_cp_n (by omega), hw_cp_n (by omega)]
theorem c_bl10_l : ∀ d i fuel ρ, i + d = 8 → d < fuel → hw_F ρ → (∀ i, i < 8 → ∀ a, ρ.2.2.2.1 3 i = some a → hw_qL (ρ.1 a) = true) → ∃ τ, m8_becomeLike_b27 fuel 10 (some 1) (nI i) ρ = some τ ∧ hw_c hw_ab10 hw_pb10 ρ τ ∧ (∀ a k, a ≠ 12 → τ.2.2.2.1 a k = ρ.2.2.2.1 a k) ∧ (∀ k, k < i → τ.2.2.2.1 12 k = ρ.2.2.2.1 12 k) ∧ (∀ k, i ≤ k → k < 8 → τ.2.2.2.1 12 k = ρ.2.2.2.1 3 k) ∧ (∀ k, k = 1 ∨ k = 3 ∨ k = 5 ∨ k = 7 ∨ k = 9 ∨ k = 13 → τ.2.2.1 10 k = ρ.2.2.1 1 k) ∧ ∀ d k, 3 ≤ d → d ≤ 8 → k < (if d = 3 then 120 else if d = 4 then 20 else if d = 5 then 8 else 12) → τ.2.2.1 (10 + d) k = ρ.2.2.1 (1 + d) k := by
  intro d
  induction d with
  | zero =>
    intro i fuel ρ e hf hF hok
    obtain ⟨fuel, rfl⟩ : ∃ k, fuel = k + 1 := ⟨fuel - 1, by omega⟩
    have e : i = 8 := e
    subst e
    obtain ⟨τ, g1, g2, g3, g4, g5⟩ := c_bl10_c hF fuel
    exact ⟨τ, g1, g2, fun a k _ => g3 a k, fun k _ => g3 12 k, fun k h1 h2 => by omega, g4, g5⟩
  | succ d ih =>
    intro i fuel ρ e hf hF hok
    obtain ⟨fuel, rfl⟩ : ∃ k, fuel = k + 1 := ⟨fuel - 1, by omega⟩
    have hi : i < 8 := by omega
    have F1 : hw_F (hw_wP 12 i (ρ.2.2.2.1 3 i) ρ) := hw_F_wP hF (by omega)
    have N : ∀ a k, a ≠ 12 → (hw_wP 12 i (ρ.2.2.2.1 3 i) ρ).2.2.2.1 a k = ρ.2.2.2.1 a k := fun a k h => hw_wP_n (fun c => h c.1)
    obtain ⟨τ, g1, g2, g3, g4, g5, g6, g7⟩ := ih (i + 1) fuel (hw_wP 12 i (ρ.2.2.2.1 3 i) ρ) (by omega) (by omega) F1 (fun j hj a ha => hok j hj a (by rw [N 3 j (by omega)] at ha; exact ha))
    refine ⟨τ, ?_, (hw_c.wP (by unfold hw_pb10; omega)).tr g2, fun a k h => (g3 a k h).trans (N a k h), fun k hk => ?_, fun k h1 h2 => ?_, g6, g7⟩
    · rw [m8_becomeLike_b27, if_neg (show ¬ (8 : Int32) ≤ nI i from nI_ge (b := 8) hi (by decide)), hw_P_10_2 hF, Option.bind_some, hw_P_1_2 hF, Option.bind_some, hw_A_3 hF hi, Option.bind_some, hw_Fsp (t := 2) (a := 12) hF (by decide) (by decide) (show i < 8 from hi) (by decide) (hw_okL (fun a ha => hok i hi a ha)), Option.bind_some, nI_1]
      exact g1
    · rw [g4 k (by omega), hw_wP_n (by omega)]
    · by_cases hki : k = i
      · rw [hki, g4 i (by omega), hw_wP_y]
      · rw [g5 k (by omega) h2, N 3 k (by omega)]
theorem c_bl10 {σ : hw_S} (hF0 : hw_F σ) (hp : hw_pt σ 1) : ∃ τ, m8_becomeLike 10 (some 1) σ = some τ ∧ hw_fin10 σ τ := by
  have key : ∀ d i fuel ρ, i + d = 5 → d < fuel → hw_F ρ → (∀ i, i < 5 → ∀ a, ρ.2.2.2.1 2 i = some a → ρ.1 a = 10) → (∀ i, i < 8 → ∀ a, ρ.2.2.2.1 3 i = some a → hw_qL (ρ.1 a) = true) → ∃ τ, m8_becomeLike_b2 fuel 10 (some 1) (nI i) ρ = some τ ∧ hw_c hw_ab10 hw_pb10 ρ τ ∧ (∀ k, k < i → τ.2.2.2.1 11 k = ρ.2.2.2.1 11 k) ∧ (∀ k, i ≤ k → k < 5 → τ.2.2.2.1 11 k = ρ.2.2.2.1 2 k) ∧ (∀ k, k < 8 → τ.2.2.2.1 12 k = ρ.2.2.2.1 3 k) ∧ (∀ k, k = 1 ∨ k = 3 ∨ k = 5 ∨ k = 7 ∨ k = 9 ∨ k = 13 → τ.2.2.1 10 k = ρ.2.2.1 1 k) ∧ ∀ d k, 3 ≤ d → d ≤ 8 → k < (if d = 3 then 120 else if d = 4 then 20 else if d = 5 then 8 else 12) → τ.2.2.1 (10 + d) k = ρ.2.2.1 (1 + d) k := by
    intro d
    induction d with
    | zero =>
      intro i fuel ρ e hf hF ok1 ok2
      obtain ⟨fuel, rfl⟩ : ∃ k, fuel = k + 1 := ⟨fuel - 1, by omega⟩
      have e : i = 5 := e
      subst e
      obtain ⟨τ, g1, g2, g3, g4, g5, g6, g7⟩ := c_bl10_l 8 0 hw_fu ρ (by decide) (by decide) hF ok2
      refine ⟨τ, ?_, g2, fun k _ => g3 11 k (by decide), fun k h1 h2 => by omega, fun k h => g5 k (Nat.zero_le k) h, g6, g7⟩
      rw [m8_becomeLike_b2, if_pos (show (5 : Int32) ≤ nI 5 from by decide)]
      exact g1
    | succ d ih =>
      intro i fuel ρ e hf hF ok1 ok2
      obtain ⟨fuel, rfl⟩ : ∃ k, fuel = k + 1 := ⟨fuel - 1, by omega⟩
      have hi : i < 5 := by omega
      have F1 : hw_F (hw_wP 11 i (ρ.2.2.2.1 2 i) ρ) := hw_F_wP hF (by omega)
      have N : ∀ a k, a ≠ 11 → (hw_wP 11 i (ρ.2.2.2.1 2 i) ρ).2.2.2.1 a k = ρ.2.2.2.1 a k := fun a k h => hw_wP_n (fun c => h c.1)
      obtain ⟨τ, g1, g2, g4, g5, g5l, g6, g7⟩ := ih (i + 1) fuel (hw_wP 11 i (ρ.2.2.2.1 2 i) ρ) (by omega) (by omega) F1 (fun j hj a ha => ok1 j hj a (by rw [N 2 j (by omega)] at ha; exact ha)) (fun j hj a ha => ok2 j hj a (by rw [N 3 j (by omega)] at ha; exact ha))
      refine ⟨τ, ?_, (hw_c.wP (by unfold hw_pb10; omega)).tr g2, fun k hk => ?_, fun k h1 h2 => ?_, fun k h => (g5l k h).trans (N 3 k (by omega)), g6, g7⟩
      · rw [m8_becomeLike_b2, if_neg (show ¬ (5 : Int32) ≤ nI i from nI_ge (b := 5) hi (by decide)), hw_P_10_0 hF, Option.bind_some, hw_P_1_0 hF, Option.bind_some, hw_A_2 hF hi, Option.bind_some, hw_Fsp (t := 3) (a := 11) hF (by decide) (by decide) (show i < 5 from hi) (by decide) (hw_ok9 (fun a ha => ok1 i hi a ha)), Option.bind_some, nI_1]
        exact g1
      · rw [g4 k (by omega), hw_wP_n (by omega)]
      · by_cases hki : k = i
        · rw [hki, g4 i (by omega), hw_wP_y]
        · rw [g5 k (by omega) h2, N 2 k (by omega)]
  obtain ⟨τ, g1, g2, g3, g4, g5, g6, g7⟩ := key 5 0 hw_fu σ (by decide) (by decide) hF0 (fun i hi a ha => (hp.1 i hi a ha).2) (fun i hi a ha => (hp.2 i hi a ha).2)
  exact ⟨τ, g1, g2, fun i hi => g4 i (Nat.zero_le i) hi, g5, g6, g7⟩
def hw_ab1 (a k : Nat) : Prop := (a = 1 ∧ (k = 1 ∨ k = 3 ∨ k = 5 ∨ k = 7 ∨ k = 9 ∨ k = 13)) ∨ (4 ≤ a ∧ a ≤ 9)
def hw_pb1 (a _k : Nat) : Prop := a = 2 ∨ a = 3
theorem hw_pb1_i : ∀ a k, hw_pb1 a k → a = 2 ∨ a = 3 ∨ a = 11 ∨ a = 12 := fun a k h => by unfold hw_pb1 at h; omega
def hw_fin1 (σ τ : hw_S) : Prop := hw_c hw_ab1 hw_pb1 σ τ ∧ (∀ i, i < 5 → τ.2.2.2.1 2 i = σ.2.2.2.1 11 i) ∧ (∀ i, i < 8 → τ.2.2.2.1 3 i = σ.2.2.2.1 12 i) ∧ (∀ k, k = 1 ∨ k = 3 ∨ k = 5 ∨ k = 7 ∨ k = 9 ∨ k = 13 → τ.2.2.1 1 k = σ.2.2.1 10 k) ∧ ∀ d k, 3 ≤ d → d ≤ 8 → k < (if d = 3 then 120 else if d = 4 then 20 else if d = 5 then 8 else 12) → τ.2.2.1 (1 + d) k = σ.2.2.1 (10 + d) k
theorem c_bl1_c {ρ : hw_S} (hF : hw_F ρ) : ∀ fuel, ∃ τ, m8_becomeLike_b27 (fuel + 1) 1 (some 10) (nI 8) ρ = some τ ∧ hw_c hw_ab1 hw_pb1 ρ τ ∧ (∀ a k, τ.2.2.2.1 a k = ρ.2.2.2.1 a k) ∧ (∀ k, k = 1 ∨ k = 3 ∨ k = 5 ∨ k = 7 ∨ k = 9 ∨ k = 13 → τ.2.2.1 1 k = ρ.2.2.1 10 k) ∧ ∀ d k, 3 ≤ d → d ≤ 8 → k < (if d = 3 then 120 else if d = 4 then 20 else if d = 5 then 8 else 12) → τ.2.2.1 (1 + d) k = ρ.2.2.1 (10 + d) k := by
  intro fuel
  have F1 : hw_F (hw_cp 13 4 120 ρ) := hF
  have F2 : hw_F (hw_cp 14 5 20 (hw_cp 13 4 120 ρ)) := hF
  have F3 : hw_F (hw_cp 15 6 8 (hw_cp 14 5 20 (hw_cp 13 4 120 ρ))) := hF
  have F4 : hw_F (hw_cp 16 7 12 (hw_cp 15 6 8 (hw_cp 14 5 20 (hw_cp 13 4 120 ρ)))) := hF
  have F5 : hw_F (hw_cp 17 8 12 (hw_cp 16 7 12 (hw_cp 15 6 8 (hw_cp 14 5 20 (hw_cp 13 4 120 ρ))))) := hF
  have F6 : hw_F (hw_cp 18 9 12 (hw_cp 17 8 12 (hw_cp 16 7 12 (hw_cp 15 6 8 (hw_cp 14 5 20 (hw_cp 13 4 120 ρ)))))) := hF
  have F7 : hw_F (hw_wI 1 1 (ρ.2.2.1 10 1) (hw_cp 18 9 12 (hw_cp 17 8 12 (hw_cp 16 7 12 (hw_cp 15 6 8 (hw_cp 14 5 20 (hw_cp 13 4 120 ρ))))))) := hF
  have F8 : hw_F (hw_wI 1 3 (ρ.2.2.1 10 3) (hw_wI 1 1 (ρ.2.2.1 10 1) (hw_cp 18 9 12 (hw_cp 17 8 12 (hw_cp 16 7 12 (hw_cp 15 6 8 (hw_cp 14 5 20 (hw_cp 13 4 120 ρ)))))))) := hF
  have F9 : hw_F (hw_wI 1 5 (ρ.2.2.1 10 5) (hw_wI 1 3 (ρ.2.2.1 10 3) (hw_wI 1 1 (ρ.2.2.1 10 1) (hw_cp 18 9 12 (hw_cp 17 8 12 (hw_cp 16 7 12 (hw_cp 15 6 8 (hw_cp 14 5 20 (hw_cp 13 4 120 ρ))))))))) := hF
  have F10 : hw_F (hw_wI 1 7 (ρ.2.2.1 10 7) (hw_wI 1 5 (ρ.2.2.1 10 5) (hw_wI 1 3 (ρ.2.2.1 10 3) (hw_wI 1 1 (ρ.2.2.1 10 1) (hw_cp 18 9 12 (hw_cp 17 8 12 (hw_cp 16 7 12 (hw_cp 15 6 8 (hw_cp 14 5 20 (hw_cp 13 4 120 ρ)))))))))) := hF
  have F11 : hw_F (hw_wI 1 9 (ρ.2.2.1 10 9) (hw_wI 1 7 (ρ.2.2.1 10 7) (hw_wI 1 5 (ρ.2.2.1 10 5) (hw_wI 1 3 (ρ.2.2.1 10 3) (hw_wI 1 1 (ρ.2.2.1 10 1) (hw_cp 18 9 12 (hw_cp 17 8 12 (hw_cp 16 7 12 (hw_cp 15 6 8 (hw_cp 14 5 20 (hw_cp 13 4 120 ρ))))))))))) := hF
  have F12 : hw_F (hw_wI 1 13 (ρ.2.2.1 10 13) (hw_wI 1 9 (ρ.2.2.1 10 9) (hw_wI 1 7 (ρ.2.2.1 10 7) (hw_wI 1 5 (ρ.2.2.1 10 5) (hw_wI 1 3 (ρ.2.2.1 10 3) (hw_wI 1 1 (ρ.2.2.1 10 1) (hw_cp 18 9 12 (hw_cp 17 8 12 (hw_cp 16 7 12 (hw_cp 15 6 8 (hw_cp 14 5 20 (hw_cp 13 4 120 ρ)))))))))))) := hF
  have c1 : hw_cpI (some 13) (some 4) (120 : Int32) ρ = some (hw_cp 13 4 120 ρ) := hw_Fcp (n := 120) hF (by decide) (by decide) (by decide) (by decide) (by decide) (by decide) (by decide)
  have c2 : hw_cpI (some 14) (some 5) (20 : Int32) (hw_cp 13 4 120 ρ) = some (hw_cp 14 5 20 (hw_cp 13 4 120 ρ)) := hw_Fcp (n := 20) F1 (by decide) (by decide) (by decide) (by decide) (by decide) (by decide) (by decide)
  have c3 : hw_cpI (some 15) (some 6) (8 : Int32) (hw_cp 14 5 20 (hw_cp 13 4 120 ρ)) = some (hw_cp 15 6 8 (hw_cp 14 5 20 (hw_cp 13 4 120 ρ))) := hw_Fcp (n := 8) F2 (by decide) (by decide) (by decide) (by decide) (by decide) (by decide) (by decide)
  have c4 : hw_cpI (some 16) (some 7) (12 : Int32) (hw_cp 15 6 8 (hw_cp 14 5 20 (hw_cp 13 4 120 ρ))) = some (hw_cp 16 7 12 (hw_cp 15 6 8 (hw_cp 14 5 20 (hw_cp 13 4 120 ρ)))) := hw_Fcp (n := 12) F3 (by decide) (by decide) (by decide) (by decide) (by decide) (by decide) (by decide)
  have c5 : hw_cpI (some 17) (some 8) (12 : Int32) (hw_cp 16 7 12 (hw_cp 15 6 8 (hw_cp 14 5 20 (hw_cp 13 4 120 ρ)))) = some (hw_cp 17 8 12 (hw_cp 16 7 12 (hw_cp 15 6 8 (hw_cp 14 5 20 (hw_cp 13 4 120 ρ))))) := hw_Fcp (n := 12) F4 (by decide) (by decide) (by decide) (by decide) (by decide) (by decide) (by decide)
  have c6 : hw_cpI (some 18) (some 9) (12 : Int32) (hw_cp 17 8 12 (hw_cp 16 7 12 (hw_cp 15 6 8 (hw_cp 14 5 20 (hw_cp 13 4 120 ρ))))) = some (hw_cp 18 9 12 (hw_cp 17 8 12 (hw_cp 16 7 12 (hw_cp 15 6 8 (hw_cp 14 5 20 (hw_cp 13 4 120 ρ)))))) := hw_Fcp (n := 12) F5 (by decide) (by decide) (by decide) (by decide) (by decide) (by decide) (by decide)
  have v1 : (hw_cp 18 9 12 (hw_cp 17 8 12 (hw_cp 16 7 12 (hw_cp 15 6 8 (hw_cp 14 5 20 (hw_cp 13 4 120 ρ)))))).2.2.1 10 1 = ρ.2.2.1 10 1 := by rw [hw_cp_n (by omega), hw_cp_n (by omega), hw_cp_n (by omega), hw_cp_n (by omega), hw_cp_n (by omega), hw_cp_n (by omega)]
  have v2 : (hw_wI 1 1 (ρ.2.2.1 10 1) (hw_cp 18 9 12 (hw_cp 17 8 12 (hw_cp 16 7 12 (hw_cp 15 6 8 (hw_cp 14 5 20 (hw_cp 13 4 120 ρ))))))).2.2.1 10 3 = ρ.2.2.1 10 3 := by rw [hw_wI_n (by omega), hw_cp_n (by omega), hw_cp_n (by omega), hw_cp_n (by omega), hw_cp_n (by omega), hw_cp_n (by omega), hw_cp_n (by omega)]
  have v3 : (hw_wI 1 3 (ρ.2.2.1 10 3) (hw_wI 1 1 (ρ.2.2.1 10 1) (hw_cp 18 9 12 (hw_cp 17 8 12 (hw_cp 16 7 12 (hw_cp 15 6 8 (hw_cp 14 5 20 (hw_cp 13 4 120 ρ)))))))).2.2.1 10 5 = ρ.2.2.1 10 5 := by rw [hw_wI_n (by omega), hw_wI_n (by omega), hw_cp_n (by omega), hw_cp_n (by omega), hw_cp_n (by omega), hw_cp_n (by omega), hw_cp_n (by omega), hw_cp_n (by omega)]
  have v4 : (hw_wI 1 5 (ρ.2.2.1 10 5) (hw_wI 1 3 (ρ.2.2.1 10 3) (hw_wI 1 1 (ρ.2.2.1 10 1) (hw_cp 18 9 12 (hw_cp 17 8 12 (hw_cp 16 7 12 (hw_cp 15 6 8 (hw_cp 14 5 20 (hw_cp 13 4 120 ρ))))))))).2.2.1 10 7 = ρ.2.2.1 10 7 := by rw [hw_wI_n (by omega), hw_wI_n (by omega), hw_wI_n (by omega), hw_cp_n (by omega), hw_cp_n (by omega), hw_cp_n (by omega), hw_cp_n (by omega), hw_cp_n (by omega), hw_cp_n (by omega)]
  have v5 : (hw_wI 1 7 (ρ.2.2.1 10 7) (hw_wI 1 5 (ρ.2.2.1 10 5) (hw_wI 1 3 (ρ.2.2.1 10 3) (hw_wI 1 1 (ρ.2.2.1 10 1) (hw_cp 18 9 12 (hw_cp 17 8 12 (hw_cp 16 7 12 (hw_cp 15 6 8 (hw_cp 14 5 20 (hw_cp 13 4 120 ρ)))))))))).2.2.1 10 9 = ρ.2.2.1 10 9 := by rw [hw_wI_n (by omega), hw_wI_n (by omega), hw_wI_n (by omega), hw_wI_n (by omega), hw_cp_n (by omega), hw_cp_n (by omega), hw_cp_n (by omega), hw_cp_n (by omega), hw_cp_n (by omega), hw_cp_n (by omega)]
  have v6 : (hw_wI 1 9 (ρ.2.2.1 10 9) (hw_wI 1 7 (ρ.2.2.1 10 7) (hw_wI 1 5 (ρ.2.2.1 10 5) (hw_wI 1 3 (ρ.2.2.1 10 3) (hw_wI 1 1 (ρ.2.2.1 10 1) (hw_cp 18 9 12 (hw_cp 17 8 12 (hw_cp 16 7 12 (hw_cp 15 6 8 (hw_cp 14 5 20 (hw_cp 13 4 120 ρ))))))))))).2.2.1 10 13 = ρ.2.2.1 10 13 := by rw [hw_wI_n (by omega), hw_wI_n (by omega), hw_wI_n (by omega), hw_wI_n (by omega), hw_wI_n (by omega), hw_cp_n (by omega), hw_cp_n (by omega), hw_cp_n (by omega), hw_cp_n (by omega), hw_cp_n (by omega), hw_cp_n (by omega)]
  refine ⟨(hw_wI 1 13 (ρ.2.2.1 10 13) (hw_wI 1 9 (ρ.2.2.1 10 9) (hw_wI 1 7 (ρ.2.2.1 10 7) (hw_wI 1 5 (ρ.2.2.1 10 5) (hw_wI 1 3 (ρ.2.2.1 10 3) (hw_wI 1 1 (ρ.2.2.1 10 1) (hw_cp 18 9 12 (hw_cp 17 8 12 (hw_cp 16 7 12 (hw_cp 15 6 8 (hw_cp 14 5 20 (hw_cp 13 4 120 ρ)))))))))))), ?_, ?_, fun _ _ => rfl, ?_, ?_⟩
  · rw [m8_becomeLike_b27, if_pos (show (8 : Int32) ≤ nI 8 from by decide), hw_P_10_4 hF, Option.bind_some, hw_P_1_4 hF, Option.bind_some, c1, Option.bind_some, hw_P_10_6 F1, Option.bind_some, hw_P_1_6 F1, Option.bind_some, c2, Option.bind_some, hw_P_10_8 F2, Option.bind_some, hw_P_1_8 F2, Option.bind_some, c3, Option.bind_some, hw_P_10_10 F3, Option.bind_some, hw_P_1_10 F3, Option.bind_some, c4, Option.bind_some, hw_P_10_11 F4, Option.bind_some, hw_P_1_11 F4, Option.bind_some, c5, Option.bind_some, hw_P_10_12 F5, Option.bind_some, hw_P_1_12 F5, Option.bind_some, c6, Option.bind_some, hw_G_10 F6, Option.bind_some, v1, hw_W_1 F6, Option.bind_some, hw_G_10 F7, Option.bind_some, v2, hw_W_1 F7, Option.bind_some, hw_G_10 F8, Option.bind_some, v3, hw_W_1 F8, Option.bind_some, hw_G_10 F9, Option.bind_some, v4, hw_W_1 F9, Option.bind_some, hw_G_10 F10, Option.bind_some, v5, hw_W_1 F10, Option.bind_some, hw_G_10 F11, Option.bind_some, v6, hw_W_1 F11, Option.bind_some]
  · exact ((((((((((((hw_c.rf).tr (hw_c.cp (fun j => by unfold hw_ab1; omega))).tr (hw_c.cp (fun j => by unfold hw_ab1; omega))).tr (hw_c.cp (fun j => by unfold hw_ab1; omega))).tr (hw_c.cp (fun j => by unfold hw_ab1; omega))).tr (hw_c.cp (fun j => by unfold hw_ab1; omega))).tr (hw_c.cp (fun j => by unfold hw_ab1; omega))).tr (hw_c.wI (by unfold hw_ab1; omega))).tr (hw_c.wI (by unfold hw_ab1; omega))).tr (hw_c.wI (by unfold hw_ab1; omega))).tr (hw_c.wI (by unfold hw_ab1; omega))).tr (hw_c.wI (by unfold hw_ab1; omega))).tr (hw_c.wI (by unfold hw_ab1; omega))
  · intro k hk
    rcases hk with rfl | rfl | rfl | rfl | rfl | rfl
    · rw [hw_wI_n (by omega), hw_wI_n (by omega), hw_wI_n (by omega), hw_wI_n (by omega), hw_wI_n (by omega), hw_wI_y]
    · rw [hw_wI_n (by omega), hw_wI_n (by omega), hw_wI_n (by omega), hw_wI_n (by omega), hw_wI_y]
    · rw [hw_wI_n (by omega), hw_wI_n (by omega), hw_wI_n (by omega), hw_wI_y]
    · rw [hw_wI_n (by omega), hw_wI_n (by omega), hw_wI_y]
    · rw [hw_wI_n (by omega), hw_wI_y]
    · rw [hw_wI_y]
  · intro d k h3 h8 hk
    have hd : d = 3 ∨ d = 4 ∨ d = 5 ∨ d = 6 ∨ d = 7 ∨ d = 8 := by omega
    rcases hd with rfl | rfl | rfl | rfl | rfl | rfl
    · have hk : k < 120 := hk
      show (hw_wI 1 13 (ρ.2.2.1 10 13) (hw_wI 1 9 (ρ.2.2.1 10 9) (hw_wI 1 7 (ρ.2.2.1 10 7) (hw_wI 1 5 (ρ.2.2.1 10 5) (hw_wI 1 3 (ρ.2.2.1 10 3) (hw_wI 1 1 (ρ.2.2.1 10 1) (hw_cp 18 9 12 (hw_cp 17 8 12 (hw_cp 16 7 12 (hw_cp 15 6 8 (hw_cp 14 5 20 (hw_cp 13 4 120 ρ)))))))))))).2.2.1 4 k = ρ.2.2.1 13 k
      rw [hw_wI_n (by omega), hw_wI_n (by omega), hw_wI_n (by omega), hw_wI_n (by omega), hw_wI_n (by omega), hw_wI_n (by omega), hw_cp_n (by omega), hw_cp_n (by omega), hw_cp_n (by omega), hw_cp_n (by omega), hw_cp_n (by omega), hw_cp_y hk]
    · have hk : k < 20 := hk
      show (hw_wI 1 13 (ρ.2.2.1 10 13) (hw_wI 1 9 (ρ.2.2.1 10 9) (hw_wI 1 7 (ρ.2.2.1 10 7) (hw_wI 1 5 (ρ.2.2.1 10 5) (hw_wI 1 3 (ρ.2.2.1 10 3) (hw_wI 1 1 (ρ.2.2.1 10 1) (hw_cp 18 9 12 (hw_cp 17 8 12 (hw_cp 16 7 12 (hw_cp 15 6 8 (hw_cp 14 5 20 (hw_cp 13 4 120 ρ)))))))))))).2.2.1 5 k = ρ.2.2.1 14 k
      rw [hw_wI_n (by omega), hw_wI_n (by omega), hw_wI_n (by omega), hw_wI_n (by omega), hw_wI_n (by omega), hw_wI_n (by omega), hw_cp_n (by omega), hw_cp_n (by omega), hw_cp_n (by omega), hw_cp_n (by omega), hw_cp_y hk, hw_cp_n (by omega)]
    · have hk : k < 8 := hk
      show (hw_wI 1 13 (ρ.2.2.1 10 13) (hw_wI 1 9 (ρ.2.2.1 10 9) (hw_wI 1 7 (ρ.2.2.1 10 7) (hw_wI 1 5 (ρ.2.2.1 10 5) (hw_wI 1 3 (ρ.2.2.1 10 3) (hw_wI 1 1 (ρ.2.2.1 10 1) (hw_cp 18 9 12 (hw_cp 17 8 12 (hw_cp 16 7 12 (hw_cp 15 6 8 (hw_cp 14 5 20 (hw_cp 13 4 120 ρ)))))))))))).2.2.1 6 k = ρ.2.2.1 15 k
      rw [hw_wI_n (by omega), hw_wI_n (by omega), hw_wI_n (by omega), hw_wI_n (by omega), hw_wI_n (by omega), hw_wI_n (by omega), hw_cp_n (by omega), hw_cp_n (by omega), hw_cp_n (by omega), hw_cp_y hk, hw_cp_n (by omega), hw_cp_n (by omega)]
    · have hk : k < 12 := hk
      show (hw_wI 1 13 (ρ.2.2.1 10 13) (hw_wI 1 9 (ρ.2.2.1 10 9) (hw_wI 1 7 (ρ.2.2.1 10 7) (hw_wI 1 5 (ρ.2.2.1 10 5) (hw_wI 1 3 (ρ.2.2.1 10 3) (hw_wI 1 1 (ρ.2.2.1 10 1) (hw_cp 18 9 12 (hw_cp 17 8 12 (hw_cp 16 7 12 (hw_cp 15 6 8 (hw_cp 14 5 20 (hw_cp 13 4 120 ρ)))))))))))).2.2.1 7 k = ρ.2.2.1 16 k
      rw [hw_wI_n (by omega), hw_wI_n (by omega), hw_wI_n (by omega), hw_wI_n (by omega), hw_wI_n (by omega), hw_wI_n (by omega), hw_cp_n (by omega), hw_cp_n (by omega), hw_cp_y hk, hw_cp_n (by omega), hw_cp_n (by omega), hw_cp_n (by omega)]
    · have hk : k < 12 := hk
      show (hw_wI 1 13 (ρ.2.2.1 10 13) (hw_wI 1 9 (ρ.2.2.1 10 9) (hw_wI 1 7 (ρ.2.2.1 10 7) (hw_wI 1 5 (ρ.2.2.1 10 5) (hw_wI 1 3 (ρ.2.2.1 10 3) (hw_wI 1 1 (ρ.2.2.1 10 1) (hw_cp 18 9 12 (hw_cp 17 8 12 (hw_cp 16 7 12 (hw_cp 15 6 8 (hw_cp 14 5 20 (hw_cp 13 4 120 ρ)))))))))))).2.2.1 8 k = ρ.2.2.1 17 k
      rw [hw_wI_n (by omega), hw_wI_n (by omega), hw_wI_n (by omega), hw_wI_n (by omega), hw_wI_n (by omega), hw_wI_n (by omega), hw_cp_n (by omega), hw_cp_y hk, hw_cp_n (by omega), hw_cp_n (by omega), hw_cp_n (by omega), hw_cp_n (by omega)]
    · have hk : k < 12 := hk
      show (hw_wI 1 13 (ρ.2.2.1 10 13) (hw_wI 1 9 (ρ.2.2.1 10 9) (hw_wI 1 7 (ρ.2.2.1 10 7) (hw_wI 1 5 (ρ.2.2.1 10 5) (hw_wI 1 3 (ρ.2.2.1 10 3) (hw_wI 1 1 (ρ.2.2.1 10 1) (hw_cp 18 9 12 (hw_cp 17 8 12 (hw_cp 16 7 12 (hw_cp 15 6 8 (hw_cp 14 5 20 (hw_cp 13 4 120 ρ)))))))))))).2.2.1 9 k = ρ.2.2.1 18 k
      rw [hw_wI_n (by omega), hw_wI_n (by omega), hw_wI_n (by omega), hw_wI_n (by omega), hw_wI_n (by omega), hw_wI_n (by omega), hw_cp_y hk, hw_cp_n (by omega), hw_cp_n (by omega), hw_cp_n (by omega), hw_cp_n (by omega), hw_cp_n (by omega)]
theorem c_bl1_l : ∀ d i fuel ρ, i + d = 8 → d < fuel → hw_F ρ → (∀ i, i < 8 → ∀ a, ρ.2.2.2.1 12 i = some a → hw_qL (ρ.1 a) = true) → ∃ τ, m8_becomeLike_b27 fuel 1 (some 10) (nI i) ρ = some τ ∧ hw_c hw_ab1 hw_pb1 ρ τ ∧ (∀ a k, a ≠ 3 → τ.2.2.2.1 a k = ρ.2.2.2.1 a k) ∧ (∀ k, k < i → τ.2.2.2.1 3 k = ρ.2.2.2.1 3 k) ∧ (∀ k, i ≤ k → k < 8 → τ.2.2.2.1 3 k = ρ.2.2.2.1 12 k) ∧ (∀ k, k = 1 ∨ k = 3 ∨ k = 5 ∨ k = 7 ∨ k = 9 ∨ k = 13 → τ.2.2.1 1 k = ρ.2.2.1 10 k) ∧ ∀ d k, 3 ≤ d → d ≤ 8 → k < (if d = 3 then 120 else if d = 4 then 20 else if d = 5 then 8 else 12) → τ.2.2.1 (1 + d) k = ρ.2.2.1 (10 + d) k := by
  intro d
  induction d with
  | zero =>
    intro i fuel ρ e hf hF hok
    obtain ⟨fuel, rfl⟩ : ∃ k, fuel = k + 1 := ⟨fuel - 1, by omega⟩
    have e : i = 8 := e
    subst e
    obtain ⟨τ, g1, g2, g3, g4, g5⟩ := c_bl1_c hF fuel
    exact ⟨τ, g1, g2, fun a k _ => g3 a k, fun k _ => g3 3 k, fun k h1 h2 => by omega, g4, g5⟩
  | succ d ih =>
    intro i fuel ρ e hf hF hok
    obtain ⟨fuel, rfl⟩ : ∃ k, fuel = k + 1 := ⟨fuel - 1, by omega⟩
    have hi : i < 8 := by omega
    have F1 : hw_F (hw_wP 3 i (ρ.2.2.2.1 12 i) ρ) := hw_F_wP hF (by omega)
    have N : ∀ a k, a ≠ 3 → (hw_wP 3 i (ρ.2.2.2.1 12 i) ρ).2.2.2.1 a k = ρ.2.2.2.1 a k := fun a k h => hw_wP_n (fun c => h c.1)
    obtain ⟨τ, g1, g2, g3, g4, g5, g6, g7⟩ := ih (i + 1) fuel (hw_wP 3 i (ρ.2.2.2.1 12 i) ρ) (by omega) (by omega) F1 (fun j hj a ha => hok j hj a (by rw [N 12 j (by omega)] at ha; exact ha))
    refine ⟨τ, ?_, (hw_c.wP (by unfold hw_pb1; omega)).tr g2, fun a k h => (g3 a k h).trans (N a k h), fun k hk => ?_, fun k h1 h2 => ?_, g6, g7⟩
    · rw [m8_becomeLike_b27, if_neg (show ¬ (8 : Int32) ≤ nI i from nI_ge (b := 8) hi (by decide)), hw_P_1_2 hF, Option.bind_some, hw_P_10_2 hF, Option.bind_some, hw_A_12 hF hi, Option.bind_some, hw_Fsp (t := 2) (a := 3) hF (by decide) (by decide) (show i < 8 from hi) (by decide) (hw_okL (fun a ha => hok i hi a ha)), Option.bind_some, nI_1]
      exact g1
    · rw [g4 k (by omega), hw_wP_n (by omega)]
    · by_cases hki : k = i
      · rw [hki, g4 i (by omega), hw_wP_y]
      · rw [g5 k (by omega) h2, N 12 k (by omega)]
theorem c_bl1 {σ : hw_S} (hF0 : hw_F σ) (hp : hw_pt σ 10) : ∃ τ, m8_becomeLike 1 (some 10) σ = some τ ∧ hw_fin1 σ τ := by
  have key : ∀ d i fuel ρ, i + d = 5 → d < fuel → hw_F ρ → (∀ i, i < 5 → ∀ a, ρ.2.2.2.1 11 i = some a → ρ.1 a = 10) → (∀ i, i < 8 → ∀ a, ρ.2.2.2.1 12 i = some a → hw_qL (ρ.1 a) = true) → ∃ τ, m8_becomeLike_b2 fuel 1 (some 10) (nI i) ρ = some τ ∧ hw_c hw_ab1 hw_pb1 ρ τ ∧ (∀ k, k < i → τ.2.2.2.1 2 k = ρ.2.2.2.1 2 k) ∧ (∀ k, i ≤ k → k < 5 → τ.2.2.2.1 2 k = ρ.2.2.2.1 11 k) ∧ (∀ k, k < 8 → τ.2.2.2.1 3 k = ρ.2.2.2.1 12 k) ∧ (∀ k, k = 1 ∨ k = 3 ∨ k = 5 ∨ k = 7 ∨ k = 9 ∨ k = 13 → τ.2.2.1 1 k = ρ.2.2.1 10 k) ∧ ∀ d k, 3 ≤ d → d ≤ 8 → k < (if d = 3 then 120 else if d = 4 then 20 else if d = 5 then 8 else 12) → τ.2.2.1 (1 + d) k = ρ.2.2.1 (10 + d) k := by
    intro d
    induction d with
    | zero =>
      intro i fuel ρ e hf hF ok1 ok2
      obtain ⟨fuel, rfl⟩ : ∃ k, fuel = k + 1 := ⟨fuel - 1, by omega⟩
      have e : i = 5 := e
      subst e
      obtain ⟨τ, g1, g2, g3, g4, g5, g6, g7⟩ := c_bl1_l 8 0 hw_fu ρ (by decide) (by decide) hF ok2
      refine ⟨τ, ?_, g2, fun k _ => g3 2 k (by decide), fun k h1 h2 => by omega, fun k h => g5 k (Nat.zero_le k) h, g6, g7⟩
      rw [m8_becomeLike_b2, if_pos (show (5 : Int32) ≤ nI 5 from by decide)]
      exact g1
    | succ d ih =>
      intro i fuel ρ e hf hF ok1 ok2
      obtain ⟨fuel, rfl⟩ : ∃ k, fuel = k + 1 := ⟨fuel - 1, by omega⟩
      have hi : i < 5 := by omega
      have F1 : hw_F (hw_wP 2 i (ρ.2.2.2.1 11 i) ρ) := hw_F_wP hF (by omega)
      have N : ∀ a k, a ≠ 2 → (hw_wP 2 i (ρ.2.2.2.1 11 i) ρ).2.2.2.1 a k = ρ.2.2.2.1 a k := fun a k h => hw_wP_n (fun c => h c.1)
      obtain ⟨τ, g1, g2, g4, g5, g5l, g6, g7⟩ := ih (i + 1) fuel (hw_wP 2 i (ρ.2.2.2.1 11 i) ρ) (by omega) (by omega) F1 (fun j hj a ha => ok1 j hj a (by rw [N 11 j (by omega)] at ha; exact ha)) (fun j hj a ha => ok2 j hj a (by rw [N 12 j (by omega)] at ha; exact ha))
      refine ⟨τ, ?_, (hw_c.wP (by unfold hw_pb1; omega)).tr g2, fun k hk => ?_, fun k h1 h2 => ?_, fun k h => (g5l k h).trans (N 12 k (by omega)), g6, g7⟩
      · rw [m8_becomeLike_b2, if_neg (show ¬ (5 : Int32) ≤ nI i from nI_ge (b := 5) hi (by decide)), hw_P_1_0 hF, Option.bind_some, hw_P_10_0 hF, Option.bind_some, hw_A_11 hF hi, Option.bind_some, hw_Fsp (t := 3) (a := 2) hF (by decide) (by decide) (show i < 5 from hi) (by decide) (hw_ok9 (fun a ha => ok1 i hi a ha)), Option.bind_some, nI_1]
        exact g1
      · rw [g4 k (by omega), hw_wP_n (by omega)]
      · by_cases hki : k = i
        · rw [hki, g4 i (by omega), hw_wP_y]
        · rw [g5 k (by omega) h2, N 11 k (by omega)]
  obtain ⟨τ, g1, g2, g3, g4, g5, g6, g7⟩ := key 5 0 hw_fu σ (by decide) (by decide) hF0 (fun i hi a ha => (hp.1 i hi a ha).2) (fun i hi a ha => (hp.2 i hi a ha).2)
  exact ⟨τ, g1, g2, fun i hi => g4 i (Nat.zero_le i) hi, g5, g6, g7⟩
