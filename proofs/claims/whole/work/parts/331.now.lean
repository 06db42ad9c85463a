/-! the pure layer: calls that change what there is -/
theorem hw_wI_n {a k x j : Nat} {v : Int32} {σ : hw_S} (h : ¬ (x = a ∧ j = k)) : (hw_wI a k v σ).2.2.1 x j = σ.2.2.1 x j := by rw [hw_wI_3, if_neg h]
theorem hw_wI_y {a k : Nat} {v : Int32} {σ : hw_S} : (hw_wI a k v σ).2.2.1 a k = v := by rw [hw_wI_3, if_pos ⟨rfl, rfl⟩]
/-- the cells from 55 on are kept, more may have come -/
def hw_k (σ τ : hw_S) : Prop := σ.2.2.2.2 ≤ τ.2.2.2.2 ∧ ∀ a, 55 ≤ a → a < σ.2.2.2.2 → τ.1 a = σ.1 a ∧ τ.2.1 a = σ.2.1 a ∧ τ.2.2.1 a = σ.2.2.1 a ∧ τ.2.2.2.1 a = σ.2.2.2.1 a
theorem hw_k.rf {σ : hw_S} : hw_k σ σ := ⟨Nat.le_refl _, fun _ _ _ => ⟨rfl, rfl, rfl, rfl⟩⟩
theorem hw_k.tr {σ τ υ : hw_S} (h : hw_k σ τ) (h2 : hw_k τ υ) : hw_k σ υ := ⟨Nat.le_trans h.1 h2.1, fun a h3 h4 => by
  have g := h.2 a h3 h4
  have g2 := h2.2 a h3 (Nat.lt_of_lt_of_le h4 h.1)
  exact ⟨g2.1.trans g.1, g2.2.1.trans g.2.1, g2.2.2.1.trans g.2.2.1, g2.2.2.2.trans g.2.2.2⟩⟩
theorem hw_d.k {A : Nat → Nat → Prop} {σ τ : hw_S} (h : hw_d A σ τ) (hA : ∀ a k, A a k → a < 55) : hw_k σ τ :=
  ⟨by rw [h.2.2.1]; exact Nat.le_refl _, fun a h3 h4 => ⟨by rw [h.1], by rw [h.2.1], funext fun k => h.2.2.2 a k (fun c => absurd (hA a k c) (by omega)), by rw [h.2.2.1]⟩⟩
/-- the places of the i-th law in the model's row -/
def hw_il (i k : Nat) : Prop := k = 140 + i ∨ k = 148 + i ∨ k = 156 + i ∨ k = 164 + i ∨ k = 204 + i ∨ (172 + 4 * i ≤ k ∧ k < 176 + 4 * i) ∨ (212 + 140 * i ≤ k ∧ k < 352 + 140 * i)
theorem hw_ht_congr {f g : Nat → Int32} : ∀ {n : Nat}, (∀ j, j < n → f j = g j) → hw_ht f n = hw_ht g n
  | 0, _ => rfl
  | n + 1, h => by
    have ih := hw_ht_congr (n := n) (fun j hj => h j (by omega))
    have e := h n (Nat.lt_succ_self n)
    show (hw_ht f n).bind _ = (hw_ht g n).bind _
    rw [ih, e]
theorem hw_k.lw {σ τ : hw_S} (h : hw_k σ τ) {r : Option Nat} {i : Nat} {w w' : Nat → Int32} (hw : ∀ k, hw_il i k → w' k = w k) (hl : hw_lw σ r i w) : hw_lw τ r i w' := by
  obtain ⟨a, af, ac, as, k, v, n, hp, co, e, ha, haf, hac, has, b1, b2, b3, b4, b5, b6, tg, w1, w2, w3, w4, w5, i0, i1, i2, i3, i4, p5, p6, p7, gf, gf2, gc, gc2, gs, gs2, fo, ins, hht, shf⟩ := hl
  have ka := h.2 a ha.1 ha.2
  have kf := h.2 af haf.1 haf.2
  have kc := h.2 ac hac.1 hac.2
  have ks := h.2 as has.1 has.2
  have hz := h.1
  have e1 : ∀ j, j < n → w' (212 + 140 * i + j) = w (212 + 140 * i + j) := fun j hj => hw _ (by unfold hw_il; omega)
  refine ⟨a, af, ac, as, k, v, n, hp, co, e, ⟨ha.1, by omega⟩, ⟨haf.1, by omega⟩, ⟨hac.1, by omega⟩, ⟨has.1, by omega⟩, b1, b2, b3, b4, b5, b6, ?_⟩
  rw [ka.1, ka.2.2.1, ka.2.2.2, kf.1, kf.2.1, kf.2.2.1, kc.1, kc.2.1, kc.2.2.1, ks.1, ks.2.1, ks.2.2.1, hw (140 + i) (by unfold hw_il; omega), hw (148 + i) (by unfold hw_il; omega), hw (156 + i) (by unfold hw_il; omega), hw (164 + i) (by unfold hw_il; omega), hw (204 + i) (by unfold hw_il; omega)]
  refine ⟨tg, w1, w2, w3, w4, w5, i0, i1, i2, i3, i4, p5, p6, p7, gf, gf2, gc, gc2, gs, gs2, fun j hj => ?_, fun j hj => ?_, ?_, fun p hp hs j hj => ?_⟩
  · rw [hw (172 + 4 * i + j) (by unfold hw_il; omega)]
    exact fo j hj
  · rw [e1 j hj]
    exact ins j hj
  · rw [hw_ht_congr e1]
    exact hht
  · rw [e1 j hj]
    exact shf p hp hs j hj
theorem hw_k.sf {σ τ : hw_S} (h : hw_k σ τ) {r : Option Nat} {x y : Int32} (hl : hw_sf σ r x y) : hw_sf τ r x y := by
  obtain ⟨a, p, q, e, ha, hr⟩ := hl
  have ka := h.2 a ha.1 ha.2
  have hz := h.1
  refine ⟨a, p, q, e, ⟨ha.1, by omega⟩, ?_⟩
  rw [ka.1, ka.2.2.1]
  exact hr
theorem k4_sf {σ τ : hw_S} (h : hw_k σ τ) {S S' c0 : Nat} {w w' : Nat → Int32} (e : ∀ i, i < c0 → τ.2.2.2.1 (S' + 1) i = σ.2.2.2.1 (S + 1) i ∧ w' (130 + i) = w (130 + i) ∧ w' (135 + i) = w (135 + i)) (hs : ∀ i, i < c0 → hw_sf σ (σ.2.2.2.1 (S + 1) i) (w (130 + i)) (w (135 + i))) : ∀ i, i < c0 → hw_sf τ (τ.2.2.2.1 (S' + 1) i) (w' (130 + i)) (w' (135 + i)) := fun i hi => by
  rw [(e i hi).1, (e i hi).2.1, (e i hi).2.2]
  exact h.sf (hs i hi)
theorem k5_lw {σ τ : hw_S} (h : hw_k σ τ) {S S' c1 : Nat} {w w' : Nat → Int32} (e : ∀ i, i < c1 → τ.2.2.2.1 (S' + 2) i = σ.2.2.2.1 (S + 2) i ∧ ∀ k, hw_il i k → w' k = w k) (hs : ∀ i, i < c1 → hw_lw σ (σ.2.2.2.1 (S + 2) i) i w) : ∀ i, i < c1 → hw_lw τ (τ.2.2.2.1 (S' + 2) i) i w' := fun i hi => by
  rw [(e i hi).1]
  exact h.lw (e i hi).2 (hs i hi)
/-- what a call that changes the present State alone leaves as it was -/
def hw_kk (σ τ : hw_S) : Prop := (∀ a k, (10 ≤ a ∧ a ≤ 18) ∨ a = 23 ∨ a = 24 ∨ a = 43 ∨ a = 54 ∨ (a = 0 ∧ k = 2) ∨ (a = 41 ∧ (k = 3 ∨ k = 22)) → τ.2.2.1 a k = σ.2.2.1 a k) ∧ (∀ a k, a = 11 ∨ a = 12 → τ.2.2.2.1 a k = σ.2.2.2.1 a k)
theorem hw_pt_k {σ τ : hw_S} {S S' : Nat} (h : hw_k σ τ) (e : ∀ a k, a = 1 ∨ a = 2 → τ.2.2.2.1 (S' + a) k = σ.2.2.2.1 (S + a) k) (hp : hw_pt σ S) : hw_pt τ S' := by
  have hz := h.1
  refine ⟨fun i hi a ha => ?_, fun i hi a ha => ?_⟩
  · rw [e 1 i (Or.inl rfl)] at ha
    have g := hp.1 i hi a ha
    exact ⟨⟨g.1.1, by omega⟩, by rw [(h.2 a g.1.1 g.1.2).1]; exact g.2⟩
  · rw [e 2 i (Or.inr rfl)] at ha
    have g := hp.2 i hi a ha
    exact ⟨⟨g.1.1, by omega⟩, by rw [(h.2 a g.1.1 g.1.2).1]; exact g.2⟩
theorem hw_R0_k {σ τ : hw_S} {S S' c0 c1 c2 c3 c4 c5 : Nat} {w w' : Nat → Int32} (h : hw_k σ τ) (ew : ∀ k, k < 1396 → w' k = w k) (ef : ∀ k, k = 1 ∨ k = 3 ∨ k = 5 ∨ k = 7 ∨ k = 9 ∨ k = 13 → τ.2.2.1 S' k = σ.2.2.1 S k) (ei : ∀ d k, 3 ≤ d → d ≤ 8 → k < (if d = 3 then 120 else if d = 4 then 20 else if d = 5 then 8 else 12) → τ.2.2.1 (S' + d) k = σ.2.2.1 (S + d) k) (ep : (∀ k, k < 5 → τ.2.2.2.1 (S' + 1) k = σ.2.2.2.1 (S + 1) k) ∧ ∀ k, k < 8 → τ.2.2.2.1 (S' + 2) k = σ.2.2.2.1 (S + 2) k) (hr : hw_rel σ S w c0 c1 c2 c3 c4 c5) : hw_rel τ S' w' c0 c1 c2 c3 c4 c5 := by
  obtain ⟨⟨b0, b1, b2, b3, b4, b5⟩, ⟨w0, w1, w2, w3, w4, w5⟩, ⟨s0, s1, s2, s3, s4, s5⟩, r4, r5, r6, r7, r8, r9⟩ := hr
  refine ⟨⟨b0, b1, b2, b3, b4, b5⟩, ⟨(ew 0 (by decide)).trans w0, (ew 1 (by decide)).trans w1, (ew 2 (by decide)).trans w2, (ew 3 (by decide)).trans w3, (ew 4 (by decide)).trans w4, (ew 5 (by decide)).trans w5⟩, ⟨(ef 1 (by decide)).trans s0, (ef 3 (by decide)).trans s1, (ef 13 (by decide)).trans s2, (ef 7 (by decide)).trans s3, (ef 9 (by decide)).trans s4, (ef 5 (by decide)).trans s5⟩, ?_, ?_, ?_, ?_, ?_, ?_⟩
  · exact k4_sf h (fun i hi => ⟨ep.1 i (by omega), ew _ (by omega), ew _ (by omega)⟩) r4
  · exact k5_lw h (fun i hi => ⟨ep.2 i (by omega), fun k hk => ew k (by unfold hw_il at hk; omega)⟩) r5
  · intro i hi
    rw [ei 3 i (by decide) (by decide) (by rw [if_pos rfl]; omega), ew _ (by omega)]
    exact r6 i hi
  · intro i hi
    rw [ei 4 i (by decide) (by decide) (by rw [if_neg (by decide), if_pos rfl]; omega), ew _ (by omega)]
    exact r7 i hi
  · intro i hi
    rw [ei 5 i (by decide) (by decide) (by rw [if_neg (by decide), if_neg (by decide), if_pos rfl]; omega), ew _ (by omega)]
    exact r8 i hi
  · intro i hi
    have q : ∀ d, 6 ≤ d → i < (if d = 3 then 120 else if d = 4 then 20 else if d = 5 then 8 else 12) := fun d hd => by rw [if_neg (by omega), if_neg (by omega), if_neg (by omega)]; omega
    rw [ei 6 i (by decide) (by decide) (q 6 (by decide)), ei 7 i (by decide) (by decide) (q 7 (by decide)), ei 8 i (by decide) (by decide) (q 8 (by decide)), ew _ (by omega), ew _ (by omega), ew _ (by omega)]
    exact r9 i hi
theorem Jv_now {σ τ : hw_S} (hJ : hw_Jv σ) (h : hw_k σ τ) (F : hw_F τ) (pt : hw_pt τ 1) (kk : hw_kk σ τ) (R : hw_R0 τ 1 (τ.2.2.1 42)) : hw_Jv τ := by
  obtain ⟨hF, p1, p2, -, him, n, hn, t1, t2, t3⟩ := hJ
  refine ⟨F, pt, ?_, R, ?_, n, hn, ?_, ?_, ?_⟩
  · exact hw_pt_k h (fun a k ha => kk.2 (10 + a) k (by omega)) p2
  · have e1 := kk.1 0 2 (by omega)
    have e2 := kk.1 41 3 (by omega)
    rcases him with ⟨a1, a2⟩ | ⟨a1, a2, d0, d1, d2, d3, d4, d5, hr2⟩
    · exact Or.inl ⟨e1.trans a1, e2.trans a2⟩
    · refine Or.inr ⟨e1.trans a1, e2.trans a2, d0, d1, d2, d3, d4, d5, ?_⟩
      exact hw_R0_k h (fun k _ => kk.1 43 k (by omega)) (fun k _ => kk.1 10 k (by omega)) (fun d k h3 h8 _ => kk.1 (10 + d) k (by omega)) ⟨fun k _ => kk.2 11 k (by omega), fun k _ => kk.2 12 k (by omega)⟩ hr2
  · exact (kk.1 23 1 (by omega)).trans t1
  · exact (kk.1 41 22 (by omega)).trans t2
  · intro i h1 h2
    rw [kk.1 24 i (by omega), kk.1 54 i (by omega)]
    exact t3 i h1 h2
theorem hw_d.kk {A : Nat → Nat → Prop} {σ τ : hw_S} (h : hw_d A σ τ) (hA : ∀ a k, A a k → ¬ ((10 ≤ a ∧ a ≤ 18) ∨ a = 23 ∨ a = 24 ∨ a = 43 ∨ a = 54 ∨ (a = 0 ∧ k = 2) ∨ (a = 41 ∧ (k = 3 ∨ k = 22)))) : hw_kk σ τ :=
  ⟨fun a k c => h.2.2.2 a k (fun d => hA a k d c), fun a k _ => by rw [h.2.2.1]⟩
theorem Jv_d {A : Nat → Nat → Prop} {σ τ : hw_S} (hJ : hw_Jv σ) (h : hw_d A σ τ) (hA : ∀ a k, A a k → a = 1 ∨ (4 ≤ a ∧ a ≤ 9) ∨ a = 42) (R : hw_R0 τ 1 (τ.2.2.1 42)) : hw_Jv τ :=
  Jv_now hJ (h.k (fun a k c => by have := hA a k c; omega)) (h.F hJ.1) (h.pt hJ.2.1) (h.kk (fun a k c => by have := hA a k c; omega)) R
