/-! the pure layer: the tape, read by class and by model: single steps -/
def hw_ard (a k : Nat) : Prop := (a = 19 ∧ (k = 1 ∨ k = 2 ∨ k = 4 ∨ k = 6 ∨ k = 7)) ∨ a = 21 ∨ a = 22
def hw_arf (l a k : Nat) : Prop := (a = 41 ∧ (k = 5 ∨ k = 7 ∨ k = 8)) ∨ (a = 42 ∧ hw_il l k ∧ k ≠ 140 + l ∧ k ≠ 148 + l)
def hd (T : Nat → Int32) (n p : Nat) : Int32 := if p < n then T p else -1
def cS (T : Nat → Int32) (n : Nat) (σ0 : hw_S) (fm : Nat → Int32) (hv cv : Int32) (σ : hw_S) (p k : Nat) (C : Nat → Int32) : Prop := hw_d hw_ard σ0 σ ∧ hw_F σ ∧ σ.2.2.2.1 19 0 = some 4 ∧ σ.2.2.1 19 1 = nI n ∧ σ.2.2.1 19 2 = nI p ∧ σ.2.2.1 19 4 = nI k ∧ (∀ i, i < n → σ.2.2.1 4 i = T i) ∧ (∀ j, j < 4 → σ.2.2.1 22 j = fm j) ∧ σ.2.2.1 19 6 = hv ∧ σ.2.2.1 19 7 = cv ∧ ∀ j, j < k → σ.2.2.1 21 j = C j
def rS (T : Nat → Int32) (n l : Nat) (τ0 : hw_S) (fm : Nat → Int32) (hv cv : Int32) (τ : hw_S) (p k o : Nat) (S : Nat → Int32) : Prop := hw_d (hw_arf l) τ0 τ ∧ hw_F τ ∧ τ.2.2.1 41 4 = nI l ∧ τ.2.2.1 41 5 = nI p ∧ τ.2.2.1 41 6 = nI n ∧ τ.2.2.1 41 7 = 0 ∧ τ.2.2.1 41 8 = nI o ∧ τ.2.2.1 42 (204 + l) = nI k ∧ (∀ i, i < n → τ.2.2.1 42 (10 + i) = T i) ∧ (∀ j, j < 4 → τ.2.2.1 42 (172 + 4 * l + j) = fm j) ∧ τ.2.2.1 42 (156 + l) = hv ∧ τ.2.2.1 42 (164 + l) = cv ∧ ∀ j, j < k → τ.2.2.1 42 (212 + 140 * l + j) = S j
def dS (l : Nat) (τ0 τ : hw_S) (p : Nat) : Prop := hw_d (hw_arf l) τ0 τ ∧ hw_F τ ∧ τ.2.2.1 41 7 = 1 ∧ τ.2.2.1 41 5 = nI p
section TAPE
variable {T : Nat → Int32} {n l : Nat} {σ0 τ0 : hw_S} {fm : Nat → Int32} {hv cv : Int32} {σ τ : hw_S} {p k o : Nat} {C S : Nat → Int32}
theorem cS.F (h : cS T n σ0 fm hv cv σ p k C) : hw_F σ := h.2.1
theorem rS.F (h : rS T n l τ0 fm hv cv τ p k o S) : hw_F τ := h.2.1
theorem cS.pl (h : cS T n σ0 fm hv cv σ p k C) : σ.2.2.1 19 2 = nI p := h.2.2.2.2.1
theorem rS.pl (h : rS T n l τ0 fm hv cv τ p k o S) : τ.2.2.1 41 5 = nI p := h.2.2.2.1
theorem rS.wr (h : rS T n l τ0 fm hv cv τ p k o S) : τ.2.2.1 41 7 = 0 := h.2.2.2.2.2.1
theorem rS.op (h : rS T n l τ0 fm hv cv τ p k o S) : τ.2.2.1 41 8 = nI o := h.2.2.2.2.2.2.1
theorem c_ahd (h : cS T n σ0 fm hv cv σ p k C) (hn : n ≤ 120) (hp : p ≤ n) : m4_ahead 19 σ = some (hd T n p) := by
  obtain ⟨-, hF, h0, h1, h2, -, hT, -⟩ := h
  unfold m4_ahead m4_ahead_b30 m4_ahead_b31 hd
  rw [hw_G_19 hF, Option.bind_some, h2, if_neg (nI_pos (by omega)), Option.bind_some, hw_G_19 hF, Option.bind_some, h1]
  by_cases hc : p < n
  · rw [if_neg (nI_ge hc (by omega)), if_pos hc, hw_gP_at (q := hw_q 4) (by rw [hF.1 19 (by decide)]; decide) h0, Option.bind_some, Option.bind_some, hw_A_4 hF (by omega), Option.bind_some, hT p hc]
  · rw [if_pos (nI_le (by omega) (by omega)), if_neg hc]
theorem r_hr (h : rS T n l τ0 fm hv cv τ p k o S) (hn : n ≤ 120) (hp : p ≤ n) : m12_here 41 τ = some (hd T n p) := by
  obtain ⟨-, hF, h4, h5, h6, -, -, -, hT, -⟩ := h
  unfold m12_here m12_here_b27 hd
  rw [hw_G_41 hF, Option.bind_some, h5, hw_G_41 hF, Option.bind_some, h6]
  by_cases hc : p < n
  · rw [if_neg (nI_ge hc (by omega)), if_pos hc, hw_P_41_1 hF, Option.bind_some, Option.bind_some, show (10 : Int32) + nI p = nI (10 + p) from nI_add 10 p, hw_A_42 hF (by omega), Option.bind_some, hT p hc]
  · rw [if_pos (nI_le (by omega) (by omega)), if_neg hc]
theorem c_plc (h : cS T n σ0 fm hv cv σ p k C) (q : Nat) : cS T n σ0 fm hv cv (hw_wI 19 2 (nI q) σ) q k C := by
  obtain ⟨a1, a2, a3, a4, a5, a6, a7, a8, a9, a10, a11⟩ := h
  refine ⟨a1.tr (hw_d.wI (by unfold hw_ard; omega)), a2, a3, ?_, hw_wI_y, ?_, fun i hi => ?_, fun j hj => ?_, ?_, ?_, fun j hj => ?_⟩
  · rw [hw_wI_n (by omega)]; exact a4
  · rw [hw_wI_n (by omega)]; exact a6
  · rw [hw_wI_n (by omega)]; exact a7 i hi
  · rw [hw_wI_n (by omega)]; exact a8 j hj
  · rw [hw_wI_n (by omega)]; exact a9
  · rw [hw_wI_n (by omega)]; exact a10
  · rw [hw_wI_n (by omega)]; exact a11 j hj
theorem r_spt (h : rS T n l τ0 fm hv cv τ p k o S) (q : Nat) : rS T n l τ0 fm hv cv (hw_wI 41 5 (nI q) τ) q k o S := by
  obtain ⟨a1, a2, a3, a4, a5, a6, a7, a8, a9, a10, a11, a12, a13⟩ := h
  refine ⟨a1.tr (hw_d.wI (by unfold hw_arf; omega)), a2, ?_, hw_wI_y, ?_, ?_, ?_, ?_, fun i hi => ?_, fun j hj => ?_, ?_, ?_, fun j hj => ?_⟩
  · rw [hw_wI_n (by omega)]; exact a3
  · rw [hw_wI_n (by omega)]; exact a5
  · rw [hw_wI_n (by omega)]; exact a6
  · rw [hw_wI_n (by omega)]; exact a7
  · rw [hw_wI_n (by omega)]; exact a8
  · rw [hw_wI_n (by omega)]; exact a9 i hi
  · rw [hw_wI_n (by omega)]; exact a10 j hj
  · rw [hw_wI_n (by omega)]; exact a11
  · rw [hw_wI_n (by omega)]; exact a12
  · rw [hw_wI_n (by omega)]; exact a13 j hj
theorem r_w0 (h : rS T n l τ0 fm hv cv τ p k o S) : rS T n l τ0 fm hv cv (hw_wI 41 7 0 τ) p k o S := by
  obtain ⟨a1, a2, a3, a4, a5, a6, a7, a8, a9, a10, a11, a12, a13⟩ := h
  refine ⟨a1.tr (hw_d.wI (by unfold hw_arf; omega)), a2, ?_, ?_, ?_, hw_wI_y, ?_, ?_, fun i hi => ?_, fun j hj => ?_, ?_, ?_, fun j hj => ?_⟩
  · rw [hw_wI_n (by omega)]; exact a3
  · rw [hw_wI_n (by omega)]; exact a4
  · rw [hw_wI_n (by omega)]; exact a5
  · rw [hw_wI_n (by omega)]; exact a7
  · rw [hw_wI_n (by omega)]; exact a8
  · rw [hw_wI_n (by omega)]; exact a9 i hi
  · rw [hw_wI_n (by omega)]; exact a10 j hj
  · rw [hw_wI_n (by omega)]; exact a11
  · rw [hw_wI_n (by omega)]; exact a12
  · rw [hw_wI_n (by omega)]; exact a13 j hj
theorem r_o (h : rS T n l τ0 fm hv cv τ p k o S) (q : Nat) : rS T n l τ0 fm hv cv (hw_wI 41 8 (nI q) τ) p k q S := by
  obtain ⟨a1, a2, a3, a4, a5, a6, a7, a8, a9, a10, a11, a12, a13⟩ := h
  refine ⟨a1.tr (hw_d.wI (by unfold hw_arf; omega)), a2, ?_, ?_, ?_, ?_, hw_wI_y, ?_, fun i hi => ?_, fun j hj => ?_, ?_, ?_, fun j hj => ?_⟩
  · rw [hw_wI_n (by omega)]; exact a3
  · rw [hw_wI_n (by omega)]; exact a4
  · rw [hw_wI_n (by omega)]; exact a5
  · rw [hw_wI_n (by omega)]; exact a6
  · rw [hw_wI_n (by omega)]; exact a8
  · rw [hw_wI_n (by omega)]; exact a9 i hi
  · rw [hw_wI_n (by omega)]; exact a10 j hj
  · rw [hw_wI_n (by omega)]; exact a11
  · rw [hw_wI_n (by omega)]; exact a12
  · rw [hw_wI_n (by omega)]; exact a13 j hj
/-- the model has found a fault: nothing moves any more -/
theorem r_dead (h : rS T n l τ0 fm hv cv τ p k o S) : dS l τ0 (hw_wI 41 7 1 τ) p :=
  ⟨h.1.tr (hw_d.wI (by unfold hw_arf; omega)), h.2.1, hw_wI_y, by rw [hw_wI_n (by omega)]; exact h.pl⟩
theorem d_7 (h : dS l τ0 τ p) : dS l τ0 (hw_wI 41 7 1 τ) p :=
  ⟨h.1.tr (hw_d.wI (by unfold hw_arf; omega)), h.2.1, hw_wI_y, by rw [hw_wI_n (by omega)]; exact h.2.2.2⟩
theorem d_5 (h : dS l τ0 τ p) : dS l τ0 (hw_wI 41 5 (nI p) τ) p :=
  ⟨h.1.tr (hw_d.wI (by unfold hw_arf; omega)), h.2.1, by rw [hw_wI_n (by omega)]; exact h.2.2.1, hw_wI_y⟩
theorem d_8 (h : dS l τ0 τ p) (v : Int32) : dS l τ0 (hw_wI 41 8 v τ) p :=
  ⟨h.1.tr (hw_d.wI (by unfold hw_arf; omega)), h.2.1, by rw [hw_wI_n (by omega)]; exact h.2.2.1, by rw [hw_wI_n (by omega)]; exact h.2.2.2⟩
theorem c_com (h : cS T n σ0 fm hv cv σ p k C) (hn : n ≤ 120) (hp : p ≤ n) (c : Int32) : m4_comes 19 c σ = if hd T n p = c then some (1, hw_wI 19 2 (nI (p + 1)) σ) else some (0, σ) := by
  unfold m4_comes
  rw [hw_V_19 h.F, Option.bind_some, c_ahd h hn hp, Option.bind_some, hw_G_19 h.F, Option.bind_some, h.pl, nI_1, hw_W_19 h.F, Option.bind_some, hw_tf_1, Option.bind_some, hw_tf_0, Option.bind_some]
theorem c_ad (h : cS T n σ0 fm hv cv σ p k C) (hk : k < 120) (v : Int32) : ∃ σ', m4_add 19 v σ = some σ' ∧ cS T n σ0 fm hv cv σ' p (k + 1) (fun j => if j = k then v else C j) := by
  obtain ⟨a1, a2, a3, a4, a5, a6, a7, a8, a9, a10, a11⟩ := h
  have F1 : hw_F (hw_wI 21 k v σ) := a2
  refine ⟨hw_wI 19 4 (nI (k + 1)) (hw_wI 21 k v σ), ?_, (a1.tr (hw_d.wI (by unfold hw_ard; omega))).tr (hw_d.wI (by unfold hw_ard; omega)), a2, a3, ?_, ?_, hw_wI_y, fun i hi => ?_, fun j hj => ?_, ?_, ?_, fun j hj => ?_⟩
  · unfold m4_add m4_add_b29
    rw [hw_G_19 a2, Option.bind_some, a6, if_neg (show ¬ (120 : Int32) ≤ nI k from nI_ge (b := 120) hk (by decide)), hw_P_19_3 a2, Option.bind_some, Option.bind_some, hw_B_21 a2 hk, Option.bind_some, hw_G_19 F1, Option.bind_some, hw_wI_n (by omega), a6, nI_1, hw_W_19 F1, Option.bind_some]
  · rw [hw_wI_n (by omega), hw_wI_n (by omega)]; exact a4
  · rw [hw_wI_n (by omega), hw_wI_n (by omega)]; exact a5
  · rw [hw_wI_n (by omega), hw_wI_n (by omega)]; exact a7 i hi
  · rw [hw_wI_n (by omega), hw_wI_n (by omega)]; exact a8 j hj
  · rw [hw_wI_n (by omega), hw_wI_n (by omega)]; exact a9
  · rw [hw_wI_n (by omega), hw_wI_n (by omega)]; exact a10
  · by_cases e : j = k
    · rw [e, hw_wI_n (by omega), hw_wI_y]; exact (if_pos rfl).symm
    · rw [hw_wI_n (by omega), hw_wI_n (by omega)]; exact (a11 j (by omega)).trans (if_neg e).symm
theorem r_emt (h : rS T n l τ0 fm hv cv τ p k o S) (hn : n ≤ 120) (hl : l < 8) (hk : k < 120) (v : Int32) : ∃ τ', m12_emits 41 v τ = some τ' ∧ rS T n l τ0 fm hv cv τ' p (k + 1) o (fun j => if j = k then v else S j) := by
  have hF := h.F
  have hw := h.wr
  obtain ⟨a1, a2, a3, a4, a5, a6, a7, a8, a9, a10, a11, a12, a13⟩ := h
  have F1 : hw_F (hw_wI 42 (212 + 140 * l + k) v τ) := a2
  have e1 : (204 : Int32) + nI l = nI (204 + l) := nI_add 204 l
  have e2 : ((212 : Int32) + ((140 : Int32) * nI l)) + nI k = nI (212 + 140 * l + k) := by
    rw [show (140 : Int32) * nI l = nI (140 * l) from nI_mul 140 l, show (212 : Int32) + nI (140 * l) = nI (212 + 140 * l) from nI_add 212 (140 * l), nI_add]
  have v4 : (hw_wI 42 (212 + 140 * l + k) v τ).2.2.1 41 4 = nI l := by rw [hw_wI_n (by omega)]; exact a3
  have v204 : (hw_wI 42 (212 + 140 * l + k) v τ).2.2.1 42 (204 + l) = nI k := by rw [hw_wI_n (by omega)]; exact a8
  refine ⟨hw_wI 42 (204 + l) (nI (k + 1)) (hw_wI 42 (212 + 140 * l + k) v τ), ?_, (a1.tr (hw_d.wI (by unfold hw_arf hw_il; omega))).tr (hw_d.wI (by unfold hw_arf hw_il; omega)), a2, ?_, ?_, ?_, ?_, ?_, hw_wI_y, fun i hi => ?_, fun j hj => ?_, ?_, ?_, fun j hj => ?_⟩
  · unfold m12_emits m12_emits_b56
    rw [hw_G_41 a2, Option.bind_some, a6, hw_if00, hw_P_41_1 a2, Option.bind_some, hw_G_41 a2, Option.bind_some, a3, Option.bind_some, Option.bind_some, e1, hw_A_42 a2 (by omega), Option.bind_some, a8, e2, hw_B_42 a2 (by omega), Option.bind_some, hw_P_41_1 F1, Option.bind_some, hw_G_41 F1, Option.bind_some, v4, e1, hw_A_42 F1 (by omega), Option.bind_some, v204, nI_1, hw_B_42 F1 (by omega), Option.bind_some]
  · rw [hw_wI_n (by omega), hw_wI_n (by omega)]; exact a3
  · rw [hw_wI_n (by omega), hw_wI_n (by omega)]; exact a4
  · rw [hw_wI_n (by omega), hw_wI_n (by omega)]; exact a5
  · rw [hw_wI_n (by omega), hw_wI_n (by omega)]; exact a6
  · rw [hw_wI_n (by omega), hw_wI_n (by omega)]; exact a7
  · rw [hw_wI_n (by omega), hw_wI_n (by omega)]; exact a9 i hi
  · rw [hw_wI_n (by omega), hw_wI_n (by omega)]; exact a10 j hj
  · rw [hw_wI_n (by omega), hw_wI_n (by omega)]; exact a11
  · rw [hw_wI_n (by omega), hw_wI_n (by omega)]; exact a12
  · by_cases e : j = k
    · rw [e, hw_wI_n (by omega), hw_wI_y]; exact (if_pos rfl).symm
    · rw [hw_wI_n (by omega), hw_wI_n (by omega)]; exact (a13 j (by omega)).trans (if_neg e).symm
theorem d_emt (h : dS l τ0 τ p) (v : Int32) : m12_emits 41 v τ = some τ := by
  unfold m12_emits m12_emits_b56
  rw [hw_G_41 h.2.1, Option.bind_some, h.2.2.1, hw_if10]
theorem r_mst (h : rS T n l τ0 fm hv cv τ p k o S) (hn : n ≤ 120) (hp : p ≤ n) (c : Int32) : (hd T n p = c → ∃ τ', m12_must 41 c τ = some τ' ∧ rS T n l τ0 fm hv cv τ' (p + 1) k o S) ∧ (¬ hd T n p = c → ∃ τ', m12_must 41 c τ = some τ' ∧ dS l τ0 τ' p) := by
  have F0 : hw_F (hw_wI 41 7 0 τ) := h.F
  have F1 : hw_F (hw_wI 41 7 1 τ) := h.F
  unfold m12_must m12_must_b16 m12_must_b21 m12_must_b41
  rw [hw_G_41 h.F, Option.bind_some, h.wr, hw_if00, hw_V_41 h.F, Option.bind_some, r_hr h hn hp, Option.bind_some]
  refine ⟨fun hc => ?_, fun hc => ?_⟩
  · refine ⟨hw_wI 41 5 (nI (p + 1)) (hw_wI 41 7 0 τ), ?_, r_spt (r_w0 h) (p + 1)⟩
    rw [if_pos hc, hw_tf_0, Option.bind_some, hw_W_41 h.F, Option.bind_some, hw_G_41 F0, Option.bind_some, (r_w0 h).pl, hw_G_41 F0, Option.bind_some, (r_w0 h).wr, hw_if00, nI_1, hw_W_41 F0, Option.bind_some]
  · refine ⟨hw_wI 41 5 (nI p) (hw_wI 41 7 1 τ), ?_, d_5 (r_dead h)⟩
    rw [if_neg hc, hw_tf_1, Option.bind_some, hw_W_41 h.F, Option.bind_some, hw_G_41 F1, Option.bind_some, (r_dead h).2.2.2, hw_G_41 F1, Option.bind_some, (r_dead h).2.2.1, hw_if10, Int32.add_zero, hw_W_41 F1, Option.bind_some]
theorem d_mst (h : dS l τ0 τ p) (c : Int32) : ∃ τ', m12_must 41 c τ = some τ' ∧ dS l τ0 τ' p := by
  have F1 : hw_F (hw_wI 41 7 1 τ) := h.2.1
  refine ⟨hw_wI 41 5 (nI p) (hw_wI 41 7 1 τ), ?_, d_5 (d_7 h)⟩
  unfold m12_must m12_must_b16 m12_must_b21 m12_must_b41
  rw [hw_G_41 h.2.1, Option.bind_some, h.2.2.1, hw_if10, hw_tf_1, Option.bind_some, hw_W_41 h.2.1, Option.bind_some, hw_G_41 F1, Option.bind_some, (d_7 h).2.2.2, hw_G_41 F1, Option.bind_some, (d_7 h).2.2.1, hw_if10, Int32.add_zero, hw_W_41 F1, Option.bind_some]
theorem d_fig (h : dS l τ0 τ p) : ∃ z τ', m12_figures 41 τ = some (z, τ') ∧ dS l τ0 τ' p := by
  have F1 : hw_F (hw_wI 41 7 1 τ) := h.2.1
  refine ⟨0, hw_wI 41 7 1 τ, ?_, d_7 h⟩
  unfold m12_figures m12_figures_b22 m12_figures_b27
  rw [hw_G_41 h.2.1, Option.bind_some, h.2.2.1, hw_if10, hw_tf_1, Option.bind_some, hw_W_41 h.2.1, Option.bind_some]
  show m12_figures_b34 (3999 + 1) 41 0 0 (hw_wI 41 7 1 τ) = _
  rw [m12_figures_b34, if_neg (show ¬ (2 : Int32) ≤ 0 by decide), hw_G_41 F1, Option.bind_some, (d_7 h).2.2.1, hw_if10]
  rfl
theorem hd_lt {c : Nat} (hc : c < 1000) (h : hd T n p = nI c) : p < n := by
  unfold hd at h
  by_cases hp : p < n
  · exact hp
  · rw [if_neg hp] at h
    exact absurd h.symm (hw_nn1 (by omega))
/-- a number: both read it, or both find the fault where it should begin -/
theorem x_num (hc : cS T n σ0 fm hv cv σ p k C) (hr : rS T n l τ0 fm hv cv τ p k o S) (hn : n ≤ 120) (hp : p ≤ n) : (∃ v q σ' τ', v < 100 ∧ p < q ∧ q ≤ n ∧ m4_number 19 σ = some (nI v, σ') ∧ m12_figures 41 τ = some (nI v, τ') ∧ cS T n σ0 fm hv cv σ' q k C ∧ rS T n l τ0 fm hv cv τ' q k o S) ∨ (∃ z τ', m4_number 19 σ = some (-1, σ) ∧ m12_figures 41 τ = some (z, τ') ∧ dS l τ0 τ' p) := by
  have ein1 : ∀ x : Int32, m11_isWithin x (48 : Int32) (57 : Int32) = some (hw_tb (nI 48 ≤ x ∧ x ≤ nI 57)) := fun x => e11_isWithin x 48 57
  have ein2 : ∀ x : Int32, m12_in x (48 : Int32) (57 : Int32) = some (hw_tb (nI 48 ≤ x ∧ x ≤ nI 57)) := fun x => e12_in x 48 57
  have F0 : hw_F (hw_wI 41 7 0 τ) := hr.F
  have r0 := r_w0 hr
  by_cases h1 : nI 48 ≤ hd T n p ∧ hd T n p ≤ nI 57
  · left
    obtain ⟨c, c1, c2, ec⟩ := hw_win (lo := 48) (hi := 57) (by decide) (by decide) h1
    have hpn : p < n := hd_lt (by omega) ec
    obtain ⟨d, rfl⟩ : ∃ d, c = 48 + d := ⟨c - 48, by omega⟩
    have e48 : nI (48 + d) - (48 : Int32) = nI d := by
      rw [show (48 : Int32) = nI 48 from rfl, nI_sub (by omega)]
      congr 1
      omega
    have e48b : ((10 : Int32) * (0 : Int32) + nI (48 + d)) - (48 : Int32) = nI d := by
      rw [show (10 : Int32) * (0 : Int32) = nI 0 by decide, nI_add, Nat.zero_add, e48]
    have cs1 := c_plc hc (p + 1)
    have rs1 := r_spt r0 (p + 1)
    have Fc1 := cs1.F
    have Fr1 := rs1.F
    -- both have read the first figure
    have cnum : m4_number 19 σ = if nI d ≤ 0 then some (nI d, hw_wI 19 2 (nI (p + 1)) σ) else (if nI 48 ≤ hd T n (p + 1) ∧ hd T n (p + 1) ≤ nI 57 then some ((((10 : Int32) * nI d) + hd T n (p + 1)) - (48 : Int32), hw_wI 19 2 (nI (p + 2)) (hw_wI 19 2 (nI (p + 1)) σ)) else some (nI d, hw_wI 19 2 (nI (p + 1)) σ)) := by
      unfold m4_number m4_number_b75
      rw [hw_V_19 hc.F, Option.bind_some, c_ahd hc hn hp, Option.bind_some, ein1, Option.bind_some, hw_itb, if_pos h1, Option.bind_some, Option.bind_some, hw_G_19 hc.F, Option.bind_some, hc.pl, nI_1, hw_W_19 hc.F, Option.bind_some, ec, e48]
      by_cases h0 : nI d ≤ 0
      · rw [if_pos h0, if_pos h0]
      · rw [if_neg h0, if_neg h0, hw_V_19 Fc1, Option.bind_some, c_ahd cs1 hn (by omega), Option.bind_some, ein1, Option.bind_some, hw_itb]
        by_cases h2 : nI 48 ≤ hd T n (p + 1) ∧ hd T n (p + 1) ≤ nI 57
        · rw [if_pos h2, if_pos h2, Option.bind_some, Option.bind_some, hw_G_19 Fc1, Option.bind_some, cs1.pl, nI_1, hw_W_19 Fc1, Option.bind_some]
        · rw [if_neg h2, if_neg h2]
    have rfig : m12_figures 41 τ = if nI 48 ≤ hd T n (p + 1) ∧ hd T n (p + 1) ≤ nI 57 then (if nI d ≤ 0 then some (nI d, hw_wI 41 5 (nI (p + 1)) (hw_wI 41 7 0 τ)) else some ((((10 : Int32) * nI d) + hd T n (p + 1)) - (48 : Int32), hw_wI 41 5 (nI (p + 2)) (hw_wI 41 5 (nI (p + 1)) (hw_wI 41 7 0 τ)))) else some (nI d, hw_wI 41 5 (nI (p + 1)) (hw_wI 41 7 0 τ)) := by
      unfold m12_figures m12_figures_b22 m12_figures_b27
      rw [hw_G_41 hr.F, Option.bind_some, hr.wr, hw_if00, hw_V_41 hr.F, Option.bind_some, r_hr hr hn hp, Option.bind_some, ein2, Option.bind_some, hw_itb, if_pos h1, hw_tf_0, Option.bind_some, hw_W_41 hr.F, Option.bind_some]
      show m12_figures_b34 (3997 + 1 + 1 + 1) 41 0 0 (hw_wI 41 7 0 τ) = _
      rw [m12_figures_b34, if_neg (show ¬ (2 : Int32) ≤ 0 by decide), hw_G_41 F0, Option.bind_some, r0.wr, hw_if00, hw_V_41 F0, Option.bind_some, r_hr r0 hn hp, Option.bind_some, ein2, Option.bind_some, hw_itb, if_pos h1, hw_if00]
      unfold m12_figures_b68
      rw [hw_V_41 F0, Option.bind_some, r_hr r0 hn hp, Option.bind_some, hw_G_41 F0, Option.bind_some, r0.pl, nI_1, hw_W_41 F0, Option.bind_some, ec, e48b]
      rw [m12_figures_b34, if_neg (show ¬ (2 : Int32) ≤ 0 + 1 by decide), hw_G_41 Fr1, Option.bind_some, rs1.wr, hw_if00, hw_V_41 Fr1, Option.bind_some, r_hr rs1 hn (by omega), Option.bind_some, ein2, Option.bind_some, hw_itb]
      by_cases h2 : nI 48 ≤ hd T n (p + 1) ∧ hd T n (p + 1) ≤ nI 57
      · rw [if_pos h2, if_pos h2, if_neg (show ¬ (0 : Int32) + 1 = 0 by decide)]
        unfold m12_figures_b97
        by_cases h0 : nI d ≤ 0
        · rw [if_pos h0, if_pos h0]
        · rw [if_neg h0, if_neg h0]
          unfold m12_figures_b68
          rw [hw_V_41 Fr1, Option.bind_some, r_hr rs1 hn (by omega), Option.bind_some, hw_G_41 Fr1, Option.bind_some, rs1.pl, nI_1, hw_W_41 Fr1, Option.bind_some]
          rw [m12_figures_b34, if_pos (show (2 : Int32) ≤ 0 + 1 + 1 by decide)]
          rfl
      · rw [if_neg h2, if_neg h2]
        rfl
    by_cases h0 : nI d ≤ 0
    · refine ⟨d, p + 1, _, _, by omega, by omega, by omega, by rw [cnum, if_pos h0], ?_, cs1, rs1⟩
      rw [rfig, if_pos h0, ite_self]
    · by_cases h2 : nI 48 ≤ hd T n (p + 1) ∧ hd T n (p + 1) ≤ nI 57
      · obtain ⟨c', c1', c2', ec'⟩ := hw_win (lo := 48) (hi := 57) (by decide) (by decide) h2
        have hpn' : p + 1 < n := hd_lt (by omega) ec'
        obtain ⟨d', rfl⟩ : ∃ d, c' = 48 + d := ⟨c' - 48, by omega⟩
        have ev : (((10 : Int32) * nI d) + hd T n (p + 1)) - (48 : Int32) = nI (10 * d + d') := by
          rw [ec', show (10 : Int32) * nI d = nI (10 * d) from nI_mul 10 d, nI_add, show (48 : Int32) = nI 48 from rfl, nI_sub (by omega)]
          congr 1
          omega
        refine ⟨10 * d + d', p + 2, _, _, by omega, by omega, by omega, by rw [cnum, if_neg h0, if_pos h2, ev], ?_, c_plc cs1 (p + 2), r_spt rs1 (p + 2)⟩
        rw [rfig, if_pos h2, if_neg h0, ev]
      · refine ⟨d, p + 1, _, _, by omega, by omega, by omega, by rw [cnum, if_neg h0, if_neg h2], ?_, cs1, rs1⟩
        rw [rfig, if_neg h2]
  · right
    have F1 : hw_F (hw_wI 41 7 1 τ) := hr.F
    refine ⟨0, hw_wI 41 7 1 τ, ?_, ?_, r_dead hr⟩
    · unfold m4_number
      rw [hw_V_19 hc.F, Option.bind_some, c_ahd hc hn hp, Option.bind_some, ein1, Option.bind_some, hw_itb, if_neg h1]
    · unfold m12_figures m12_figures_b22 m12_figures_b27
      rw [hw_G_41 hr.F, Option.bind_some, hr.wr, hw_if00, hw_V_41 hr.F, Option.bind_some, r_hr hr hn hp, Option.bind_some, ein2, Option.bind_some, hw_itb, if_neg h1, hw_tf_1, Option.bind_some, hw_W_41 hr.F, Option.bind_some]
      show m12_figures_b34 (3999 + 1) 41 0 0 (hw_wI 41 7 1 τ) = _
      rw [m12_figures_b34, if_neg (show ¬ (2 : Int32) ≤ 0 by decide), hw_G_41 F1, Option.bind_some, (r_dead hr).2.2.1, hw_if10]
      rfl
end TAPE
