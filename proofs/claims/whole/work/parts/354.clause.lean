/-! the pure layer: the tape, read by class and by model: clauses -/
theorem wd_sl : ∀ w, w < 5 → hw_sl (some w) = some (nI 5) := by decide +kernel
theorem wd_sc : ∀ w, w < 5 → ∀ j, j < 5 → ∃ c, c < 128 ∧ hw_sc (some w) (nI j) = some (nI c) := by decide +kernel
theorem ins_w {v : Nat} (h : v < 100) : hw_ins (iI (-10 - v)) (nI (4 + 256 * v)) := Or.inr (Or.inr (Or.inr (Or.inr (Or.inl ⟨v, h, rfl, rfl⟩))))
theorem ins_e {v : Nat} (h : v < 100) : hw_ins (iI (-200 - v)) (nI (5 + 256 * v)) := Or.inr (Or.inr (Or.inr (Or.inr (Or.inr ⟨v, h, rfl, rfl⟩))))
def Gd (fm : Nat → Int32) (hv cv : Int32) : Prop := (∀ j, j < 4 → ∃ q : Nat, q < 100 ∧ fm j = nI q) ∧ (∃ q : Nat, q < 100 ∧ hv = nI q) ∧ ∃ q : Nat, q < 100 ∧ cv = nI q
def RQ (T : Nat → Int32) (n l : Nat) (σ0 τ0 : hw_S) (cr : Option (Int32 × hw_S)) (mr : Option hw_S) : Prop := (∃ fm hv cv σ' τ' p k, cr = some (1, σ') ∧ mr = some τ' ∧ LV T n l σ0 τ0 fm hv cv σ' τ' p k 0 0 ∧ Gd fm hv cv) ∨ (∃ σ' τ' q, cr = some (0, σ') ∧ mr = some τ' ∧ DD l σ0 τ0 σ' τ' q)
section CLAUSE
variable {T : Nat → Int32} {n l : Nat} {σ0 τ0 : hw_S} {fm : Nat → Int32} {hv cv : Int32} {σ τ : hw_S} {p k o h : Nat} {C S : Nat → Int32}
theorem d_spl {w : Nat} (hw : w < 5) : ∀ d j fr τ, j + d = 5 → d < fr → dS l τ0 τ p → ∃ τ', m12_spells_b2 fr 41 (some w) (nI j) τ = some τ' ∧ dS l τ0 τ' p := by
  intro d
  induction d with
  | zero =>
    intro j fr τ e hf hx
    obtain ⟨fr, rfl⟩ : ∃ k, fr = k + 1 := ⟨fr - 1, by omega⟩
    refine ⟨τ, ?_, hx⟩
    rw [m12_spells_b2, wd_sl w hw, Option.bind_some, if_pos (nI_le (by omega) (by omega))]
  | succ d ih =>
    intro j fr τ e hf hx
    obtain ⟨fr, rfl⟩ : ∃ k, fr = k + 1 := ⟨fr - 1, by omega⟩
    obtain ⟨c, c1, c2⟩ := wd_sc w hw j (by omega)
    obtain ⟨τ1, b1, b2⟩ := d_mst hx (nI c)
    obtain ⟨τ2, g1, g2⟩ := ih (j + 1) fr τ1 (by omega) (by omega) b2
    refine ⟨τ2, ?_, g2⟩
    rw [m12_spells_b2, wd_sl w hw, Option.bind_some, if_neg (nI_ge (by omega) (by omega)), c2, Option.bind_some, hw_V_41 hx.2.1, Option.bind_some, b1, Option.bind_some, nI_1, g1]
theorem x_wrd (hn : n ≤ 120) {w : Nat} (hw : w < 5) : ∀ d j fc fr σ τ p, j + d = 5 → d < fc → d < fr → LV T n l σ0 τ0 fm hv cv σ τ p k o h → RS T n l σ0 τ0 fm hv cv (m4_comesWord_b2 fc 19 (some w) (nI j) σ) (m12_spells_b2 fr 41 (some w) (nI j) τ) p k o h := by
  intro d
  induction d with
  | zero =>
    intro j fc fr σ τ p e hf hf2 hx
    obtain ⟨fc, rfl⟩ : ∃ k, fc = k + 1 := ⟨fc - 1, by omega⟩
    obtain ⟨fr, rfl⟩ : ∃ k, fr = k + 1 := ⟨fr - 1, by omega⟩
    refine RS.ok ?_ ?_ hx
    · rw [m4_comesWord_b2, wd_sl w hw, Option.bind_some, if_pos (nI_le (by omega) (by omega)), hw_tf_1, Option.bind_some]
    · rw [m12_spells_b2, wd_sl w hw, Option.bind_some, if_pos (nI_le (by omega) (by omega))]
  | succ d ih =>
    intro j fc fr σ τ p e hf hf2 hx
    obtain ⟨fc, rfl⟩ : ∃ k, fc = k + 1 := ⟨fc - 1, by omega⟩
    obtain ⟨fr, rfl⟩ : ∃ k, fr = k + 1 := ⟨fr - 1, by omega⟩
    obtain ⟨c, c1, c2⟩ := wd_sc w hw j (by omega)
    obtain ⟨m1, m2⟩ := lv_mst hx hn (nI c)
    by_cases hc : hd T n p = nI c
    · have hp : p < n := hd_lt (by omega) hc
      obtain ⟨τ1, b1, b2⟩ := m1 hc
      have x1 := b2 hp
      have g := ih (j + 1) fc fr _ τ1 (p + 1) (by omega) (by omega) (by omega) x1
      rw [m4_comesWord_b2, m12_spells_b2, wd_sl w hw, Option.bind_some, if_neg (nI_ge (by omega) (by omega)), Option.bind_some, if_neg (nI_ge (by omega) (by omega)), c2, Option.bind_some, Option.bind_some, hw_V_19 hx.cF, Option.bind_some, hw_V_41 hx.rF, Option.bind_some, lv_com hx hn, if_pos hc, hw_b2s, hw_if10, b1, Option.bind_some, nI_1]
      exact g.tr (by omega) (by omega)
    · obtain ⟨τ1, b1, b2⟩ := m2 hc
      obtain ⟨τ2, g1, g2⟩ := d_spl hw d (j + 1) fr τ1 (by omega) (by omega) b2
      refine Or.inr ⟨σ, τ2, p, ?_, ?_, lv_dd hx g2⟩
      · rw [m4_comesWord_b2, wd_sl w hw, Option.bind_some, if_neg (nI_ge (by omega) (by omega)), c2, Option.bind_some, hw_V_19 hx.cF, Option.bind_some, lv_com hx hn, if_neg hc, hw_b2s, hw_if00, hw_tf_0, Option.bind_some]
      · rw [m12_spells_b2, wd_sl w hw, Option.bind_some, if_neg (nI_ge (by omega) (by omega)), c2, Option.bind_some, hw_V_41 hx.rF, Option.bind_some, b1, Option.bind_some, nI_1, g1]
theorem x_word (hn : n ≤ 120) {w : Nat} (hw : w < 5) (hx : LV T n l σ0 τ0 fm hv cv σ τ p k o h) : RS T n l σ0 τ0 fm hv cv (m4_comesWord 19 (some w) σ) (m12_spells 41 (some w) τ) p k o h := x_wrd hn hw 5 0 hw_fu hw_fu σ τ p (by decide) (by decide) (by decide) hx
theorem lv_num (hn : n ≤ 120) (hx : LV T n l σ0 τ0 fm hv cv σ τ p k o h) : (∃ v q σ' τ', v < 100 ∧ p < q ∧ m4_number 19 σ = some (nI v, σ') ∧ m12_figures 41 τ = some (nI v, τ') ∧ LV T n l σ0 τ0 fm hv cv σ' τ' q k o h) ∨ (∃ z τ', m4_number 19 σ = some (-1, σ) ∧ m12_figures 41 τ = some (z, τ') ∧ DD l σ0 τ0 σ τ' p) := by
  obtain ⟨C, S, hc, hr, hi, ht, hp, hk⟩ := hx
  rcases x_num hc hr hn hp with ⟨v, q, σ', τ', v1, v2, v3, v4, v5, v6, v7⟩ | ⟨z, τ', z1, z2, z3⟩
  · exact Or.inl ⟨v, q, σ', τ', v1, v2, v4, v5, C, S, v6, v7, hi, ht, v3, by omega⟩
  · exact Or.inr ⟨z, τ', z1, z2, DD.of hc z3⟩
def much_t (b v : Int32) (τ : hw_S) : Option hw_S :=
  (hw_rv (hw_q 12) (some 41) τ).bind fun a13 =>
  (m12_must 41 (32 : Int32) τ).bind fun σ13 =>
  (hw_rv (hw_q 12) (some 41) σ13).bind fun a17 =>
  (m12_some (m12_factor 8) 41 σ13).bind fun σ17 =>
  (hw_rv (hw_q 12) (some 41) σ17).bind fun a24 =>
  (m12_emits 41 (b - v) σ17).bind fun σ24 =>
  some σ24
theorem much_e (b : Int32) (w : Option Nat) (τ : hw_S) : m12_much 41 b w τ = (hw_rv (hw_q 12) (some 41) τ).bind fun a2 => (m12_spells 41 w τ).bind fun σ2 => (hw_rv (hw_q 12) (some 41) σ2).bind fun a6 => hw_b2 (m12_figures 41 σ2) fun v6 σ6 => much_t b v6 σ6 := rfl
theorem d_mt (b v : Int32) (hx : dS l τ0 τ p) : ∃ τ', much_t b v τ = some τ' ∧ dS l τ0 τ' p := by
  obtain ⟨τ1, b1, b2⟩ := d_mst hx 32
  refine ⟨τ1, ?_, b2⟩
  unfold much_t
  rw [hw_V_41 hx.2.1, Option.bind_some, b1, Option.bind_some, hw_V_41 b2.2.1, Option.bind_some, d_some8 b2, Option.bind_some, hw_V_41 b2.2.1, Option.bind_some, d_emt b2, Option.bind_some]
theorem x_mch (hn : n ≤ 120) (hl : l < 8) (hg : Gd fm hv cv) {L cc : Int32} {b : Int} {cN w : Nat} (hw : w < 5) (n99 : ¬ L = 99) (n102 : ¬ L = 102) (n104 : ¬ L = 104) (hcc : ∀ v σ, (if L = (119 : Int32) then m4_isClause_b153 19 v 19 (4 : Int32) σ else m4_isClause_b153 19 v 19 (5 : Int32) σ) = m4_isClause_b153 19 v 19 cc σ) (hcv : ∀ v, v < 100 → cc ||| (nI v <<< ((8 : Int32) &&& 31)) = nI (cN + 256 * v)) (hins : ∀ v, v < 100 → hw_ins (iI (b - (v : Nat))) (nI (cN + 256 * v))) (hs : ∀ v, v < 100 → hst (iI (b - (v : Nat))) 1 = some 0) (hx : LV T n l σ0 τ0 fm hv cv σ τ p k 0 0) : RQ T n l σ0 τ0 (hw_b2 (m4_comesWord 19 (some w) σ) fun v16 σ16 => (if v16 = 0 then m4_isClause_b22 19 σ16 else m4_isClause_b38 19 L (0 : Int32) σ16)) (m12_much 41 (iI b) (some w) τ) := by
  have z0 : (0 : Int32) ≤ 0 := by decide
  have m1 : ¬ (0 : Int32) ≤ -1 := by decide
  rcases x_word hn hw hx with ⟨σ1, τ1, p1, k1, a1, a2, a3, a4, a5⟩ | ⟨σ1, τ1, q, a1, a2, a3⟩
  · have E2 : m12_much 41 (iI b) (some w) τ = hw_b2 (m12_figures 41 τ1) fun v6 σ6 => much_t (iI b) v6 σ6 := by
      rw [much_e, hw_V_41 hx.rF, Option.bind_some, a2, Option.bind_some, hw_V_41 a3.rF, Option.bind_some]
    have E1 : (hw_b2 (m4_comesWord 19 (some w) σ) fun v16 σ16 => (if v16 = 0 then m4_isClause_b22 19 σ16 else m4_isClause_b38 19 L (0 : Int32) σ16)) = hw_b2 (m4_number 19 σ1) fun v48 σ48 => m4_isClause_b51 19 L 0 v48 σ48 := by
      rw [a1, hw_b2s, hw_if10]
      unfold m4_isClause_b38
      rw [if_pos z0, hw_V_19 a3.cF, Option.bind_some]
    rw [E1, E2]
    rcases lv_num hn a3 with ⟨v, q, σ2, τ2, v1, v2, v3, v4, x2⟩ | ⟨z, τ2, z1, z2, z3⟩
    · rw [v3, v4, hw_b2s, hw_b2s]
      have c51 : m4_isClause_b51 19 L 0 (nI v) σ2 = hw_b2 (m4_comes 19 (32 : Int32) σ2) fun v125 σ125 => (if v125 = 0 then m4_isClause_b139 19 σ125 else (hw_rv (hw_q 4) (some 19) σ125).bind fun a133 => hw_b2 (m4_isAny (m4_isPart 8) 19 (0 : Int32) σ125) fun v133 σ133 => (if v133 = 0 then m4_isClause_b139 19 σ133 else m4_isClause_b153 19 (nI v) 19 cc σ133)) := by
        unfold m4_isClause_b51
        rw [if_pos (nI_pos0 (by omega)), if_neg n99, if_neg n102, if_neg n104, hw_V_19 x2.cF, Option.bind_some]
        simp only [hcc]
      rw [c51, lv_com x2 hn]
      obtain ⟨m1', m2'⟩ := lv_mst x2 hn 32
      by_cases hc : hd T n q = 32
      · have hp : q < n := hd_lt (c := 32) (by decide) hc
        obtain ⟨τ3, b1, b2⟩ := m1' hc
        have x3 := b2 hp
        rw [if_pos hc, hw_b2s, hw_if10, hw_V_19 x3.cF, Option.bind_some]
        unfold much_t
        rw [hw_V_41 x2.rF, Option.bind_some, b1, Option.bind_some, hw_V_41 x3.rF, Option.bind_some]
        rcases x_sme hn hl x3 with ⟨σ4, τ4, p4, k4, d1, d2, x4, d4, d5⟩ | ⟨σ4, τ4, q4, d1, d2, d3⟩
        · have kp := x3.kp
          obtain ⟨σ5, τ5, w1, w2, w3⟩ := lv_ad x4 hn hl (by have := hx.kp; omega) (hins v v1) (hs v v1)
          refine Or.inl ⟨fm, hv, cv, σ5, τ5, p4, k4 + 1, ?_, ?_, w3, hg⟩
          · rw [d1, hw_b2s, hw_if10]
            unfold m4_isClause_b153
            rw [hw_V_19 x4.cF, Option.bind_some, hcv v v1, w1, Option.bind_some, hw_tf_1, Option.bind_some]
          · rw [d2, Option.bind_some, hw_V_41 x4.rF, Option.bind_some, iI_nI, iI_sub, w2, Option.bind_some]
        · refine Or.inr ⟨σ4, τ4, q4, ?_, ?_, d3⟩
          · rw [d1, hw_b2s, if_pos rfl]
            unfold m4_isClause_b139
            rw [hw_tf_0, Option.bind_some]
          · rw [d2, Option.bind_some, hw_V_41 d3.2.2.2.2.1, Option.bind_some, d_emt d3.2.2.2, Option.bind_some]
      · obtain ⟨τ3, b1, b2⟩ := m2' hc
        refine Or.inr ⟨σ2, τ3, q, ?_, ?_, lv_dd x2 b2⟩
        · rw [if_neg hc, hw_b2s, if_pos rfl]
          unfold m4_isClause_b139
          rw [hw_tf_0, Option.bind_some]
        · unfold much_t
          rw [hw_V_41 x2.rF, Option.bind_some, b1, Option.bind_some, hw_V_41 b2.2.1, Option.bind_some, d_some8 b2, Option.bind_some, hw_V_41 b2.2.1, Option.bind_some, d_emt b2, Option.bind_some]
    · obtain ⟨τ3, b1, b2⟩ := d_mt (iI b) z z3.2.2.2
      refine Or.inr ⟨σ1, τ3, p1, ?_, ?_, lv_dd a3 b2⟩
      · rw [z1, hw_b2s]
        unfold m4_isClause_b51
        rw [if_neg m1, hw_tf_0, Option.bind_some]
      · rw [z2, hw_b2s, b1]
  · obtain ⟨z, τ2, f1, f2⟩ := d_fig a3.2.2.2
    obtain ⟨τ3, b1, b2⟩ := d_mt (iI b) z f2
    refine Or.inr ⟨σ1, τ3, q, ?_, ?_, a3.1, a3.2.1, a3.2.2.1, b2⟩
    · rw [a1, hw_b2s, if_pos rfl]
      unfold m4_isClause_b22
      rw [hw_tf_0, Option.bind_some]
    · rw [much_e, hw_V_41 hx.rF, Option.bind_some, a2, Option.bind_some, hw_V_41 a3.2.2.2.2.1, Option.bind_some, f1, hw_b2s, b1]
theorem c_hv (h : cS T n σ0 fm hv cv σ p k C) (v : Int32) : cS T n σ0 fm v cv (hw_wI 19 6 v σ) p k C := by
  obtain ⟨a1, a2, a3, a4, a5, a6, a7, a8, a9, a10, a11⟩ := h
  refine ⟨a1.tr (hw_d.wI (by unfold hw_ard; omega)), a2, a3, ?_, ?_, ?_, fun i hi => ?_, fun j hj => ?_, hw_wI_y, ?_, fun j hj => ?_⟩
  · rw [hw_wI_n (by omega)]; exact a4
  · rw [hw_wI_n (by omega)]; exact a5
  · rw [hw_wI_n (by omega)]; exact a6
  · rw [hw_wI_n (by omega)]; exact a7 i hi
  · rw [hw_wI_n (by omega)]; exact a8 j hj
  · rw [hw_wI_n (by omega)]; exact a10
  · rw [hw_wI_n (by omega)]; exact a11 j hj
theorem c_cv (h : cS T n σ0 fm hv cv σ p k C) (v : Int32) : cS T n σ0 fm hv v (hw_wI 19 7 v σ) p k C := by
  obtain ⟨a1, a2, a3, a4, a5, a6, a7, a8, a9, a10, a11⟩ := h
  refine ⟨a1.tr (hw_d.wI (by unfold hw_ard; omega)), a2, a3, ?_, ?_, ?_, fun i hi => ?_, fun j hj => ?_, ?_, hw_wI_y, fun j hj => ?_⟩
  · rw [hw_wI_n (by omega)]; exact a4
  · rw [hw_wI_n (by omega)]; exact a5
  · rw [hw_wI_n (by omega)]; exact a6
  · rw [hw_wI_n (by omega)]; exact a7 i hi
  · rw [hw_wI_n (by omega)]; exact a8 j hj
  · rw [hw_wI_n (by omega)]; exact a9
  · rw [hw_wI_n (by omega)]; exact a11 j hj
theorem c_fm (h : cS T n σ0 fm hv cv σ p k C) (i : Nat) (v : Int32) : cS T n σ0 (fun j => if j = i then v else fm j) hv cv (hw_wI 22 i v σ) p k C := by
  obtain ⟨a1, a2, a3, a4, a5, a6, a7, a8, a9, a10, a11⟩ := h
  refine ⟨a1.tr (hw_d.wI (by unfold hw_ard; omega)), a2, a3, ?_, ?_, ?_, fun i hi => ?_, fun j hj => ?_, ?_, ?_, fun j hj => ?_⟩
  · rw [hw_wI_n (by omega)]; exact a4
  · rw [hw_wI_n (by omega)]; exact a5
  · rw [hw_wI_n (by omega)]; exact a6
  · rw [hw_wI_n (by omega)]; exact a7 i hi
  · by_cases e : j = i
    · rw [e, hw_wI_y]; exact (if_pos rfl).symm
    · rw [hw_wI_n (by omega)]; exact (a8 j hj).trans (if_neg e).symm
  · rw [hw_wI_n (by omega)]; exact a9
  · rw [hw_wI_n (by omega)]; exact a10
  · rw [hw_wI_n (by omega)]; exact a11 j hj
theorem r_hv (h : rS T n l τ0 fm hv cv τ p k o S) (hn : n ≤ 120) (hl : l < 8) (hk : k ≤ 120) (v : Int32) : rS T n l τ0 fm v cv (hw_wI 42 (156 + l) v τ) p k o S := by
  obtain ⟨a1, a2, a3, a4, a5, a6, a7, a8, a9, a10, a11, a12, a13⟩ := h
  refine ⟨a1.tr (hw_d.wI (by unfold hw_arf hw_il; omega)), a2, ?_, ?_, ?_, ?_, ?_, ?_, fun i hi => ?_, fun j hj => ?_, hw_wI_y, ?_, fun j hj => ?_⟩
  · rw [hw_wI_n (by omega)]; exact a3
  · rw [hw_wI_n (by omega)]; exact a4
  · rw [hw_wI_n (by omega)]; exact a5
  · rw [hw_wI_n (by omega)]; exact a6
  · rw [hw_wI_n (by omega)]; exact a7
  · rw [hw_wI_n (by omega)]; exact a8
  · rw [hw_wI_n (by omega)]; exact a9 i hi
  · rw [hw_wI_n (by omega)]; exact a10 j hj
  · rw [hw_wI_n (by omega)]; exact a12
  · rw [hw_wI_n (by omega)]; exact a13 j hj
theorem r_cv (h : rS T n l τ0 fm hv cv τ p k o S) (hn : n ≤ 120) (hl : l < 8) (hk : k ≤ 120) (v : Int32) : rS T n l τ0 fm hv v (hw_wI 42 (164 + l) v τ) p k o S := by
  obtain ⟨a1, a2, a3, a4, a5, a6, a7, a8, a9, a10, a11, a12, a13⟩ := h
  refine ⟨a1.tr (hw_d.wI (by unfold hw_arf hw_il; omega)), a2, ?_, ?_, ?_, ?_, ?_, ?_, fun i hi => ?_, fun j hj => ?_, ?_, hw_wI_y, fun j hj => ?_⟩
  · rw [hw_wI_n (by omega)]; exact a3
  · rw [hw_wI_n (by omega)]; exact a4
  · rw [hw_wI_n (by omega)]; exact a5
  · rw [hw_wI_n (by omega)]; exact a6
  · rw [hw_wI_n (by omega)]; exact a7
  · rw [hw_wI_n (by omega)]; exact a8
  · rw [hw_wI_n (by omega)]; exact a9 i hi
  · rw [hw_wI_n (by omega)]; exact a10 j hj
  · rw [hw_wI_n (by omega)]; exact a11
  · rw [hw_wI_n (by omega)]; exact a13 j hj
theorem r_fm (h : rS T n l τ0 fm hv cv τ p k o S) (hn : n ≤ 120) (hl : l < 8) (hk : k ≤ 120) {i : Nat} (hi : i < 4) (v : Int32) : rS T n l τ0 (fun j => if j = i then v else fm j) hv cv (hw_wI 42 (172 + 4 * l + i) v τ) p k o S := by
  obtain ⟨a1, a2, a3, a4, a5, a6, a7, a8, a9, a10, a11, a12, a13⟩ := h
  refine ⟨a1.tr (hw_d.wI (by unfold hw_arf hw_il; omega)), a2, ?_, ?_, ?_, ?_, ?_, ?_, fun i hi => ?_, fun j hj => ?_, ?_, ?_, fun j hj => ?_⟩
  · rw [hw_wI_n (by omega)]; exact a3
  · rw [hw_wI_n (by omega)]; exact a4
  · rw [hw_wI_n (by omega)]; exact a5
  · rw [hw_wI_n (by omega)]; exact a6
  · rw [hw_wI_n (by omega)]; exact a7
  · rw [hw_wI_n (by omega)]; exact a8
  · rw [hw_wI_n (by omega)]; exact a9 i hi
  · by_cases e : j = i
    · rw [e, hw_wI_y]; exact (if_pos rfl).symm
    · rw [hw_wI_n (by omega)]; exact (a10 j hj).trans (if_neg e).symm
  · rw [hw_wI_n (by omega)]; exact a11
  · rw [hw_wI_n (by omega)]; exact a12
  · rw [hw_wI_n (by omega)]; exact a13 j hj
end CLAUSE
