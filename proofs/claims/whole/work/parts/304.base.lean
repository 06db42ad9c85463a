/-! the pure layer: the base that a law tells, by the class and by the model -/
theorem hw_gP_at {σ : hw_S} {q : Nat → Bool} {k a : Nat} {v : Option Nat} (h : q (σ.1 a) = true) (e : σ.2.2.2.1 a k = v) : hw_gP q k (some a) σ = some v := by
  show (if q (σ.1 a) = true then _ else _) = _
  rw [if_pos h, e]
theorem hw_gI_at {σ : hw_S} {q : Nat → Bool} {k a : Nat} {v : Int32} (h : q (σ.1 a) = true) (e : σ.2.2.1 a k = v) : hw_gI q k (some a) σ = some v := by
  show (if q (σ.1 a) = true then _ else _) = _
  rw [if_pos h, e]
theorem hw_rv_at {σ : hw_S} {q : Nat → Bool} {a : Nat} (h : q (σ.1 a) = true) : hw_rv q (some a) σ = some a := by
  show (if q (σ.1 a) = true then _ else _) = _
  rw [if_pos h]
theorem hw_aI_at {σ : hw_S} {t a n j : Nat} (h : σ.1 a = t + 21) (hl : σ.2.1 a = n) (hj : j < n) (hn : n < 2 ^ 31) : hw_aI t (some a) (nI j) σ = some (σ.2.2.1 a j) := by
  show (if σ.1 a = t + 21 ∧ ¬ (nI j < 0 ∨ σ.2.1 a ≤ (nI j).toNatClampNeg) then _ else _) = _
  rw [hl, if_pos ⟨h, hw_nIx hj hn⟩, nI_clamp (Nat.lt_trans hj hn)]
theorem hw_aL_at {σ : hw_S} {a n : Nat} (h : 21 ≤ σ.1 a) (h2 : σ.1 a < 26) (hl : σ.2.1 a = n) : hw_aL (some a) σ = some (nI n) := by
  show (if 21 ≤ σ.1 a ∧ σ.1 a < 26 then _ else _) = _
  rw [if_pos ⟨h, h2⟩, hl]
  rfl
def sp_cmp (g : Nat) (x v : Int32) : Bool := if g = 0 then decide (x < v) else if g = 1 then decide (x = v) else decide (v < x)
def sp_not : List Bool → List Bool
  | [] => []
  | b :: r => (!b) :: r
def sp_and : List Bool → List Bool
  | b :: a :: r => (a && b) :: r
  | r => r
def sp_or : List Bool → List Bool
  | b :: a :: r => (a || b) :: r
  | r => r
def sp_top : List Bool → Bool
  | [] => false
  | b :: _ => b
def sp_step (B : Nat → Int32) (s : Int32) (q : List Bool × Int) : List Bool × Int :=
  if 0 ≤ s then (sp_cmp (s.toNatClampNeg / 8 % 4) (B (s.toNatClampNeg % 8)) (nI (s.toNatClampNeg / 32)) :: q.1, q.2)
  else if s = iI (-1) then (sp_not q.1, q.2)
  else if s = iI (-2) then (sp_and q.1, q.2)
  else if s = iI (-3) then (sp_or q.1, q.2)
  else ([], q.2 + (if sp_top q.1 = true then (if iI (-200) < s then -10 - s.toInt else s.toInt + 200) else 0))
def sp_run (B : Nat → Int32) (f : Nat → Int32) : Nat → List Bool × Int
  | 0 => ([], 0)
  | j + 1 => sp_step B (f j) (sp_run B f j)
-- the five kinds of steps, in the model's numbers
theorem hw_s_ge (m : Nat) (h : m < 4096) : (0 : Int32) ≤ nI m := nI_pos' (by omega)
theorem hw_s_neg (z : Int) (h : -400 ≤ z) (h2 : z < 0) : ¬ (0 : Int32) ≤ iI z := by
  rw [show (0 : Int32) = iI 0 from rfl, iI_le (by omega) (by omega) (by omega) (by omega)]
  omega
theorem hw_s_ne (z y : Int) (h : -400 ≤ z) (h2 : z < 400) (h3 : -400 ≤ y) (h4 : y < 400) (hn : z ≠ y) : ¬ iI z = iI y := by
  rw [iI_eq (by omega) (by omega) (by omega) (by omega)]
  exact hn
theorem sp_step_t {B : Nat → Int32} {t g n : Nat} (ht : t < 5) (hg : g < 3) (hn : n < 100) (q : List Bool × Int) : sp_step B (nI (t + 8 * g + 32 * n)) q = (sp_cmp g (B t) (nI n) :: q.1, q.2) := by
  unfold sp_step
  rw [if_pos (hw_s_ge _ (by omega)), nI_clamp (by omega), show (t + 8 * g + 32 * n) / 8 % 4 = g by omega, show (t + 8 * g + 32 * n) % 8 = t by omega, show (t + 8 * g + 32 * n) / 32 = n by omega]
theorem sp_step_not {B : Nat → Int32} (q : List Bool × Int) : sp_step B (iI (-1)) q = (sp_not q.1, q.2) := by
  unfold sp_step
  rw [if_neg (hw_s_neg _ (by omega) (by omega)), if_pos rfl]
theorem sp_step_and {B : Nat → Int32} (q : List Bool × Int) : sp_step B (iI (-2)) q = (sp_and q.1, q.2) := by
  unfold sp_step
  rw [if_neg (hw_s_neg _ (by omega) (by omega)), if_neg (hw_s_ne _ _ (by omega) (by omega) (by omega) (by omega) (by omega)), if_pos rfl]
theorem sp_step_or {B : Nat → Int32} (q : List Bool × Int) : sp_step B (iI (-3)) q = (sp_or q.1, q.2) := by
  unfold sp_step
  rw [if_neg (hw_s_neg _ (by omega) (by omega)), if_neg (hw_s_ne _ _ (by omega) (by omega) (by omega) (by omega) (by omega)), if_neg (hw_s_ne _ _ (by omega) (by omega) (by omega) (by omega) (by omega)), if_pos rfl]
theorem sp_step_wind {B : Nat → Int32} {n : Nat} (hn : n < 100) (q : List Bool × Int) : sp_step B (iI (-10 - n)) q = ([], q.2 + (if sp_top q.1 = true then (n : Int) else 0)) := by
  unfold sp_step
  rw [if_neg (hw_s_neg _ (by omega) (by omega)), if_neg (hw_s_ne _ _ (by omega) (by omega) (by omega) (by omega) (by omega)), if_neg (hw_s_ne _ _ (by omega) (by omega) (by omega) (by omega) (by omega)), if_neg (hw_s_ne _ _ (by omega) (by omega) (by omega) (by omega) (by omega)), if_pos ((iI_lt (by omega) (by omega) (by omega) (by omega)).mpr (by omega)), iI_toInt (by omega) (by omega)]
  rw [show (-10 : Int) - (-10 - (n : Int)) = n by omega]
theorem sp_step_ease {B : Nat → Int32} {n : Nat} (hn : n < 100) (q : List Bool × Int) : sp_step B (iI (-200 - n)) q = ([], q.2 + (if sp_top q.1 = true then -(n : Int) else 0)) := by
  have h2 : ¬ iI (-200) < iI (-200 - (n : Int)) := fun c => by
    have := (iI_lt (by omega) (by omega) (by omega) (by omega)).mp c
    omega
  unfold sp_step
  rw [if_neg (hw_s_neg _ (by omega) (by omega)), if_neg (hw_s_ne _ _ (by omega) (by omega) (by omega) (by omega) (by omega)), if_neg (hw_s_ne _ _ (by omega) (by omega) (by omega) (by omega) (by omega)), if_neg (hw_s_ne _ _ (by omega) (by omega) (by omega) (by omega) (by omega)), if_neg h2, iI_toInt (by omega) (by omega)]
  rw [show (-200 : Int) - (n : Int) + 200 = -n by omega]
-- heights
theorem hw_ht_t {f : Nat → Int32} {j h t g n : Nat} (ht : t < 5) (hg : g < 3) (hn : n < 100) (e : f j = nI (t + 8 * g + 32 * n)) (hh : hw_ht f j = some h) : hw_ht f (j + 1) = if h < 14 then some (h + 1) else none := by
  show (hw_ht f j).bind _ = _
  rw [hh, Option.bind_some, e, if_pos (hw_s_ge _ (by omega))]
theorem hw_ht_not {f : Nat → Int32} {j h : Nat} (e : f j = iI (-1)) (hh : hw_ht f j = some h) : hw_ht f (j + 1) = if 1 ≤ h then some h else none := by
  show (hw_ht f j).bind _ = _
  rw [hh, Option.bind_some, e, if_neg (hw_s_neg _ (by omega) (by omega)), if_pos rfl]
theorem hw_ht_two {f : Nat → Int32} {j h : Nat} (e : f j = iI (-2) ∨ f j = iI (-3)) (hh : hw_ht f j = some h) : hw_ht f (j + 1) = if 2 ≤ h then some (h - 1) else none := by
  show (hw_ht f j).bind _ = _
  rw [hh, Option.bind_some, if_neg (e.elim (fun e => by rw [e]; exact hw_s_neg _ (by omega) (by omega)) (fun e => by rw [e]; exact hw_s_neg _ (by omega) (by omega))), if_neg (e.elim (fun e => by rw [e]; exact hw_s_ne _ _ (by omega) (by omega) (by omega) (by omega) (by omega)) (fun e => by rw [e]; exact hw_s_ne _ _ (by omega) (by omega) (by omega) (by omega) (by omega))), if_pos e]
theorem hw_ht_end {f : Nat → Int32} {j h : Nat} (z : Int) (hz : -400 ≤ z) (hz2 : z ≤ -10) (e : f j = iI z) (hh : hw_ht f j = some h) : hw_ht f (j + 1) = if h = 1 then some 0 else none := by
  show (hw_ht f j).bind _ = _
  rw [hh, Option.bind_some, e, if_neg (hw_s_neg _ (by omega) (by omega)), if_neg (hw_s_ne _ _ (by omega) (by omega) (by omega) (by omega) (by omega)), if_neg (fun c => c.elim (hw_s_ne _ _ (by omega) (by omega) (by omega) (by omega) (by omega)) (hw_s_ne _ _ (by omega) (by omega) (by omega) (by omega) (by omega)))]
theorem hw_ht_back {f : Nat → Int32} {j : Nat} (h : hw_ht f (j + 1) ≠ none) : ∃ k, hw_ht f j = some k := by
  cases hh : hw_ht f j with
  | none => exact absurd (show (hw_ht f j).bind _ = none by rw [hh]; rfl) h
  | some k => exact ⟨k, rfl⟩
theorem hw_ht_le {f : Nat → Int32} {n : Nat} (h : hw_ht f n ≠ none) : ∀ d j, j + d = n → ∃ k, hw_ht f j = some k := by
  intro d
  induction d with
  | zero =>
    intro j e
    have e : j = n := e
    subst e
    cases hh : hw_ht f j with
    | none => exact absurd hh h
    | some k => exact ⟨k, rfl⟩
  | succ d ih =>
    intro j e
    obtain ⟨k, hk⟩ := ih (j + 1) (by omega)
    exact hw_ht_back (by rw [hk]; exact fun c => by cases c)
/-- after j steps: as many truths as hw_ht says, the sum in its bounds -/
theorem sp_run_ok {B f c : Nat → Int32} {n : Nat} (ins : ∀ j, j < n → hw_ins (f j) (c j)) (ht : hw_ht f n ≠ none) : ∀ j, j ≤ n → ∃ h, hw_ht f j = some h ∧ (sp_run B f j).1.length = h ∧ h ≤ 14 ∧ -(99 * (j : Int)) ≤ (sp_run B f j).2 ∧ (sp_run B f j).2 ≤ 99 * (j : Int) := by
  intro j
  induction j with
  | zero => intro _; exact ⟨0, rfl, rfl, by omega, by show -(99 * ((0 : Nat) : Int)) ≤ 0; omega, by show (0 : Int) ≤ 99 * ((0 : Nat) : Int); omega⟩
  | succ j ih =>
    intro hj
    obtain ⟨h, h1, h2, h3, h4, h5⟩ := ih (by omega)
    obtain ⟨k, hk⟩ := hw_ht_le ht (n - (j + 1)) (j + 1) (by omega)
    refine ⟨k, hk, ?_⟩
    show (sp_step B (f j) (sp_run B f j)).1.length = k ∧ k ≤ 14 ∧ -(99 * ((j + 1 : Nat) : Int)) ≤ (sp_step B (f j) (sp_run B f j)).2 ∧ (sp_step B (f j) (sp_run B f j)).2 ≤ 99 * ((j + 1 : Nat) : Int)
    generalize sp_run B f j = q at h2 h4 h5
    rcases ins j (by omega) with ⟨t, g, m, a1, a2, a3, e, -⟩ | ⟨e, -⟩ | ⟨e, -⟩ | ⟨e, -⟩ | ⟨m, a3, e, -⟩ | ⟨m, a3, e, -⟩
    · rw [hw_ht_t a1 a2 a3 e h1] at hk
      by_cases hh : h < 14
      · rw [if_pos hh] at hk
        cases hk
        rw [e, sp_step_t a1 a2 a3]
        exact ⟨by show q.1.length + 1 = h + 1; rw [h2], by omega, by show _ ≤ q.2; omega, by show q.2 ≤ _; omega⟩
      · rw [if_neg hh] at hk; cases hk
    · rw [hw_ht_not e h1] at hk
      by_cases hh : 1 ≤ h
      · rw [if_pos hh] at hk
        cases hk
        rw [e, sp_step_not]
        refine ⟨?_, h3, by show _ ≤ q.2; omega, by show q.2 ≤ _; omega⟩
        obtain ⟨l, z⟩ := q
        cases l with
        | nil => exact h2
        | cons b r => exact h2
      · rw [if_neg hh] at hk; cases hk
    · rw [hw_ht_two (Or.inl e) h1] at hk
      by_cases hh : 2 ≤ h
      · rw [if_pos hh] at hk
        cases hk
        rw [e, sp_step_and]
        refine ⟨?_, by omega, by show _ ≤ q.2; omega, by show q.2 ≤ _; omega⟩
        obtain ⟨l, z⟩ := q
        match l, h2 with
        | [], h2 => have h2 : 0 = h := h2; omega
        | [b], h2 => have h2 : 1 = h := h2; omega
        | b :: a :: r, h2 => have h2 : r.length + 1 + 1 = h := h2; show r.length + 1 = h - 1; omega
      · rw [if_neg hh] at hk; cases hk
    · rw [hw_ht_two (Or.inr e) h1] at hk
      by_cases hh : 2 ≤ h
      · rw [if_pos hh] at hk
        cases hk
        rw [e, sp_step_or]
        refine ⟨?_, by omega, by show _ ≤ q.2; omega, by show q.2 ≤ _; omega⟩
        obtain ⟨l, z⟩ := q
        match l, h2 with
        | [], h2 => have h2 : 0 = h := h2; omega
        | [b], h2 => have h2 : 1 = h := h2; omega
        | b :: a :: r, h2 => have h2 : r.length + 1 + 1 = h := h2; show r.length + 1 = h - 1; omega
      · rw [if_neg hh] at hk; cases hk
    · rw [hw_ht_end (-10 - m) (by omega) (by omega) e h1] at hk
      by_cases hh : h = 1
      · rw [if_pos hh] at hk
        cases hk
        rw [e, sp_step_wind a3]
        refine ⟨rfl, by omega, ?_, ?_⟩
        · show _ ≤ q.2 + (if sp_top q.1 = true then (m : Int) else 0)
          split <;> omega
        · show q.2 + (if sp_top q.1 = true then (m : Int) else 0) ≤ _
          split <;> omega
      · rw [if_neg hh] at hk; cases hk
    · rw [hw_ht_end (-200 - m) (by omega) (by omega) e h1] at hk
      by_cases hh : h = 1
      · rw [if_pos hh] at hk
        cases hk
        rw [e, sp_step_ease a3]
        refine ⟨rfl, by omega, ?_, ?_⟩
        · show _ ≤ q.2 + (if sp_top q.1 = true then -(m : Int) else 0)
          split <;> omega
        · show q.2 + (if sp_top q.1 = true then -(m : Int) else 0) ≤ _
          split <;> omega
      · rw [if_neg hh] at hk; cases hk
