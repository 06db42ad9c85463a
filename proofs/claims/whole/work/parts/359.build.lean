/-! the pure layer: a law's object is built -/
theorem eq_tr {σ τ υ : hw_S} {a : Nat} (h : hw_eq σ τ a) (h2 : hw_eq τ υ a) : hw_eq σ υ a := ⟨h2.1.trans h.1, h2.2.1.trans h.2.1, h2.2.2.1.trans h.2.2.1, h2.2.2.2.trans h.2.2.2⟩
theorem eq_wI {σ : hw_S} {a z k : Nat} {v : Int32} (h : a ≠ z) : hw_eq σ (hw_wI z k v σ) a := ⟨rfl, rfl, if_neg h, rfl⟩
theorem eq_wP {σ : hw_S} {a z k : Nat} {v : Option Nat} (h : a ≠ z) : hw_eq σ (hw_wP z k v σ) a := ⟨rfl, rfl, rfl, if_neg h⟩
theorem eq_cp {σ : hw_S} {a z n : Nat} {f : Nat → Int32} (h : a ≠ z) : hw_eq σ (hw_cpO n z f σ) a := ⟨if_neg h, if_neg h, if_neg h, if_neg h⟩
theorem eq_d {A : Nat → Nat → Prop} {σ τ : hw_S} {a : Nat} (h : hw_d A σ τ) (hA : ∀ k, ¬ A a k) : hw_eq σ τ a := ⟨by rw [h.1], by rw [h.2.1], funext fun k => h.2.2.2 a k (hA k), by rw [h.2.2.1]⟩
theorem hw_F_cp {σ : hw_S} {n : Nat} {f : Nat → Int32} (h : hw_F σ) : hw_F (hw_cpO n σ.2.2.2.2 f σ) := by
  have hz := h.2.2.2
  refine hw_F_k h (fun a ha => ?_) (fun a k ha _ _ _ _ _ => ?_) (Nat.le_succ _)
  · have e := eq_cp (σ := σ) (n := n) (f := f) (a := a) (z := σ.2.2.2.2) (by omega)
    exact ⟨e.1, e.2.1⟩
  · have e := eq_cp (σ := σ) (n := n) (f := f) (a := a) (z := σ.2.2.2.2) (by omega)
    rw [e.2.2.2]
/-- the new law's object and its three rows, from z on -/
def BL (s τ : hw_S) (z tag kn : Nat) (k l v : Int32) : Prop := τ.2.2.2.2 = z + 4 ∧ (∀ a, a < z → hw_eq s τ a) ∧ (τ.1 z = tag ∧ τ.1 (z + 1) = 22 ∧ τ.2.1 (z + 1) = 100 ∧ τ.1 (z + 2) = 21 ∧ τ.2.1 (z + 2) = 4 ∧ τ.1 (z + 3) = 21 ∧ τ.2.1 (z + 3) = kn) ∧ (τ.2.2.1 z 0 = k ∧ τ.2.2.1 z 1 = l ∧ τ.2.2.1 z 2 = v ∧ τ.2.2.1 z 3 = s.2.2.1 19 6 ∧ τ.2.2.1 z 4 = s.2.2.1 19 7) ∧ (τ.2.2.2.1 z 5 = some (z + 2) ∧ τ.2.2.2.1 z 6 = some (z + 3) ∧ τ.2.2.2.1 z 7 = some (z + 1)) ∧ (∀ j, j < 4 → τ.2.2.1 (z + 2) j = s.2.2.1 22 j) ∧ ∀ j, j < kn → τ.2.2.1 (z + 3) j = s.2.2.1 21 j
def SHF (c : Nat → Int32) (w : Nat → Int32) (j : Nat) : Prop := ∀ i, i < j → ∀ g q : Nat, g < 3 → q < 100 → c i = nI (16 + 64 * g + 256 * q) → ¬ w q = 0 ∧ (q + 1 < 100 → ¬ w (q + 1) = 0)
theorem sh_c {t g q : Nat} (ht : t < 5) (hg : g < 3) (hq : q < 100) : (nI (8 * t + 64 * g + 256 * q) &&& (7 : Int32) = 0) ∧ ((nI (8 * t + 64 * g + 256 * q) >>> ((3 : Int32) &&& 31)) &&& (7 : Int32)) = nI t ∧ nI (8 * t + 64 * g + 256 * q) >>> ((8 : Int32) &&& 31) = nI q := by
  refine ⟨?_, ?_, ?_⟩
  · rw [hw_and7 (by omega), show (8 * t + 64 * g + 256 * q) % 8 = 0 by omega]; rfl
  · rw [hw_shr3 (by omega), hw_and7 (by omega), show (8 * t + 64 * g + 256 * q) / 8 % 8 = t by omega]
  · rw [hw_shr8 (by omega), show (8 * t + 64 * g + 256 * q) / 256 = q by omega]
theorem sh_n {x : Nat} (hx : x < 2 ^ 31) (h : ¬ x % 8 = 0) : ¬ nI x &&& (7 : Int32) = 0 := by
  rw [hw_and7 hx]
  exact fun c => h ((nI_eq (b := 0) (by omega) (by decide)).mp c)
/-- what the paces below j have been told: each pace at a test's number, or just behind it, is marked -/
def SHG (c : Nat → Int32) (w : Nat → Int32) (kn j : Nat) : Prop := ∀ y, y < j → ∀ i, i < kn → ∀ g q : Nat, g < 3 → q < 100 → c i = nI (16 + 64 * g + 256 * q) → y = q ∨ y = q + 1 → ¬ w y = 0
theorem sh_in {u : hw_S} {z kn p : Nat} (hq : hw_qL (u.1 z) = true) (t3 : u.1 (z + 3) = 21) (l3 : u.2.1 (z + 3) = kn) (p6 : u.2.2.2.1 z 6 = some (z + 3)) (hk : kn ≤ 120) (hp : p < 100) (hi : ∀ j, j < kn → ∃ s, hw_ins s (u.2.2.1 (z + 3) j)) {σ : hw_S} (hd : hw_d (fun a _ => a = z + 1) u σ) :
    ∀ d j fuel, j + d = kn → d < fuel → ∃ r, m3_isTestedAt_b2 fuel z (nI p) (nI j) σ = some r ∧ (r = 0 ∨ r = 1) ∧ ∀ i, j ≤ i → i < kn → ∀ g q : Nat, g < 3 → q < 100 → u.2.2.1 (z + 3) i = nI (16 + 64 * g + 256 * q) → p = q ∨ p = q + 1 → ¬ r = 0 := by
  have g6 : hw_gP hw_qL 6 (some z) σ = some (some (z + 3)) := hw_gP_at (by rw [hd.1]; exact hq) (by rw [hd.2.2.1]; exact p6)
  have gl : hw_aL (some (z + 3)) σ = some (nI kn) := hw_aL_at (by rw [hd.1, t3]; decide) (by rw [hd.1, t3]; decide) (by rw [hd.2.1]; exact l3)
  have f0 : hw_tf (0 : Int32) = some () := if_pos (Or.inl rfl)
  have f1 : hw_tf (1 : Int32) = some () := if_pos (Or.inr rfl)
  intro d
  induction d with
  | zero =>
    intro j fuel e hf
    obtain ⟨fuel, rfl⟩ : ∃ k, fuel = k + 1 := ⟨fuel - 1, by omega⟩
    have e : j = kn := e
    subst e
    refine ⟨0, ?_, Or.inl rfl, fun i h1 h2 => absurd h2 (by omega)⟩
    rw [m3_isTestedAt_b2, g6, Option.bind_some, gl, Option.bind_some, if_pos (Int32.le_refl _), f0, Option.bind_some]
  | succ d ih =>
    intro j fuel e hf
    obtain ⟨fuel, rfl⟩ : ∃ k, fuel = k + 1 := ⟨fuel - 1, by omega⟩
    have hj : j < kn := by omega
    have gc : hw_aI 0 (some (z + 3)) (nI j) σ = some (u.2.2.1 (z + 3) j) := by
      rw [hw_aI_at (t := 0) (n := kn) (by rw [hd.1]; exact t3) (by rw [hd.2.1]; exact l3) hj (by omega), hd.2.2.2 (z + 3) j (by omega)]
    have go : (∀ g q : Nat, g < 3 → q < 100 → u.2.2.1 (z + 3) j = nI (16 + 64 * g + 256 * q) → ¬ (p = q ∨ p = q + 1)) → ∃ r, m3_isTestedAt_b61 (m3_isTestedAt_b2 fuel) z (nI p) (nI j) σ = some r ∧ (r = 0 ∨ r = 1) ∧ ∀ i, j ≤ i → i < kn → ∀ g q : Nat, g < 3 → q < 100 → u.2.2.1 (z + 3) i = nI (16 + 64 * g + 256 * q) → p = q ∨ p = q + 1 → ¬ r = 0 := fun h => by
      unfold m3_isTestedAt_b61
      rw [nI_1]
      obtain ⟨r, a1, a2, a3⟩ := ih (j + 1) fuel (by omega) (by omega)
      refine ⟨r, a1, a2, fun i h1 h2 g q hg hq' ec hh => ?_⟩
      by_cases c : i = j
      · rw [c] at ec
        exact absurd hh (h g q hg hq' ec)
      · exact a3 i (by omega) h2 g q hg hq' ec hh
    rw [m3_isTestedAt_b2, g6, Option.bind_some, gl, Option.bind_some, if_neg (nI_ge hj (by omega)), Option.bind_some, gc, Option.bind_some, Option.bind_some, Option.bind_some, gc, Option.bind_some]
    have other : ∀ x : Nat, x < 100000 → ¬ x % 8 = 0 → u.2.2.1 (z + 3) j = nI x → (¬ u.2.2.1 (z + 3) j &&& (7 : Int32) = 0) ∧ ∀ g q : Nat, g < 3 → q < 100 → u.2.2.1 (z + 3) j = nI (16 + 64 * g + 256 * q) → ¬ (p = q ∨ p = q + 1) := fun x hx h8 ex => by
      rw [ex]
      refine ⟨sh_n (by omega) h8, fun g q hg hq' c => ?_⟩
      have := (nI_eq (by omega) (by omega)).mp c
      omega
    obtain ⟨s, hs2⟩ := hi j hj
    rcases hs2 with ⟨t, g, q, h5, h3, h100, -, ec⟩ | ⟨-, ec⟩ | ⟨-, ec⟩ | ⟨-, ec⟩ | ⟨y, hy, -, ec⟩ | ⟨y, hy, -, ec⟩
    · obtain ⟨c1, c2, c3⟩ := sh_c h5 h3 h100
      rw [ec, if_pos c1, Option.bind_some, c2]
      by_cases t2 : t = 2
      · rw [if_pos (show nI t = (2 : Int32) by rw [t2]; rfl), c3, nI_1, e11_isWithin, Option.bind_some, hw_itb]
        by_cases hh : nI q ≤ nI p ∧ nI p ≤ nI (q + 1)
        · rw [if_pos hh, f1, Option.bind_some]
          exact ⟨1, rfl, Or.inr rfl, fun _ _ _ _ _ _ _ _ _ => by decide⟩
        · rw [if_neg hh]
          refine go (fun g' q' hg' hq' c h => hh ?_)
          rw [ec] at c
          have := (nI_eq (by omega) (by omega)).mp c
          exact (hw_winN (by omega) (by omega) (by omega)).mpr (by omega)
      · rw [if_neg (show ¬ nI t = (2 : Int32) from fun c => t2 ((nI_eq (b := 2) (by omega) (by decide)).mp c))]
        refine go (fun g' q' hg' hq' c => ?_)
        rw [ec] at c
        have := (nI_eq (by omega) (by omega)).mp c
        omega
    · obtain ⟨n7, hk'⟩ := other 1 (by decide) (by decide) ec
      rw [if_neg n7]
      exact go hk'
    · obtain ⟨n7, hk'⟩ := other 2 (by decide) (by decide) ec
      rw [if_neg n7]
      exact go hk'
    · obtain ⟨n7, hk'⟩ := other 3 (by decide) (by decide) ec
      rw [if_neg n7]
      exact go hk'
    · obtain ⟨n7, hk'⟩ := other (4 + 256 * y) (by omega) (by omega) ec
      rw [if_neg n7]
      exact go hk'
    · obtain ⟨n7, hk'⟩ := other (5 + 256 * y) (by omega) (by omega) ec
      rw [if_neg n7]
      exact go hk'
theorem sh_loop {u : hw_S} {z kn : Nat} (hq : hw_qL (u.1 z) = true) (t1 : u.1 (z + 1) = 22) (l1 : u.2.1 (z + 1) = 100) (t3 : u.1 (z + 3) = 21) (l3 : u.2.1 (z + 3) = kn) (p6 : u.2.2.2.1 z 6 = some (z + 3)) (p7 : u.2.2.2.1 z 7 = some (z + 1)) (hk : kn ≤ 120) (hi : ∀ j, j < kn → ∃ s, hw_ins s (u.2.2.1 (z + 3) j)) :
    ∀ d j fuel σ, j + d = 100 → d < fuel → hw_d (fun a _ => a = z + 1) u σ → SHG (u.2.2.1 (z + 3)) (σ.2.2.1 (z + 1)) kn j → ∃ τ, m3_init_b78 fuel z (nI j) σ = some τ ∧ hw_d (fun a _ => a = z + 1) u τ ∧ SHF (u.2.2.1 (z + 3)) (τ.2.2.1 (z + 1)) kn := by
  intro d
  induction d with
  | zero =>
    intro j fuel σ e hf hd hs
    obtain ⟨fuel, rfl⟩ : ∃ k, fuel = k + 1 := ⟨fuel - 1, by omega⟩
    have e : j = 100 := e
    subst e
    refine ⟨σ, ?_, hd, fun i hij g q hg hq' ec => ⟨hs q (by omega) i hij g q hg hq' ec (Or.inl rfl), fun h99 => hs (q + 1) h99 i hij g q hg hq' ec (Or.inr rfl)⟩⟩
    rw [m3_init_b78, if_pos (show (100 : Int32) ≤ nI 100 from Int32.le_refl _)]
  | succ d ih =>
    intro j fuel σ e hf hd hs
    obtain ⟨fuel, rfl⟩ : ∃ k, fuel = k + 1 := ⟨fuel - 1, by omega⟩
    have hj : j < 100 := by omega
    have g7 : hw_gP hw_qL 7 (some z) σ = some (some (z + 1)) := hw_gP_at (by rw [hd.1]; exact hq) (by rw [hd.2.2.1]; exact p7)
    have gv : hw_rv hw_qL (some z) σ = some z := by
      show (if hw_qL (σ.1 z) = true then some z else none) = _
      rw [hd.1, if_pos hq]
    obtain ⟨r, a1, a2, a3⟩ := sh_in hq t3 l3 p6 hk hj hi hd kn 0 hw_fu (Nat.zero_add kn) (show kn < 4000 by omega)
    have a1 : m3_isTestedAt z (nI j) σ = some r := a1
    have sz : hw_sZ (some (z + 1)) (nI j) r σ = some (hw_wI (z + 1) j r σ) := by
      show (if (σ.1 (z + 1) = 22 ∧ ¬ (nI j < 0 ∨ σ.2.1 (z + 1) ≤ (nI j).toNatClampNeg)) ∧ (r = 0 ∨ r = 1) then _ else _) = _
      rw [hd.1, hd.2.1, t1, l1, if_pos ⟨⟨rfl, hw_nIx (L := 100) hj (by decide)⟩, a2⟩, nI_clamp (by omega)]
    rw [m3_init_b78, if_neg (show ¬ (100 : Int32) ≤ nI j from nI_ge hj (by decide)), g7, Option.bind_some, gv, Option.bind_some, a1, Option.bind_some, sz, Option.bind_some, nI_1]
    refine ih (j + 1) fuel _ (by omega) (by omega) (hd.tr (hw_d.wI rfl)) (fun y hy i hij g q hg hq' ec hh => ?_)
    rw [hw_wI_3]
    by_cases y1 : y = j
    · rw [if_pos ⟨rfl, y1⟩]
      exact a3 i (Nat.zero_le i) hij g q hg hq' ec (y1 ▸ hh)
    · rw [if_neg (fun c => y1 c.2)]
      exact hs y (by omega) i hij g q hg hq' ec hh
theorem cp_e {u : hw_S} {a m n : Nat} (ha : a < 55) (hz : 55 ≤ u.2.2.2.2) (t : u.1 a = 21) (l : u.2.1 a = m) (hm : m ≤ 120) (hn : n ≤ 120) : m7J_copyOf (some a) (nI n) u = some (some u.2.2.2.2, hw_cpO n u.2.2.2.2 (fun j => if j < n ∧ j < m then u.2.2.1 a j else 0) u) := by
  have c := nI_clamp (show n < 2 ^ 31 by omega)
  show (if (u.1 a = 21 ∧ a < u.2.2.2.2 ∧ u.2.1 a ≤ 120) ∧ (¬ nI n < 0 ∧ (nI n).toNatClampNeg ≤ 120) then some (some u.2.2.2.2, hw_cpO (nI n).toNatClampNeg u.2.2.2.2 (fun j => if j < (nI n).toNatClampNeg ∧ j < u.2.1 a then u.2.2.1 a j else 0) u) else none) = _
  rw [c, l, if_pos ⟨⟨t, by omega, hm⟩, nI_pos (by omega), hn⟩]
theorem m3_bl {s : hw_S} {tag kn : Nat} {k l v : Int32} (hF : hw_F s) (hq : hw_qL tag = true) (h4 : s.2.2.1 19 4 = nI kn) (hk : kn ≤ 120) : ∃ τ, m3_init s.2.2.2.2 k l v (some 19) (hw_nw tag 0 s) = m3_init_b78 hw_fu s.2.2.2.2 (0 : Int32) τ ∧ BL s τ s.2.2.2.2 tag kn k l v ∧ hw_F τ := by
  have hz := hF.2.2.2
  have F1 : hw_F (hw_nw tag 0 s) := hw_F_nw hF
  have F2 : hw_F (hw_nw 22 100 (hw_nw tag 0 s)) := hw_F_nw F1
  have q1 : ∀ a, a < s.2.2.2.2 → hw_eq s (hw_nw 22 100 (hw_nw tag 0 s)) a := fun a h => eq_tr (hw_nw_eq (by omega)) (hw_nw_eq (show a ≠ s.2.2.2.2 + 1 by omega))
  have q2 : (hw_nw 22 100 (hw_nw tag 0 s)).1 s.2.2.2.2 = tag := ((hw_nw_eq (σ := hw_nw tag 0 s) (tag := 22) (n := 100) (show s.2.2.2.2 ≠ s.2.2.2.2 + 1 by omega)).1).trans (if_pos rfl)
  have q3 : (hw_nw 22 100 (hw_nw tag 0 s)).1 (s.2.2.2.2 + 1) = 22 := if_pos rfl
  have q4 : (hw_nw 22 100 (hw_nw tag 0 s)).2.1 (s.2.2.2.2 + 1) = 100 := if_pos rfl
  have q5 : (hw_nw 22 100 (hw_nw tag 0 s)).2.2.2.2 = s.2.2.2.2 + 2 := rfl
  have e1 : hw_naO 22 (100 : Int32) (hw_nw tag 0 s) = some (s.2.2.2.2 + 1, hw_nw 22 100 (hw_nw tag 0 s)) := by
    unfold hw_naO
    rw [if_neg (by decide)]
    rfl
  unfold m3_init
  rw [e1, hw_b2s]
  generalize hw_nw 22 100 (hw_nw tag 0 s) = a at F2 q1 q2 q3 q4 q5 ⊢
  generalize hzz : s.2.2.2.2 = z at hz q1 q2 q3 q4 q5 ⊢
  have eP : ∀ (w : hw_S) j (x : Option Nat), w.1 z = tag → hw_pP hw_qL j (some z) x w = some (hw_wP z j x w) := fun w j x h => if_pos (by rw [h]; exact hq)
  have eI : ∀ (w : hw_S) j (x : Int32), w.1 z = tag → hw_pI hw_qL j (some z) x w = some (hw_wI z j x w) := fun w j x h => if_pos (by rw [h]; exact hq)
  have F3 : hw_F (hw_wP z 7 (some (z + 1)) a) := hw_F_wP F2 (by omega)
  have p1 : ∀ b, b < z → hw_eq s (hw_wP z 7 (some (z + 1)) a) b := fun b h => eq_tr (q1 b h) (eq_wP (by omega))
  have p7 : (hw_wP z 7 (some (z + 1)) a).2.2.2.1 z 7 = some (z + 1) := hw_wP_y
  rw [eP a _ _ q2, Option.bind_some]
  have q2 : (hw_wP z 7 (some (z + 1)) a).1 z = tag := q2
  have q3 : (hw_wP z 7 (some (z + 1)) a).1 (z + 1) = 22 := q3
  have q4 : (hw_wP z 7 (some (z + 1)) a).2.1 (z + 1) = 100 := q4
  have q5 : (hw_wP z 7 (some (z + 1)) a).2.2.2.2 = z + 2 := q5
  generalize hw_wP z 7 (some (z + 1)) a = b at F3 p1 p7 q2 q3 q4 q5 ⊢
  have F4 : hw_F (hw_wI z 2 v (hw_wI z 1 l (hw_wI z 0 k b))) := F3
  have v6 : (hw_wI z 2 v (hw_wI z 1 l (hw_wI z 0 k b))).2.2.1 19 6 = s.2.2.1 19 6 := by rw [hw_wI_n (by omega), hw_wI_n (by omega), hw_wI_n (by omega), (p1 19 (by omega)).2.2.1]
  have F5 : hw_F (hw_wI z 3 (s.2.2.1 19 6) (hw_wI z 2 v (hw_wI z 1 l (hw_wI z 0 k b)))) := F3
  have v7 : (hw_wI z 3 (s.2.2.1 19 6) (hw_wI z 2 v (hw_wI z 1 l (hw_wI z 0 k b)))).2.2.1 19 7 = s.2.2.1 19 7 := by rw [hw_wI_n (by omega), hw_wI_n (by omega), hw_wI_n (by omega), hw_wI_n (by omega), (p1 19 (by omega)).2.2.1]
  rw [eI b _ _ q2, Option.bind_some, eI _ _ _ (show (hw_wI z 0 k b).1 z = tag from q2), Option.bind_some, eI _ _ _ (show (hw_wI z 1 l (hw_wI z 0 k b)).1 z = tag from q2), Option.bind_some, hw_G_19 F4, Option.bind_some, v6, eI _ _ _ (show (hw_wI z 2 v (hw_wI z 1 l (hw_wI z 0 k b))).1 z = tag from q2), Option.bind_some, hw_G_19 F5, Option.bind_some, v7, eI _ _ _ (show (hw_wI z 3 (s.2.2.1 19 6) (hw_wI z 2 v (hw_wI z 1 l (hw_wI z 0 k b)))).1 z = tag from q2), Option.bind_some]
  have F6 : hw_F (hw_wI z 4 (s.2.2.1 19 7) (hw_wI z 3 (s.2.2.1 19 6) (hw_wI z 2 v (hw_wI z 1 l (hw_wI z 0 k b))))) := F3
  have r1 : ∀ y, y < z → hw_eq s (hw_wI z 4 (s.2.2.1 19 7) (hw_wI z 3 (s.2.2.1 19 6) (hw_wI z 2 v (hw_wI z 1 l (hw_wI z 0 k b))))) y := fun y h => eq_tr (eq_tr (eq_tr (eq_tr (eq_tr (p1 y h) (eq_wI (by omega))) (eq_wI (by omega))) (eq_wI (by omega))) (eq_wI (by omega))) (eq_wI (by omega))
  have i0 : (hw_wI z 4 (s.2.2.1 19 7) (hw_wI z 3 (s.2.2.1 19 6) (hw_wI z 2 v (hw_wI z 1 l (hw_wI z 0 k b))))).2.2.1 z 0 = k := by rw [hw_wI_n (by omega), hw_wI_n (by omega), hw_wI_n (by omega), hw_wI_n (by omega), hw_wI_y]
  have i1 : (hw_wI z 4 (s.2.2.1 19 7) (hw_wI z 3 (s.2.2.1 19 6) (hw_wI z 2 v (hw_wI z 1 l (hw_wI z 0 k b))))).2.2.1 z 1 = l := by rw [hw_wI_n (by omega), hw_wI_n (by omega), hw_wI_n (by omega), hw_wI_y]
  have i2 : (hw_wI z 4 (s.2.2.1 19 7) (hw_wI z 3 (s.2.2.1 19 6) (hw_wI z 2 v (hw_wI z 1 l (hw_wI z 0 k b))))).2.2.1 z 2 = v := by rw [hw_wI_n (by omega), hw_wI_n (by omega), hw_wI_y]
  have i3 : (hw_wI z 4 (s.2.2.1 19 7) (hw_wI z 3 (s.2.2.1 19 6) (hw_wI z 2 v (hw_wI z 1 l (hw_wI z 0 k b))))).2.2.1 z 3 = s.2.2.1 19 6 := by rw [hw_wI_n (by omega), hw_wI_y]
  have i4 : (hw_wI z 4 (s.2.2.1 19 7) (hw_wI z 3 (s.2.2.1 19 6) (hw_wI z 2 v (hw_wI z 1 l (hw_wI z 0 k b))))).2.2.1 z 4 = s.2.2.1 19 7 := hw_wI_y
  have p7 : (hw_wI z 4 (s.2.2.1 19 7) (hw_wI z 3 (s.2.2.1 19 6) (hw_wI z 2 v (hw_wI z 1 l (hw_wI z 0 k b))))).2.2.2.1 z 7 = some (z + 1) := p7
  have q2 : (hw_wI z 4 (s.2.2.1 19 7) (hw_wI z 3 (s.2.2.1 19 6) (hw_wI z 2 v (hw_wI z 1 l (hw_wI z 0 k b))))).1 z = tag := q2
  have q3 : (hw_wI z 4 (s.2.2.1 19 7) (hw_wI z 3 (s.2.2.1 19 6) (hw_wI z 2 v (hw_wI z 1 l (hw_wI z 0 k b))))).1 (z + 1) = 22 := q3
  have q4 : (hw_wI z 4 (s.2.2.1 19 7) (hw_wI z 3 (s.2.2.1 19 6) (hw_wI z 2 v (hw_wI z 1 l (hw_wI z 0 k b))))).2.1 (z + 1) = 100 := q4
  have q5 : (hw_wI z 4 (s.2.2.1 19 7) (hw_wI z 3 (s.2.2.1 19 6) (hw_wI z 2 v (hw_wI z 1 l (hw_wI z 0 k b))))).2.2.2.2 = z + 2 := q5
  generalize hw_wI z 4 (s.2.2.1 19 7) (hw_wI z 3 (s.2.2.1 19 6) (hw_wI z 2 v (hw_wI z 1 l (hw_wI z 0 k b)))) = c at F6 r1 i0 i1 i2 i3 i4 p7 q2 q3 q4 q5 ⊢
  have ec : m7J_copyOf (some 22) (4 : Int32) c = some (some c.2.2.2.2, hw_cpO 4 c.2.2.2.2 (fun j => if j < 4 ∧ j < 4 then c.2.2.1 22 j else 0) c) := cp_e (n := 4) (by decide) F6.2.2.2 (by rw [F6.1 22 (by decide)]; decide) (by rw [F6.2.1 22 (by decide)]; decide) (by decide) (by decide)
  have G1 : hw_F (hw_cpO 4 c.2.2.2.2 (fun j => if j < 4 ∧ j < 4 then c.2.2.1 22 j else 0) c) := hw_F_cp F6
  rw [hw_P_19_5 F6, Option.bind_some, ec, hw_b2s]
  rw [q5] at G1 ⊢
  have j1 : ∀ y, ¬ y = z + 2 → hw_eq c (hw_cpO 4 (z + 2) (fun j => if j < 4 ∧ j < 4 then c.2.2.1 22 j else 0) c) y := fun y h => eq_cp h
  have j2 : (hw_cpO 4 (z + 2) (fun j => if j < 4 ∧ j < 4 then c.2.2.1 22 j else 0) c).1 (z + 2) = 21 := if_pos rfl
  have j3 : (hw_cpO 4 (z + 2) (fun j => if j < 4 ∧ j < 4 then c.2.2.1 22 j else 0) c).2.1 (z + 2) = 4 := if_pos rfl
  have j4 : ∀ j, j < 4 → (hw_cpO 4 (z + 2) (fun j => if j < 4 ∧ j < 4 then c.2.2.1 22 j else 0) c).2.2.1 (z + 2) j = s.2.2.1 22 j := fun j hj => by
    have e : (hw_cpO 4 (z + 2) (fun j => if j < 4 ∧ j < 4 then c.2.2.1 22 j else 0) c).2.2.1 (z + 2) = (fun j => if j < 4 ∧ j < 4 then c.2.2.1 22 j else 0) := if_pos rfl
    rw [e]
    show (if j < 4 ∧ j < 4 then c.2.2.1 22 j else 0) = _
    rw [if_pos ⟨hj, hj⟩, (r1 22 (by omega)).2.2.1]
  have j5 : (hw_cpO 4 (z + 2) (fun j => if j < 4 ∧ j < 4 then c.2.2.1 22 j else 0) c).2.2.2.2 = z + 3 := by
    show c.2.2.2.2 + 1 = _
    rw [q5]
  generalize hw_cpO 4 (z + 2) (fun j => if j < 4 ∧ j < 4 then c.2.2.1 22 j else 0) c = d at G1 j1 j2 j3 j4 j5 ⊢
  have dz := j1 z (by omega)
  have dz1 := j1 (z + 1) (by omega)
  rw [eP d _ _ (dz.1.trans q2), Option.bind_some]
  have G2 : hw_F (hw_wP z 5 (some (z + 2)) d) := hw_F_wP G1 (by omega)
  have k1 : ∀ y, y < z → hw_eq s (hw_wP z 5 (some (z + 2)) d) y := fun y h => eq_tr (eq_tr (r1 y h) (j1 y (by omega))) (eq_wP (by omega))
  have k2 : ∀ y, hw_eq d (hw_wP z 5 (some (z + 2)) d) y ∨ y = z := fun y => by
    by_cases h : y = z
    · exact Or.inr h
    · exact Or.inl (eq_wP h)
  have k5 : (hw_wP z 5 (some (z + 2)) d).2.2.2.1 z 5 = some (z + 2) := hw_wP_y
  have k7 : (hw_wP z 5 (some (z + 2)) d).2.2.2.1 z 7 = some (z + 1) := by rw [hw_wP_n (by omega), dz.2.2.2]; exact p7
  have kt : (hw_wP z 5 (some (z + 2)) d).1 z = tag := dz.1.trans q2
  have ki : ∀ j, (hw_wP z 5 (some (z + 2)) d).2.2.1 z j = c.2.2.1 z j := fun j => by rw [hw_wP_i, dz.2.2.1]
  have kz : (hw_wP z 5 (some (z + 2)) d).2.2.2.2 = z + 3 := j5
  have kt1 : (hw_wP z 5 (some (z + 2)) d).1 (z + 1) = 22 ∧ (hw_wP z 5 (some (z + 2)) d).2.1 (z + 1) = 100 := ⟨dz1.1.trans q3, dz1.2.1.trans q4⟩
  have kt2 : (hw_wP z 5 (some (z + 2)) d).1 (z + 2) = 21 ∧ (hw_wP z 5 (some (z + 2)) d).2.1 (z + 2) = 4 := ⟨j2, j3⟩
  have k22 : ∀ j, j < 4 → (hw_wP z 5 (some (z + 2)) d).2.2.1 (z + 2) j = s.2.2.1 22 j := j4
  generalize hw_wP z 5 (some (z + 2)) d = f at G2 k1 k5 k7 kt ki kz kt1 kt2 k22 ⊢
  have x4 : f.2.2.1 19 4 = nI kn := by rw [(k1 19 (by omega)).2.2.1]; exact h4
  have ed : m7J_copyOf (some 21) (nI kn) f = some (some f.2.2.2.2, hw_cpO kn f.2.2.2.2 (fun j => if j < kn ∧ j < 120 then f.2.2.1 21 j else 0) f) := cp_e (n := kn) (by decide) G2.2.2.2 (by rw [G2.1 21 (by decide)]; decide) (by rw [G2.2.1 21 (by decide)]; decide) (by decide) hk
  have H1 : hw_F (hw_cpO kn f.2.2.2.2 (fun j => if j < kn ∧ j < 120 then f.2.2.1 21 j else 0) f) := hw_F_cp G2
  rw [hw_P_19_3 G2, Option.bind_some, hw_G_19 G2, Option.bind_some, x4, ed, hw_b2s]
  rw [kz] at H1 ⊢
  have m1 : ∀ y, ¬ y = z + 3 → hw_eq f (hw_cpO kn (z + 3) (fun j => if j < kn ∧ j < 120 then f.2.2.1 21 j else 0) f) y := fun y h => eq_cp h
  have m2 : (hw_cpO kn (z + 3) (fun j => if j < kn ∧ j < 120 then f.2.2.1 21 j else 0) f).1 (z + 3) = 21 := if_pos rfl
  have m3 : (hw_cpO kn (z + 3) (fun j => if j < kn ∧ j < 120 then f.2.2.1 21 j else 0) f).2.1 (z + 3) = kn := if_pos rfl
  have m4 : ∀ j, j < kn → (hw_cpO kn (z + 3) (fun j => if j < kn ∧ j < 120 then f.2.2.1 21 j else 0) f).2.2.1 (z + 3) j = s.2.2.1 21 j := fun j hj => by
    have e : (hw_cpO kn (z + 3) (fun j => if j < kn ∧ j < 120 then f.2.2.1 21 j else 0) f).2.2.1 (z + 3) = (fun j => if j < kn ∧ j < 120 then f.2.2.1 21 j else 0) := if_pos rfl
    rw [e]
    show (if j < kn ∧ j < 120 then f.2.2.1 21 j else 0) = _
    rw [if_pos ⟨hj, by omega⟩, (k1 21 (by omega)).2.2.1]
  have m5 : (hw_cpO kn (z + 3) (fun j => if j < kn ∧ j < 120 then f.2.2.1 21 j else 0) f).2.2.2.2 = z + 4 := by
    show f.2.2.2.2 + 1 = _
    rw [kz]
  generalize hw_cpO kn (z + 3) (fun j => if j < kn ∧ j < 120 then f.2.2.1 21 j else 0) f = g at H1 m1 m2 m3 m4 m5 ⊢
  have gz := m1 z (by omega)
  have gz1 := m1 (z + 1) (by omega)
  have gz2 := m1 (z + 2) (by omega)
  rw [eP g _ _ (gz.1.trans kt), Option.bind_some]
  refine ⟨_, rfl, ⟨m5, fun y h => eq_tr (eq_tr (k1 y h) (m1 y (by omega))) (eq_wP (by omega)), ⟨gz.1.trans kt, gz1.1.trans kt1.1, gz1.2.1.trans kt1.2, gz2.1.trans kt2.1, gz2.2.1.trans kt2.2, m2, m3⟩, ⟨?_, ?_, ?_, ?_, ?_⟩, ⟨?_, hw_wP_y, ?_⟩, fun j hj => ?_, m4⟩, hw_F_wP H1 (by omega)⟩
  · rw [hw_wP_i, gz.2.2.1, ki]; exact i0
  · rw [hw_wP_i, gz.2.2.1, ki]; exact i1
  · rw [hw_wP_i, gz.2.2.1, ki]; exact i2
  · rw [hw_wP_i, gz.2.2.1, ki]; exact i3
  · rw [hw_wP_i, gz.2.2.1, ki]; exact i4
  · rw [hw_wP_n (by omega), gz.2.2.2]; exact k5
  · rw [hw_wP_n (by omega), gz.2.2.2]; exact k7
  · rw [hw_wP_i, gz2.2.2.1]; exact k22 j hj
