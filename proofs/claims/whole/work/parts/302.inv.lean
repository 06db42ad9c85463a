/-! the pure layer: what class and model have in common -/
/-- an instruction c of the class's code, and the model's step s -/
def hw_ins (s c : Int32) : Prop := (∃ t g n : Nat, t < 5 ∧ g < 3 ∧ n < 100 ∧ s = nI (t + 8 * g + 32 * n) ∧ c = nI (8 * t + 64 * g + 256 * n)) ∨ (s = iI (-1) ∧ c = nI 1) ∨ (s = iI (-2) ∧ c = nI 2) ∨ (s = iI (-3) ∧ c = nI 3) ∨ (∃ n : Nat, n < 100 ∧ s = iI (-10 - n) ∧ c = nI (4 + 256 * n)) ∨ (∃ n : Nat, n < 100 ∧ s = iI (-200 - n) ∧ c = nI (5 + 256 * n))
/-- how many truths wait behind the first j steps -/
def hw_ht (f : Nat → Int32) : Nat → Option Nat
  | 0 => some 0
  | j + 1 => (hw_ht f j).bind fun h => if 0 ≤ f j then (if h < 14 then some (h + 1) else none) else if f j = iI (-1) then (if 1 ≤ h then some h else none) else if f j = iI (-2) ∨ f j = iI (-3) then (if 2 ≤ h then some (h - 1) else none) else (if h = 1 then some 0 else none)
def hw_tg (k : Nat) : Nat := ([4, 8, 3, 2, 1, 7, 6] : List Nat).getD k 0
/-- the law object r stands for the i-th law of the row w -/
def hw_lw (σ : hw_S) (r : Option Nat) (i : Nat) (w : Nat → Int32) : Prop :=
  ∃ a af ac as k v n hp co : Nat, r = some a ∧ (55 ≤ a ∧ a < σ.2.2.2.2) ∧ (55 ≤ af ∧ af < σ.2.2.2.2) ∧ (55 ≤ ac ∧ ac < σ.2.2.2.2) ∧ (55 ≤ as ∧ as < σ.2.2.2.2) ∧ k ≤ 6 ∧ 1 ≤ v ∧ v ≤ 9 ∧ n ≤ 120 ∧ hp < 100 ∧ co < 100 ∧
    σ.1 a = hw_tg k ∧ w (140 + i) = nI k ∧ w (148 + i) = nI v ∧ w (156 + i) = nI hp ∧ w (164 + i) = nI co ∧ w (204 + i) = nI n ∧ σ.2.2.1 a 0 = nI k ∧ σ.2.2.1 a 1 = nI i ∧ σ.2.2.1 a 2 = nI v ∧ σ.2.2.1 a 3 = nI hp ∧ σ.2.2.1 a 4 = nI co ∧
    σ.2.2.2.1 a 5 = some af ∧ σ.2.2.2.1 a 6 = some ac ∧ σ.2.2.2.1 a 7 = some as ∧
    σ.1 af = 21 ∧ σ.2.1 af = 4 ∧ σ.1 ac = 21 ∧ σ.2.1 ac = n ∧ σ.1 as = 22 ∧ σ.2.1 as = 100 ∧
    (∀ j, j < 4 → w (172 + 4 * i + j) = σ.2.2.1 af j ∧ ∃ q : Nat, q < 100 ∧ σ.2.2.1 af j = nI q) ∧
    (∀ j, j < n → hw_ins (w (212 + 140 * i + j)) (σ.2.2.1 ac j)) ∧ hw_ht (fun j => w (212 + 140 * i + j)) n ≠ none ∧
    (∀ p, p < 100 → σ.2.2.1 as p = 0 → ∀ j, j < n → ∀ g q : Nat, g < 3 → q < 100 → w (212 + 140 * i + j) = nI (2 + 8 * g + 32 * q) → q ≠ p ∧ q + 1 ≠ p)
def hw_sf (σ : hw_S) (r : Option Nat) (x y : Int32) : Prop :=
  ∃ a p q : Nat, r = some a ∧ (55 ≤ a ∧ a < σ.2.2.2.2) ∧ σ.1 a = 10 ∧ (1 ≤ p ∧ p ≤ 20) ∧ (1 ≤ q ∧ q ≤ 20) ∧ σ.2.2.1 a 0 = nI p ∧ σ.2.2.1 a 1 = nI q ∧ x = nI p ∧ y = nI q
/-- the State object S of the class and the row w of the model -/
def hw_rel (σ : hw_S) (S : Nat) (w : Nat → Int32) (c0 c1 c2 c3 c4 c5 : Nat) : Prop :=
  (c0 ≤ 5 ∧ c1 ≤ 8 ∧ c2 ≤ 12 ∧ c3 ≤ 20 ∧ c4 ≤ 8 ∧ c5 ≤ 120) ∧
  (w 0 = nI c0 ∧ w 1 = nI c1 ∧ w 2 = nI c2 ∧ w 3 = nI c3 ∧ w 4 = nI c4 ∧ w 5 = nI c5) ∧
  (σ.2.2.1 S 1 = nI c0 ∧ σ.2.2.1 S 3 = nI c1 ∧ σ.2.2.1 S 13 = nI c2 ∧ σ.2.2.1 S 7 = nI c3 ∧ σ.2.2.1 S 9 = nI c4 ∧ σ.2.2.1 S 5 = nI c5) ∧
  (∀ i, i < c0 → hw_sf σ (σ.2.2.2.1 (S + 1) i) (w (130 + i)) (w (135 + i))) ∧
  (∀ i, i < c1 → hw_lw σ (σ.2.2.2.1 (S + 2) i) i w) ∧
  (∀ i, i < c5 → σ.2.2.1 (S + 3) i = w (10 + i) ∧ ∃ q : Nat, q < 256 ∧ w (10 + i) = nI q) ∧
  (∀ i, i < c3 → σ.2.2.1 (S + 4) i = w (1332 + i) ∧ hw_dok (w (1332 + i))) ∧
  (∀ i, i < c4 → σ.2.2.1 (S + 5) i = w (1352 + i) ∧ ∃ q : Nat, q ≤ 4 ∧ w (1352 + i) = nI q) ∧
  (∀ i, i < c2 → σ.2.2.1 (S + 6) i = w (1360 + i) ∧ σ.2.2.1 (S + 7) i = w (1372 + i) ∧ σ.2.2.1 (S + 8) i = w (1384 + i) ∧ (∃ q : Nat, q < c0 ∧ w (1360 + i) = nI q) ∧ hw_dok (w (1372 + i)) ∧ ∃ q : Nat, q ≤ 999 ∧ w (1384 + i) = nI q)
def hw_R0 (σ : hw_S) (S : Nat) (w : Nat → Int32) : Prop := ∃ c0 c1 c2 c3 c4 c5 : Nat, hw_rel σ S w c0 c1 c2 c3 c4 c5
/-- what stands in the rows of stuffs and laws of the State object S -/
def hw_pt (σ : hw_S) (S : Nat) : Prop := (∀ i, i < 5 → ∀ a, σ.2.2.2.1 (S + 1) i = some a → (55 ≤ a ∧ a < σ.2.2.2.2) ∧ σ.1 a = 10) ∧ (∀ i, i < 8 → ∀ a, σ.2.2.2.1 (S + 2) i = some a → (55 ≤ a ∧ a < σ.2.2.2.2) ∧ hw_qL (σ.1 a) = true)
/-- the bodies that ran -/
def hw_tr (σ : hw_S) : Prop := ∃ n : Nat, n ≤ 100 ∧ σ.2.2.1 23 1 = nI n ∧ σ.2.2.1 41 22 = nI n ∧ ∀ i, i < n → i < 20 → σ.2.2.1 24 i = σ.2.2.1 54 i
/-- the image -/
def hw_im (σ : hw_S) : Prop := (σ.2.2.1 0 2 = 0 ∧ σ.2.2.1 41 3 = 0) ∨ (σ.2.2.1 0 2 = 1 ∧ σ.2.2.1 41 3 = 1 ∧ hw_R0 σ 10 (σ.2.2.1 43))
def hw_Jv (σ : hw_S) : Prop := hw_F σ ∧ hw_pt σ 1 ∧ hw_pt σ 10 ∧ hw_R0 σ 1 (σ.2.2.1 42) ∧ hw_im σ ∧ hw_tr σ
