abbrev rm12_looksAhead : Room := { frames := 1, cells := 0, slots := 0, locals := 20 }
def m12_looksAhead_b228 (k40 : Nat → Int32 → Int32 → hw_S → Option hw_S) (k46 : Nat → Int32 → Int32 → Int32 → hw_S → Option hw_S) (x0 : Nat) (l1 : Int32) (l2 : Int32) (l3 : Int32) (t0 : Option Nat) (t1 : Int32) (t2 : Int32) (σ : hw_S) : Option hw_S :=
  (hw_sI t0 t1 t2 σ).bind fun σ228 =>
  k46 x0 l1 l2 (l3 + 1) σ228
set_option maxRecDepth 100000 in
theorem w12_looksAhead_b228 {p : Program} {l : Launch} {e : Env} {s : State} {m : MethodId} {args : Array Value} {below : List Frame} {meth : Method} {c : Code} {D : hw_D} {b : Nat} {k40 : Nat → Int32 → Int32 → hw_S → Option hw_S} {k46 : Nat → Int32 → Int32 → Int32 → hw_S → Option hw_S} {τ : hw_S} (C0 : hw_C p s m args meth c D yX12_looksAhead cX12_looksAhead 8 none) (hk40 : ∀ {x0 : Nat} {l1 : Int32} {l2 : Int32} {σ : hw_S} {H : Heap} {locs : List Loc} {ls : Array Slot}, k40 x0 l1 l2 σ = some τ → hw_R D b σ H → va_S (fun q => b ≤ q) s.heap H locs → hw_L ls 8 255 [(0, hw_vr b (some x0)), (1, .int l1), (2, .int l2)] → W p l e rm12_looksAhead s m args below meth c H locs 0 0 (MQ below (hw_QV D b τ) args s 0 0 (fun q => b ≤ q)) (F0 m 40 ls [])) (hk46 : ∀ {x0 : Nat} {l1 : Int32} {l2 : Int32} {l3 : Int32} {σ : hw_S} {H : Heap} {locs : List Loc} {ls : Array Slot}, k46 x0 l1 l2 l3 σ = some τ → hw_R D b σ H → va_S (fun q => b ≤ q) s.heap H locs → hw_L ls 8 255 [(0, hw_vr b (some x0)), (1, .int l1), (2, .int l2), (3, .int l3)] → W p l e rm12_looksAhead s m args below meth c H locs 0 0 (MQ below (hw_QV D b τ) args s 0 0 (fun q => b ≤ q)) (F0 m 46 ls [])) {x0 : Nat} {l1 : Int32} {l2 : Int32} {l3 : Int32} {t0 : Option Nat} {t1 : Int32} {t2 : Int32} {σ : hw_S} {H : Heap} {locs : List Loc} (hm : m12_looksAhead_b228 k40 k46 x0 l1 l2 l3 t0 t1 t2 σ = some τ) (hR : hw_R D b σ H) (hS : va_S (fun q => b ≤ q) s.heap H locs) {ls : Array Slot} (hl : hw_L ls 8 255 [(0, hw_vr b (some x0)), (1, .int l1), (2, .int l2), (3, .int l3)]) : W p l e rm12_looksAhead s m args below meth c H locs 0 0 (MQ below (hw_QV D b τ) args s 0 0 (fun q => b ≤ q)) (F0 m 228 ls [.int t2, .int t1, hw_vr b t0]) := by
  obtain ⟨hx, hb, hml, hr, hown, hts, hlk, hE, hnm⟩ := id C0
  have hown : s.vm.findClass RX12 = some m.cls := hown
  have hK := hE.1
  unfold m12_looksAhead_b228 at hm
  obtain ⟨σ228, e228, hm⟩ := hw_bs hm
  refine hw_iast hx hb hK hR hS e228 dX12_looksAhead_228 (fun _ _ hR hS => ?_)
  refine hw_iinc (v := (l3 + 1)) (lv' := [(3, .int (l3 + 1)), (0, hw_vr b (some x0)), (1, .int l1), (2, .int l2)]) hx hb dX12_looksAhead_229 hl (k := 3) rfl rfl (by decide) (by decide) rfl (fun ls hl => ?_)
  refine lv_goto (tgt := 46) hx hb dX12_looksAhead_232 (by decide) ?_
  exact hk46 hm hR hS (hl.sub [1, 2, 3, 0] rfl)
def m12_looksAhead_b185 (k40 : Nat → Int32 → Int32 → hw_S → Option hw_S) (k46 : Nat → Int32 → Int32 → Int32 → hw_S → Option hw_S) (k58 : Nat → Int32 → Int32 → Int32 → Int32 → Int32 → hw_S → Option hw_S) (x0 : Nat) (l1 : Int32) (l2 : Int32) (l3 : Int32) (l5 : Int32) (t0 : Int32) (σ : hw_S) : Option hw_S :=
  k58 x0 l1 l2 l3 t0 (l5 + 1) σ
set_option maxRecDepth 100000 in
theorem w12_looksAhead_b185 {p : Program} {l : Launch} {e : Env} {s : State} {m : MethodId} {args : Array Value} {below : List Frame} {meth : Method} {c : Code} {D : hw_D} {b : Nat} {k40 : Nat → Int32 → Int32 → hw_S → Option hw_S} {k46 : Nat → Int32 → Int32 → Int32 → hw_S → Option hw_S} {k58 : Nat → Int32 → Int32 → Int32 → Int32 → Int32 → hw_S → Option hw_S} {τ : hw_S} (C0 : hw_C p s m args meth c D yX12_looksAhead cX12_looksAhead 8 none) (hk40 : ∀ {x0 : Nat} {l1 : Int32} {l2 : Int32} {σ : hw_S} {H : Heap} {locs : List Loc} {ls : Array Slot}, k40 x0 l1 l2 σ = some τ → hw_R D b σ H → va_S (fun q => b ≤ q) s.heap H locs → hw_L ls 8 255 [(0, hw_vr b (some x0)), (1, .int l1), (2, .int l2)] → W p l e rm12_looksAhead s m args below meth c H locs 0 0 (MQ below (hw_QV D b τ) args s 0 0 (fun q => b ≤ q)) (F0 m 40 ls [])) (hk46 : ∀ {x0 : Nat} {l1 : Int32} {l2 : Int32} {l3 : Int32} {σ : hw_S} {H : Heap} {locs : List Loc} {ls : Array Slot}, k46 x0 l1 l2 l3 σ = some τ → hw_R D b σ H → va_S (fun q => b ≤ q) s.heap H locs → hw_L ls 8 255 [(0, hw_vr b (some x0)), (1, .int l1), (2, .int l2), (3, .int l3)] → W p l e rm12_looksAhead s m args below meth c H locs 0 0 (MQ below (hw_QV D b τ) args s 0 0 (fun q => b ≤ q)) (F0 m 46 ls [])) (hk58 : ∀ {x0 : Nat} {l1 : Int32} {l2 : Int32} {l3 : Int32} {l4 : Int32} {l5 : Int32} {σ : hw_S} {H : Heap} {locs : List Loc} {ls : Array Slot}, k58 x0 l1 l2 l3 l4 l5 σ = some τ → hw_R D b σ H → va_S (fun q => b ≤ q) s.heap H locs → hw_L ls 8 255 [(0, hw_vr b (some x0)), (1, .int l1), (2, .int l2), (3, .int l3), (4, .int l4), (5, .int l5)] → W p l e rm12_looksAhead s m args below meth c H locs 0 0 (MQ below (hw_QV D b τ) args s 0 0 (fun q => b ≤ q)) (F0 m 58 ls [])) {x0 : Nat} {l1 : Int32} {l2 : Int32} {l3 : Int32} {l5 : Int32} {t0 : Int32} {σ : hw_S} {H : Heap} {locs : List Loc} (hm : m12_looksAhead_b185 k40 k46 k58 x0 l1 l2 l3 l5 t0 σ = some τ) (hR : hw_R D b σ H) (hS : va_S (fun q => b ≤ q) s.heap H locs) {ls : Array Slot} (hl : hw_L ls 8 255 [(0, hw_vr b (some x0)), (1, .int l1), (2, .int l2), (3, .int l3), (5, .int l5)]) : W p l e rm12_looksAhead s m args below meth c H locs 0 0 (MQ below (hw_QV D b τ) args s 0 0 (fun q => b ≤ q)) (F0 m 185 ls [.int t0]) := by
  obtain ⟨hx, hb, hml, hr, hown, hts, hlk, hE, hnm⟩ := id C0
  have hown : s.vm.findClass RX12 = some m.cls := hown
  have hK := hE.1
  unfold m12_looksAhead_b185 at hm
  refine hw_istore (lv' := [(4, .int t0), (0, hw_vr b (some x0)), (1, .int l1), (2, .int l2), (3, .int l3), (5, .int l5)]) hx hb dX12_looksAhead_185 hl (by decide) (by decide) rfl (fun ls hl => ?_)
  refine hw_iinc (v := (l5 + 1)) (lv' := [(5, .int (l5 + 1)), (4, .int t0), (0, hw_vr b (some x0)), (1, .int l1), (2, .int l2), (3, .int l3)]) hx hb dX12_looksAhead_187 hl (k := 5) rfl rfl (by decide) (by decide) rfl (fun ls hl => ?_)
  refine lv_goto (tgt := 58) hx hb dX12_looksAhead_190 (by decide) ?_
  exact hk58 hm hR hS (hl.sub [2, 3, 4, 5, 1, 0] rfl)
def m12_looksAhead_b183 (k40 : Nat → Int32 → Int32 → hw_S → Option hw_S) (k46 : Nat → Int32 → Int32 → Int32 → hw_S → Option hw_S) (k58 : Nat → Int32 → Int32 → Int32 → Int32 → Int32 → hw_S → Option hw_S) (x0 : Nat) (l1 : Int32) (l2 : Int32) (l3 : Int32) (l4 : Int32) (l5 : Int32) (σ : hw_S) : Option hw_S :=
  m12_looksAhead_b185 k40 k46 k58 x0 l1 l2 l3 l5 l4 σ
set_option maxRecDepth 100000 in
theorem w12_looksAhead_b183 {p : Program} {l : Launch} {e : Env} {s : State} {m : MethodId} {args : Array Value} {below : List Frame} {meth : Method} {c : Code} {D : hw_D} {b : Nat} {k40 : Nat → Int32 → Int32 → hw_S → Option hw_S} {k46 : Nat → Int32 → Int32 → Int32 → hw_S → Option hw_S} {k58 : Nat → Int32 → Int32 → Int32 → Int32 → Int32 → hw_S → Option hw_S} {τ : hw_S} (C0 : hw_C p s m args meth c D yX12_looksAhead cX12_looksAhead 8 none) (hk40 : ∀ {x0 : Nat} {l1 : Int32} {l2 : Int32} {σ : hw_S} {H : Heap} {locs : List Loc} {ls : Array Slot}, k40 x0 l1 l2 σ = some τ → hw_R D b σ H → va_S (fun q => b ≤ q) s.heap H locs → hw_L ls 8 255 [(0, hw_vr b (some x0)), (1, .int l1), (2, .int l2)] → W p l e rm12_looksAhead s m args below meth c H locs 0 0 (MQ below (hw_QV D b τ) args s 0 0 (fun q => b ≤ q)) (F0 m 40 ls [])) (hk46 : ∀ {x0 : Nat} {l1 : Int32} {l2 : Int32} {l3 : Int32} {σ : hw_S} {H : Heap} {locs : List Loc} {ls : Array Slot}, k46 x0 l1 l2 l3 σ = some τ → hw_R D b σ H → va_S (fun q => b ≤ q) s.heap H locs → hw_L ls 8 255 [(0, hw_vr b (some x0)), (1, .int l1), (2, .int l2), (3, .int l3)] → W p l e rm12_looksAhead s m args below meth c H locs 0 0 (MQ below (hw_QV D b τ) args s 0 0 (fun q => b ≤ q)) (F0 m 46 ls [])) (hk58 : ∀ {x0 : Nat} {l1 : Int32} {l2 : Int32} {l3 : Int32} {l4 : Int32} {l5 : Int32} {σ : hw_S} {H : Heap} {locs : List Loc} {ls : Array Slot}, k58 x0 l1 l2 l3 l4 l5 σ = some τ → hw_R D b σ H → va_S (fun q => b ≤ q) s.heap H locs → hw_L ls 8 255 [(0, hw_vr b (some x0)), (1, .int l1), (2, .int l2), (3, .int l3), (4, .int l4), (5, .int l5)] → W p l e rm12_looksAhead s m args below meth c H locs 0 0 (MQ below (hw_QV D b τ) args s 0 0 (fun q => b ≤ q)) (F0 m 58 ls [])) {x0 : Nat} {l1 : Int32} {l2 : Int32} {l3 : Int32} {l4 : Int32} {l5 : Int32} {σ : hw_S} {H : Heap} {locs : List Loc} (hm : m12_looksAhead_b183 k40 k46 k58 x0 l1 l2 l3 l4 l5 σ = some τ) (hR : hw_R D b σ H) (hS : va_S (fun q => b ≤ q) s.heap H locs) {ls : Array Slot} (hl : hw_L ls 8 255 [(0, hw_vr b (some x0)), (1, .int l1), (2, .int l2), (3, .int l3), (4, .int l4), (5, .int l5)]) : W p l e rm12_looksAhead s m args below meth c H locs 0 0 (MQ below (hw_QV D b τ) args s 0 0 (fun q => b ≤ q)) (F0 m 183 ls []) := by
  obtain ⟨hx, hb, hml, hr, hown, hts, hlk, hE, hnm⟩ := id C0
  have hown : s.vm.findClass RX12 = some m.cls := hown
  have hK := hE.1
  unfold m12_looksAhead_b183 at hm
  refine lv_iload hx hb dX12_looksAhead_183 (hl.at 4 rfl) ?_
  exact w12_looksAhead_b185 C0 hk40 hk46 hk58 hm hR hS (hl.sub [0, 1, 2, 3, 5] rfl)
def m12_looksAhead_b178 (k40 : Nat → Int32 → Int32 → hw_S → Option hw_S) (k46 : Nat → Int32 → Int32 → Int32 → hw_S → Option hw_S) (k58 : Nat → Int32 → Int32 → Int32 → Int32 → Int32 → hw_S → Option hw_S) (x0 : Nat) (l1 : Int32) (l2 : Int32) (l3 : Int32) (l5 : Int32) (l7 : Int32) (σ : hw_S) : Option hw_S :=
  m12_looksAhead_b185 k40 k46 k58 x0 l1 l2 l3 l5 l7 σ
set_option maxRecDepth 100000 in
theorem w12_looksAhead_b178 {p : Program} {l : Launch} {e : Env} {s : State} {m : MethodId} {args : Array Value} {below : List Frame} {meth : Method} {c : Code} {D : hw_D} {b : Nat} {k40 : Nat → Int32 → Int32 → hw_S → Option hw_S} {k46 : Nat → Int32 → Int32 → Int32 → hw_S → Option hw_S} {k58 : Nat → Int32 → Int32 → Int32 → Int32 → Int32 → hw_S → Option hw_S} {τ : hw_S} (C0 : hw_C p s m args meth c D yX12_looksAhead cX12_looksAhead 8 none) (hk40 : ∀ {x0 : Nat} {l1 : Int32} {l2 : Int32} {σ : hw_S} {H : Heap} {locs : List Loc} {ls : Array Slot}, k40 x0 l1 l2 σ = some τ → hw_R D b σ H → va_S (fun q => b ≤ q) s.heap H locs → hw_L ls 8 255 [(0, hw_vr b (some x0)), (1, .int l1), (2, .int l2)] → W p l e rm12_looksAhead s m args below meth c H locs 0 0 (MQ below (hw_QV D b τ) args s 0 0 (fun q => b ≤ q)) (F0 m 40 ls [])) (hk46 : ∀ {x0 : Nat} {l1 : Int32} {l2 : Int32} {l3 : Int32} {σ : hw_S} {H : Heap} {locs : List Loc} {ls : Array Slot}, k46 x0 l1 l2 l3 σ = some τ → hw_R D b σ H → va_S (fun q => b ≤ q) s.heap H locs → hw_L ls 8 255 [(0, hw_vr b (some x0)), (1, .int l1), (2, .int l2), (3, .int l3)] → W p l e rm12_looksAhead s m args below meth c H locs 0 0 (MQ below (hw_QV D b τ) args s 0 0 (fun q => b ≤ q)) (F0 m 46 ls [])) (hk58 : ∀ {x0 : Nat} {l1 : Int32} {l2 : Int32} {l3 : Int32} {l4 : Int32} {l5 : Int32} {σ : hw_S} {H : Heap} {locs : List Loc} {ls : Array Slot}, k58 x0 l1 l2 l3 l4 l5 σ = some τ → hw_R D b σ H → va_S (fun q => b ≤ q) s.heap H locs → hw_L ls 8 255 [(0, hw_vr b (some x0)), (1, .int l1), (2, .int l2), (3, .int l3), (4, .int l4), (5, .int l5)] → W p l e rm12_looksAhead s m args below meth c H locs 0 0 (MQ below (hw_QV D b τ) args s 0 0 (fun q => b ≤ q)) (F0 m 58 ls [])) {x0 : Nat} {l1 : Int32} {l2 : Int32} {l3 : Int32} {l5 : Int32} {l7 : Int32} {σ : hw_S} {H : Heap} {locs : List Loc} (hm : m12_looksAhead_b178 k40 k46 k58 x0 l1 l2 l3 l5 l7 σ = some τ) (hR : hw_R D b σ H) (hS : va_S (fun q => b ≤ q) s.heap H locs) {ls : Array Slot} (hl : hw_L ls 8 255 [(0, hw_vr b (some x0)), (1, .int l1), (2, .int l2), (3, .int l3), (5, .int l5), (7, .int l7)]) : W p l e rm12_looksAhead s m args below meth c H locs 0 0 (MQ below (hw_QV D b τ) args s 0 0 (fun q => b ≤ q)) (F0 m 178 ls []) := by
  obtain ⟨hx, hb, hml, hr, hown, hts, hlk, hE, hnm⟩ := id C0
  have hown : s.vm.findClass RX12 = some m.cls := hown
  have hK := hE.1
  unfold m12_looksAhead_b178 at hm
  refine lv_iload hx hb dX12_looksAhead_178 (hl.at 5 rfl) ?_
  refine lv_goto (tgt := 185) hx hb dX12_looksAhead_180 (by decide) ?_
  exact w12_looksAhead_b185 C0 hk40 hk46 hk58 hm hR hS (hl.sub [0, 1, 2, 3, 4] rfl)
def m12_looksAhead_b158 (k40 : Nat → Int32 → Int32 → hw_S → Option hw_S) (k46 : Nat → Int32 → Int32 → Int32 → hw_S → Option hw_S) (k58 : Nat → Int32 → Int32 → Int32 → Int32 → Int32 → hw_S → Option hw_S) (x0 : Nat) (l1 : Int32) (l2 : Int32) (l3 : Int32) (l4 : Int32) (l5 : Int32) (l6 : Int32) (t0 : Int32) (σ : hw_S) : Option hw_S :=
  (if l6 = 0 then
  m12_looksAhead_b183 k40 k46 k58 x0 l1 l2 l3 l4 l5 σ
  else
  (if l4 = ((-1) : Int32) then
  m12_looksAhead_b178 k40 k46 k58 x0 l1 l2 l3 l5 t0 σ
  else
  (if l4 ≤ t0 then
  m12_looksAhead_b183 k40 k46 k58 x0 l1 l2 l3 l4 l5 σ
  else
  m12_looksAhead_b178 k40 k46 k58 x0 l1 l2 l3 l5 t0 σ)))
set_option maxRecDepth 100000 in
theorem w12_looksAhead_b158 {p : Program} {l : Launch} {e : Env} {s : State} {m : MethodId} {args : Array Value} {below : List Frame} {meth : Method} {c : Code} {D : hw_D} {b : Nat} {k40 : Nat → Int32 → Int32 → hw_S → Option hw_S} {k46 : Nat → Int32 → Int32 → Int32 → hw_S → Option hw_S} {k58 : Nat → Int32 → Int32 → Int32 → Int32 → Int32 → hw_S → Option hw_S} {τ : hw_S} (C0 : hw_C p s m args meth c D yX12_looksAhead cX12_looksAhead 8 none) (hk40 : ∀ {x0 : Nat} {l1 : Int32} {l2 : Int32} {σ : hw_S} {H : Heap} {locs : List Loc} {ls : Array Slot}, k40 x0 l1 l2 σ = some τ → hw_R D b σ H → va_S (fun q => b ≤ q) s.heap H locs → hw_L ls 8 255 [(0, hw_vr b (some x0)), (1, .int l1), (2, .int l2)] → W p l e rm12_looksAhead s m args below meth c H locs 0 0 (MQ below (hw_QV D b τ) args s 0 0 (fun q => b ≤ q)) (F0 m 40 ls [])) (hk46 : ∀ {x0 : Nat} {l1 : Int32} {l2 : Int32} {l3 : Int32} {σ : hw_S} {H : Heap} {locs : List Loc} {ls : Array Slot}, k46 x0 l1 l2 l3 σ = some τ → hw_R D b σ H → va_S (fun q => b ≤ q) s.heap H locs → hw_L ls 8 255 [(0, hw_vr b (some x0)), (1, .int l1), (2, .int l2), (3, .int l3)] → W p l e rm12_looksAhead s m args below meth c H locs 0 0 (MQ below (hw_QV D b τ) args s 0 0 (fun q => b ≤ q)) (F0 m 46 ls [])) (hk58 : ∀ {x0 : Nat} {l1 : Int32} {l2 : Int32} {l3 : Int32} {l4 : Int32} {l5 : Int32} {σ : hw_S} {H : Heap} {locs : List Loc} {ls : Array Slot}, k58 x0 l1 l2 l3 l4 l5 σ = some τ → hw_R D b σ H → va_S (fun q => b ≤ q) s.heap H locs → hw_L ls 8 255 [(0, hw_vr b (some x0)), (1, .int l1), (2, .int l2), (3, .int l3), (4, .int l4), (5, .int l5)] → W p l e rm12_looksAhead s m args below meth c H locs 0 0 (MQ below (hw_QV D b τ) args s 0 0 (fun q => b ≤ q)) (F0 m 58 ls [])) {x0 : Nat} {l1 : Int32} {l2 : Int32} {l3 : Int32} {l4 : Int32} {l5 : Int32} {l6 : Int32} {t0 : Int32} {σ : hw_S} {H : Heap} {locs : List Loc} (hm : m12_looksAhead_b158 k40 k46 k58 x0 l1 l2 l3 l4 l5 l6 t0 σ = some τ) (hR : hw_R D b σ H) (hS : va_S (fun q => b ≤ q) s.heap H locs) {ls : Array Slot} (hl : hw_L ls 8 255 [(0, hw_vr b (some x0)), (1, .int l1), (2, .int l2), (3, .int l3), (4, .int l4), (5, .int l5), (6, .int l6)]) : W p l e rm12_looksAhead s m args below meth c H locs 0 0 (MQ below (hw_QV D b τ) args s 0 0 (fun q => b ≤ q)) (F0 m 158 ls [.int t0]) := by
  obtain ⟨hx, hb, hml, hr, hown, hts, hlk, hE, hnm⟩ := id C0
  have hown : s.vm.findClass RX12 = some m.cls := hown
  have hK := hE.1
  unfold m12_looksAhead_b158 at hm
  refine hw_istore (lv' := [(7, .int t0), (0, hw_vr b (some x0)), (1, .int l1), (2, .int l2), (3, .int l3), (4, .int l4), (5, .int l5), (6, .int l6)]) hx hb dX12_looksAhead_158 hl (by decide) (by decide) rfl (fun ls hl => ?_)
  refine lv_iload hx hb dX12_looksAhead_160 (hl.at 7 rfl) ?_
  refine lv_if_eq (tgt := 183) hx hb dX12_looksAhead_162 (by decide) (fun c162 => ?_) (fun c162 => ?_)
  · have hm := hw_ip hm c162
    exact w12_looksAhead_b183 C0 hk40 hk46 hk58 hm hR hS (hl.sub [1, 2, 3, 4, 5, 6] rfl)
  · have hm := hw_in hm c162
    refine lv_iload hx hb dX12_looksAhead_165 (hl.at 5 rfl) ?_
    refine lv_iconst (v := (-1)) hx hb dX12_looksAhead_167 (by decide) ?_
    refine lv_icmp_eq (tgt := 178) hx hb dX12_looksAhead_168 (by decide) (fun c168 => ?_) (fun c168 => ?_)
    · have hm := hw_ip hm c168
      exact w12_looksAhead_b178 C0 hk40 hk46 hk58 hm hR hS (hl.sub [1, 2, 3, 4, 6, 0] rfl)
    · have hm := hw_in hm c168
      refine lv_iload hx hb dX12_looksAhead_171 (hl.at 0 rfl) ?_
      refine lv_iload hx hb dX12_looksAhead_173 (hl.at 5 rfl) ?_
      refine lv_icmp_ge (tgt := 183) hx hb dX12_looksAhead_175 (by decide) (fun c175 => ?_) (fun c175 => ?_)
      · have hm := hw_ip hm c175
        exact w12_looksAhead_b183 C0 hk40 hk46 hk58 hm hR hS (hl.sub [1, 2, 3, 4, 5, 6] rfl)
      · have hm := hw_in hm c175
        exact w12_looksAhead_b178 C0 hk40 hk46 hk58 hm hR hS (hl.sub [1, 2, 3, 4, 6, 0] rfl)
def m12_looksAhead_b125 (k40 : Nat → Int32 → Int32 → hw_S → Option hw_S) (k46 : Nat → Int32 → Int32 → Int32 → hw_S → Option hw_S) (k58 : Nat → Int32 → Int32 → Int32 → Int32 → Int32 → hw_S → Option hw_S) (x0 : Nat) (l1 : Int32) (l2 : Int32) (l3 : Int32) (l4 : Int32) (l5 : Int32) (t0 : Int32) (σ : hw_S) : Option hw_S :=
  (if t0 = 0 then
  m12_looksAhead_b158 k40 k46 k58 x0 l1 l2 l3 l4 l5 t0 ((-1) : Int32) σ
  else
  (m12_size (l3 - l5)).bind fun v136 =>
  (hw_gP (hw_q 12) 19 (some x0) σ).bind fun v140 =>
  (hw_aI 0 v140 (((100 : Int32) * (l2 + (1 : Int32))) + l5) σ).bind fun v152 =>
  m12_looksAhead_b158 k40 k46 k58 x0 l1 l2 l3 l4 l5 t0 (v136 + v152) σ)
set_option maxRecDepth 100000 in
theorem w12_looksAhead_b125 {p : Program} {l : Launch} {e : Env} {s : State} {m : MethodId} {args : Array Value} {below : List Frame} {meth : Method} {c : Code} {D : hw_D} {b : Nat} {k40 : Nat → Int32 → Int32 → hw_S → Option hw_S} {k46 : Nat → Int32 → Int32 → Int32 → hw_S → Option hw_S} {k58 : Nat → Int32 → Int32 → Int32 → Int32 → Int32 → hw_S → Option hw_S} {τ : hw_S} (C0 : hw_C p s m args meth c D yX12_looksAhead cX12_looksAhead 8 none) (hk40 : ∀ {x0 : Nat} {l1 : Int32} {l2 : Int32} {σ : hw_S} {H : Heap} {locs : List Loc} {ls : Array Slot}, k40 x0 l1 l2 σ = some τ → hw_R D b σ H → va_S (fun q => b ≤ q) s.heap H locs → hw_L ls 8 255 [(0, hw_vr b (some x0)), (1, .int l1), (2, .int l2)] → W p l e rm12_looksAhead s m args below meth c H locs 0 0 (MQ below (hw_QV D b τ) args s 0 0 (fun q => b ≤ q)) (F0 m 40 ls [])) (hk46 : ∀ {x0 : Nat} {l1 : Int32} {l2 : Int32} {l3 : Int32} {σ : hw_S} {H : Heap} {locs : List Loc} {ls : Array Slot}, k46 x0 l1 l2 l3 σ = some τ → hw_R D b σ H → va_S (fun q => b ≤ q) s.heap H locs → hw_L ls 8 255 [(0, hw_vr b (some x0)), (1, .int l1), (2, .int l2), (3, .int l3)] → W p l e rm12_looksAhead s m args below meth c H locs 0 0 (MQ below (hw_QV D b τ) args s 0 0 (fun q => b ≤ q)) (F0 m 46 ls [])) (hk58 : ∀ {x0 : Nat} {l1 : Int32} {l2 : Int32} {l3 : Int32} {l4 : Int32} {l5 : Int32} {σ : hw_S} {H : Heap} {locs : List Loc} {ls : Array Slot}, k58 x0 l1 l2 l3 l4 l5 σ = some τ → hw_R D b σ H → va_S (fun q => b ≤ q) s.heap H locs → hw_L ls 8 255 [(0, hw_vr b (some x0)), (1, .int l1), (2, .int l2), (3, .int l3), (4, .int l4), (5, .int l5)] → W p l e rm12_looksAhead s m args below meth c H locs 0 0 (MQ below (hw_QV D b τ) args s 0 0 (fun q => b ≤ q)) (F0 m 58 ls [])) {x0 : Nat} {l1 : Int32} {l2 : Int32} {l3 : Int32} {l4 : Int32} {l5 : Int32} {t0 : Int32} {σ : hw_S} {H : Heap} {locs : List Loc} (hm : m12_looksAhead_b125 k40 k46 k58 x0 l1 l2 l3 l4 l5 t0 σ = some τ) (hR : hw_R D b σ H) (hS : va_S (fun q => b ≤ q) s.heap H locs) {ls : Array Slot} (hl : hw_L ls 8 255 [(0, hw_vr b (some x0)), (1, .int l1), (2, .int l2), (3, .int l3), (4, .int l4), (5, .int l5)]) : W p l e rm12_looksAhead s m args below meth c H locs 0 0 (MQ below (hw_QV D b τ) args s 0 0 (fun q => b ≤ q)) (F0 m 125 ls [.int t0]) := by
  obtain ⟨hx, hb, hml, hr, hown, hts, hlk, hE, hnm⟩ := id C0
  have hown : s.vm.findClass RX12 = some m.cls := hown
  have hK := hE.1
  unfold m12_looksAhead_b125 at hm
  refine hw_istore (lv' := [(6, .int t0), (0, hw_vr b (some x0)), (1, .int l1), (2, .int l2), (3, .int l3), (4, .int l4), (5, .int l5)]) hx hb dX12_looksAhead_125 hl (by decide) (by decide) rfl (fun ls hl => ?_)
  refine lv_iload hx hb dX12_looksAhead_127 (hl.at 0 rfl) ?_
  refine lv_if_eq (tgt := 157) hx hb dX12_looksAhead_129 (by decide) (fun c129 => ?_) (fun c129 => ?_)
  · have hm := hw_ip hm c129
    refine lv_iconst (v := (-1)) hx hb dX12_looksAhead_157 (by decide) ?_
    exact w12_looksAhead_b158 C0 hk40 hk46 hk58 hm hR hS (hl.sub [1, 2, 3, 4, 5, 6, 0] rfl)
  · have hm := hw_in hm c129
    refine lv_iload_n hx hb dX12_looksAhead_132 rfl (hl.at 4 rfl) ?_
    refine lv_iload hx hb dX12_looksAhead_133 (hl.at 6 rfl) ?_
    refine lv_isub hx hb dX12_looksAhead_135 ?_
    obtain ⟨v136, e136, hm⟩ := hw_bs hm
    refine hw_cRI (va_runS (As := [.int (l3 - l5)]) (rest := []) ⟨hx, hb, hml, hown, hts⟩ (c12_size l D e136) (cwS 1 hts (hw_gS hw_m717 hw_m718 hw_m5 hw_m719) rfl rfl rfl (by decide +kernel) ⟨(Nat.le_of_ble_eq_true rfl), (Nat.le_of_ble_eq_true rfl)⟩) (hw_pre0 hE) rfl rfl hl.sz rfl (lv_room (Nat.le_of_ble_eq_true rfl)) dX12_looksAhead_136 ⟨(Nat.le_of_ble_eq_true rfl), (Nat.le_of_ble_eq_true rfl)⟩) ?_
    refine hw_aload_n hx hb dX12_looksAhead_139 rfl (hl.at 1 rfl) ?_
    obtain ⟨v140, e140, hm⟩ := hw_bs hm
    refine hw_getP hx hb hw_cf12 hts hown hK hR e140 (by decide) rfl (hts _ hw_m87) (fun _ h9 => h9) dX12_looksAhead_140 ?_
    refine lv_bipush (v := 100) hx hb dX12_looksAhead_143 (by decide) ?_
    refine lv_iload_n hx hb dX12_looksAhead_145 rfl (hl.at 3 rfl) ?_
    refine lv_iconst (v := 1) hx hb dX12_looksAhead_146 (by decide) ?_
    refine lv_iadd hx hb dX12_looksAhead_147 ?_
    refine lv_imul hx hb dX12_looksAhead_148 ?_
    refine lv_iload hx hb dX12_looksAhead_149 (hl.at 6 rfl) ?_
    refine lv_iadd hx hb dX12_looksAhead_151 ?_
    obtain ⟨v152, e152, hm⟩ := hw_bs hm
    refine hw_iald hx hb hK hR e152 dX12_looksAhead_152 ?_
    refine lv_iadd hx hb dX12_looksAhead_153 ?_
    refine lv_goto (tgt := 158) hx hb dX12_looksAhead_154 (by decide) ?_
    exact w12_looksAhead_b158 C0 hk40 hk46 hk58 hm hR hS (hl.sub [1, 2, 3, 4, 5, 6, 0] rfl)
def m12_looksAhead_b124 (k40 : Nat → Int32 → Int32 → hw_S → Option hw_S) (k46 : Nat → Int32 → Int32 → Int32 → hw_S → Option hw_S) (k58 : Nat → Int32 → Int32 → Int32 → Int32 → Int32 → hw_S → Option hw_S) (x0 : Nat) (l1 : Int32) (l2 : Int32) (l3 : Int32) (l4 : Int32) (l5 : Int32) (σ : hw_S) : Option hw_S :=
  m12_looksAhead_b125 k40 k46 k58 x0 l1 l2 l3 l4 l5 (0 : Int32) σ
set_option maxRecDepth 100000 in
theorem w12_looksAhead_b124 {p : Program} {l : Launch} {e : Env} {s : State} {m : MethodId} {args : Array Value} {below : List Frame} {meth : Method} {c : Code} {D : hw_D} {b : Nat} {k40 : Nat → Int32 → Int32 → hw_S → Option hw_S} {k46 : Nat → Int32 → Int32 → Int32 → hw_S → Option hw_S} {k58 : Nat → Int32 → Int32 → Int32 → Int32 → Int32 → hw_S → Option hw_S} {τ : hw_S} (C0 : hw_C p s m args meth c D yX12_looksAhead cX12_looksAhead 8 none) (hk40 : ∀ {x0 : Nat} {l1 : Int32} {l2 : Int32} {σ : hw_S} {H : Heap} {locs : List Loc} {ls : Array Slot}, k40 x0 l1 l2 σ = some τ → hw_R D b σ H → va_S (fun q => b ≤ q) s.heap H locs → hw_L ls 8 255 [(0, hw_vr b (some x0)), (1, .int l1), (2, .int l2)] → W p l e rm12_looksAhead s m args below meth c H locs 0 0 (MQ below (hw_QV D b τ) args s 0 0 (fun q => b ≤ q)) (F0 m 40 ls [])) (hk46 : ∀ {x0 : Nat} {l1 : Int32} {l2 : Int32} {l3 : Int32} {σ : hw_S} {H : Heap} {locs : List Loc} {ls : Array Slot}, k46 x0 l1 l2 l3 σ = some τ → hw_R D b σ H → va_S (fun q => b ≤ q) s.heap H locs → hw_L ls 8 255 [(0, hw_vr b (some x0)), (1, .int l1), (2, .int l2), (3, .int l3)] → W p l e rm12_looksAhead s m args below meth c H locs 0 0 (MQ below (hw_QV D b τ) args s 0 0 (fun q => b ≤ q)) (F0 m 46 ls [])) (hk58 : ∀ {x0 : Nat} {l1 : Int32} {l2 : Int32} {l3 : Int32} {l4 : Int32} {l5 : Int32} {σ : hw_S} {H : Heap} {locs : List Loc} {ls : Array Slot}, k58 x0 l1 l2 l3 l4 l5 σ = some τ → hw_R D b σ H → va_S (fun q => b ≤ q) s.heap H locs → hw_L ls 8 255 [(0, hw_vr b (some x0)), (1, .int l1), (2, .int l2), (3, .int l3), (4, .int l4), (5, .int l5)] → W p l e rm12_looksAhead s m args below meth c H locs 0 0 (MQ below (hw_QV D b τ) args s 0 0 (fun q => b ≤ q)) (F0 m 58 ls [])) {x0 : Nat} {l1 : Int32} {l2 : Int32} {l3 : Int32} {l4 : Int32} {l5 : Int32} {σ : hw_S} {H : Heap} {locs : List Loc} (hm : m12_looksAhead_b124 k40 k46 k58 x0 l1 l2 l3 l4 l5 σ = some τ) (hR : hw_R D b σ H) (hS : va_S (fun q => b ≤ q) s.heap H locs) {ls : Array Slot} (hl : hw_L ls 8 255 [(0, hw_vr b (some x0)), (1, .int l1), (2, .int l2), (3, .int l3), (4, .int l4), (5, .int l5)]) : W p l e rm12_looksAhead s m args below meth c H locs 0 0 (MQ below (hw_QV D b τ) args s 0 0 (fun q => b ≤ q)) (F0 m 124 ls []) := by
  obtain ⟨hx, hb, hml, hr, hown, hts, hlk, hE, hnm⟩ := id C0
  have hown : s.vm.findClass RX12 = some m.cls := hown
  have hK := hE.1
  unfold m12_looksAhead_b124 at hm
  refine lv_iconst (v := 0) hx hb dX12_looksAhead_124 (by decide) ?_
  exact w12_looksAhead_b125 C0 hk40 hk46 hk58 hm hR hS (hl.sub [0, 1, 2, 3, 4, 5] rfl)
def m12_looksAhead_b58 (k40 : Nat → Int32 → Int32 → hw_S → Option hw_S) (k46 : Nat → Int32 → Int32 → Int32 → hw_S → Option hw_S) : Nat → Nat → Int32 → Int32 → Int32 → Int32 → Int32 → hw_S → Option hw_S
  | 0, _, _, _, _, _, _, _ => none
  | n + 1, x0, l1, l2, l3, l4, l5, σ =>
  (if (100 : Int32) ≤ l5 then
  (hw_gP (hw_q 12) 19 (some x0) σ).bind fun v194 =>
  (hw_gP (hw_q 12) 18 (some x0) σ).bind fun v204 =>
  (hw_aI 0 v204 l3 σ).bind fun v208 =>
  (hw_gP (hw_q 12) 1 (some x0) σ).bind fun v210 =>
  (hw_aI 0 v210 ((1352 : Int32) + l2) σ).bind fun v218 =>
  (if v208 = v218 then
  m12_looksAhead_b228 k40 k46 x0 l1 l2 l3 v194 (((100 : Int32) * l2) + l3) l4 σ
  else
  m12_looksAhead_b228 k40 k46 x0 l1 l2 l3 v194 (((100 : Int32) * l2) + l3) ((-1) : Int32) σ)
  else
  (hw_gP (hw_q 12) 1 (some x0) σ).bind fun v69 =>
  (hw_aI 0 v69 (4 : Int32) σ).bind fun v73 =>
  (if (l2 + (1 : Int32)) = v73 then
  (if l5 = l3 then
  m12_looksAhead_b125 k40 k46 (m12_looksAhead_b58 k40 k46 n) x0 l1 l2 l3 l4 l5 (1 : Int32) σ
  else
  m12_looksAhead_b125 k40 k46 (m12_looksAhead_b58 k40 k46 n) x0 l1 l2 l3 l4 l5 (0 : Int32) σ)
  else
  (m12_size (l3 - l5)).bind fun v95 =>
  (if l1 < v95 then
  m12_looksAhead_b124 k40 k46 (m12_looksAhead_b58 k40 k46 n) x0 l1 l2 l3 l4 l5 σ
  else
  (hw_gP (hw_q 12) 19 (some x0) σ).bind fun v103 =>
  (hw_aI 0 v103 (((100 : Int32) * (l2 + (1 : Int32))) + l5) σ).bind fun v115 =>
  (if v115 = ((-1) : Int32) then
  m12_looksAhead_b124 k40 k46 (m12_looksAhead_b58 k40 k46 n) x0 l1 l2 l3 l4 l5 σ
  else
  m12_looksAhead_b125 k40 k46 (m12_looksAhead_b58 k40 k46 n) x0 l1 l2 l3 l4 l5 (1 : Int32) σ))))
set_option maxRecDepth 100000 in
theorem w12_looksAhead_b58 {p : Program} {l : Launch} {e : Env} {s : State} {m : MethodId} {args : Array Value} {below : List Frame} {meth : Method} {c : Code} {D : hw_D} {b : Nat} {k40 : Nat → Int32 → Int32 → hw_S → Option hw_S} {k46 : Nat → Int32 → Int32 → Int32 → hw_S → Option hw_S} {τ : hw_S} (C0 : hw_C p s m args meth c D yX12_looksAhead cX12_looksAhead 8 none) (hk40 : ∀ {x0 : Nat} {l1 : Int32} {l2 : Int32} {σ : hw_S} {H : Heap} {locs : List Loc} {ls : Array Slot}, k40 x0 l1 l2 σ = some τ → hw_R D b σ H → va_S (fun q => b ≤ q) s.heap H locs → hw_L ls 8 255 [(0, hw_vr b (some x0)), (1, .int l1), (2, .int l2)] → W p l e rm12_looksAhead s m args below meth c H locs 0 0 (MQ below (hw_QV D b τ) args s 0 0 (fun q => b ≤ q)) (F0 m 40 ls [])) (hk46 : ∀ {x0 : Nat} {l1 : Int32} {l2 : Int32} {l3 : Int32} {σ : hw_S} {H : Heap} {locs : List Loc} {ls : Array Slot}, k46 x0 l1 l2 l3 σ = some τ → hw_R D b σ H → va_S (fun q => b ≤ q) s.heap H locs → hw_L ls 8 255 [(0, hw_vr b (some x0)), (1, .int l1), (2, .int l2), (3, .int l3)] → W p l e rm12_looksAhead s m args below meth c H locs 0 0 (MQ below (hw_QV D b τ) args s 0 0 (fun q => b ≤ q)) (F0 m 46 ls [])) : ∀ (n : Nat) {x0 : Nat} {l1 : Int32} {l2 : Int32} {l3 : Int32} {l4 : Int32} {l5 : Int32} {σ : hw_S} {H : Heap} {locs : List Loc} {ls : Array Slot}, m12_looksAhead_b58 k40 k46 n x0 l1 l2 l3 l4 l5 σ = some τ → hw_R D b σ H → va_S (fun q => b ≤ q) s.heap H locs → hw_L ls 8 255 [(0, hw_vr b (some x0)), (1, .int l1), (2, .int l2), (3, .int l3), (4, .int l4), (5, .int l5)] → W p l e rm12_looksAhead s m args below meth c H locs 0 0 (MQ below (hw_QV D b τ) args s 0 0 (fun q => b ≤ q)) (F0 m 58 ls []) := by
  obtain ⟨hx, hb, hml, hr, hown, hts, hlk, hE, hnm⟩ := id C0
  have hown : s.vm.findClass RX12 = some m.cls := hown
  have hK := hE.1
  intro n
  induction n with
  | zero => intro _ _ _ _ _ _ _ _ _ _ hm; cases hm
  | succ n ih =>
    intro x0 l1 l2 l3 l4 l5 σ H locs ls hm hR hS hl
    rw [m12_looksAhead_b58] at hm
    refine lv_iload hx hb dX12_looksAhead_58 (hl.at 5 rfl) ?_
    refine lv_bipush (v := 100) hx hb dX12_looksAhead_60 (by decide) ?_
    refine lv_icmp_ge (tgt := 193) hx hb dX12_looksAhead_62 (by decide) (fun c62 => ?_) (fun c62 => ?_)
    · have hm := hw_ip hm c62
      refine hw_aload_n hx hb dX12_looksAhead_193 rfl (hl.at 0 rfl) ?_
      obtain ⟨v194, e194, hm⟩ := hw_bs hm
      refine hw_getP hx hb hw_cf12 hts hown hK hR e194 (by decide) rfl (hts _ hw_m87) (fun _ h9 => h9) dX12_looksAhead_194 ?_
      refine lv_bipush (v := 100) hx hb dX12_looksAhead_197 (by decide) ?_
      refine lv_iload_n hx hb dX12_looksAhead_199 rfl (hl.at 2 rfl) ?_
      refine lv_imul hx hb dX12_looksAhead_200 ?_
      refine lv_iload_n hx hb dX12_looksAhead_201 rfl (hl.at 3 rfl) ?_
      refine lv_iadd hx hb dX12_looksAhead_202 ?_
      refine hw_aload_n hx hb dX12_looksAhead_203 rfl (hl.at 0 rfl) ?_
      obtain ⟨v204, e204, hm⟩ := hw_bs hm
      refine hw_getP hx hb hw_cf12 hts hown hK hR e204 (by decide) rfl (hts _ hw_m86) (fun _ h9 => h9) dX12_looksAhead_204 ?_
      refine lv_iload_n hx hb dX12_looksAhead_207 rfl (hl.at 3 rfl) ?_
      obtain ⟨v208, e208, hm⟩ := hw_bs hm
      refine hw_iald hx hb hK hR e208 dX12_looksAhead_208 ?_
      refine hw_aload_n hx hb dX12_looksAhead_209 rfl (hl.at 0 rfl) ?_
      obtain ⟨v210, e210, hm⟩ := hw_bs hm
      refine hw_getP hx hb hw_cf12 hts hown hK hR e210 (by decide) rfl (hts _ hw_m76) (fun _ h9 => h9) dX12_looksAhead_210 ?_
      refine lv_sipush (v := 1352) hx hb dX12_looksAhead_213 (by decide) ?_
      refine lv_iload_n hx hb dX12_looksAhead_216 rfl (hl.at 2 rfl) ?_
      refine lv_iadd hx hb dX12_looksAhead_217 ?_
      obtain ⟨v218, e218, hm⟩ := hw_bs hm
      refine hw_iald hx hb hK hR e218 dX12_looksAhead_218 ?_
      refine lv_icmp_ne (tgt := 227) hx hb dX12_looksAhead_219 (by decide) (fun c219 => ?_) (fun c219 => ?_)
      · have hm := hw_in hm c219
        refine lv_iconst (v := (-1)) hx hb dX12_looksAhead_227 (by decide) ?_
        exact w12_looksAhead_b228 C0 hk40 hk46 hm hR hS (hl.sub [0, 1, 2, 3] rfl)
      · have hm := hw_ip hm c219
        refine lv_iload hx hb dX12_looksAhead_222 (hl.at 4 rfl) ?_
        refine lv_goto (tgt := 228) hx hb dX12_looksAhead_224 (by decide) ?_
        exact w12_looksAhead_b228 C0 hk40 hk46 hm hR hS (hl.sub [0, 1, 2, 3] rfl)
    · have hm := hw_in hm c62
      refine lv_iload_n hx hb dX12_looksAhead_65 rfl (hl.at 2 rfl) ?_
      refine lv_iconst (v := 1) hx hb dX12_looksAhead_66 (by decide) ?_
      refine lv_iadd hx hb dX12_looksAhead_67 ?_
      refine hw_aload_n hx hb dX12_looksAhead_68 rfl (hl.at 0 rfl) ?_
      obtain ⟨v69, e69, hm⟩ := hw_bs hm
      refine hw_getP hx hb hw_cf12 hts hown hK hR e69 (by decide) rfl (hts _ hw_m76) (fun _ h9 => h9) dX12_looksAhead_69 ?_
      refine lv_iconst (v := 4) hx hb dX12_looksAhead_72 (by decide) ?_
      obtain ⟨v73, e73, hm⟩ := hw_bs hm
      refine hw_iald hx hb hK hR e73 dX12_looksAhead_73 ?_
      refine lv_icmp_ne (tgt := 91) hx hb dX12_looksAhead_74 (by decide) (fun c74 => ?_) (fun c74 => ?_)
      · have hm := hw_in hm c74
        refine lv_iload_n hx hb dX12_looksAhead_91 rfl (hl.at 3 rfl) ?_
        refine lv_iload hx hb dX12_looksAhead_92 (hl.at 5 rfl) ?_
        refine lv_isub hx hb dX12_looksAhead_94 ?_
        obtain ⟨v95, e95, hm⟩ := hw_bs hm
        refine hw_cRI (va_runS (As := [.int (l3 - l5)]) (rest := []) ⟨hx, hb, hml, hown, hts⟩ (c12_size l D e95) (cwS 1 hts (hw_gS hw_m717 hw_m718 hw_m5 hw_m719) rfl rfl rfl (by decide +kernel) ⟨(Nat.le_of_ble_eq_true rfl), (Nat.le_of_ble_eq_true rfl)⟩) (hw_pre0 hE) rfl rfl hl.sz rfl (lv_room (Nat.le_of_ble_eq_true rfl)) dX12_looksAhead_95 ⟨(Nat.le_of_ble_eq_true rfl), (Nat.le_of_ble_eq_true rfl)⟩) ?_
        refine lv_iload_n hx hb dX12_looksAhead_98 rfl (hl.at 1 rfl) ?_
        refine lv_icmp_gt (tgt := 124) hx hb dX12_looksAhead_99 (by decide) (fun c99 => ?_) (fun c99 => ?_)
        · have hm := hw_ip hm c99
          exact w12_looksAhead_b124 C0 hk40 hk46 ih hm hR hS (hl.sub [0, 1, 2, 3, 4, 5] rfl)
        · have hm := hw_in hm c99
          refine hw_aload_n hx hb dX12_looksAhead_102 rfl (hl.at 0 rfl) ?_
          obtain ⟨v103, e103, hm⟩ := hw_bs hm
          refine hw_getP hx hb hw_cf12 hts hown hK hR e103 (by decide) rfl (hts _ hw_m87) (fun _ h9 => h9) dX12_looksAhead_103 ?_
          refine lv_bipush (v := 100) hx hb dX12_looksAhead_106 (by decide) ?_
          refine lv_iload_n hx hb dX12_looksAhead_108 rfl (hl.at 2 rfl) ?_
          refine lv_iconst (v := 1) hx hb dX12_looksAhead_109 (by decide) ?_
          refine lv_iadd hx hb dX12_looksAhead_110 ?_
          refine lv_imul hx hb dX12_looksAhead_111 ?_
          refine lv_iload hx hb dX12_looksAhead_112 (hl.at 5 rfl) ?_
          refine lv_iadd hx hb dX12_looksAhead_114 ?_
          obtain ⟨v115, e115, hm⟩ := hw_bs hm
          refine hw_iald hx hb hK hR e115 dX12_looksAhead_115 ?_
          refine lv_iconst (v := (-1)) hx hb dX12_looksAhead_116 (by decide) ?_
          refine lv_icmp_eq (tgt := 124) hx hb dX12_looksAhead_117 (by decide) (fun c117 => ?_) (fun c117 => ?_)
          · have hm := hw_ip hm c117
            exact w12_looksAhead_b124 C0 hk40 hk46 ih hm hR hS (hl.sub [0, 1, 2, 3, 4, 5] rfl)
          · have hm := hw_in hm c117
            refine lv_iconst (v := 1) hx hb dX12_looksAhead_120 (by decide) ?_
            refine lv_goto (tgt := 125) hx hb dX12_looksAhead_121 (by decide) ?_
            exact w12_looksAhead_b125 C0 hk40 hk46 ih hm hR hS (hl.sub [0, 1, 2, 3, 4, 5] rfl)
      · have hm := hw_ip hm c74
        refine lv_iload hx hb dX12_looksAhead_77 (hl.at 5 rfl) ?_
        refine lv_iload_n hx hb dX12_looksAhead_79 rfl (hl.at 3 rfl) ?_
        refine lv_icmp_ne (tgt := 87) hx hb dX12_looksAhead_80 (by decide) (fun c80 => ?_) (fun c80 => ?_)
        · have hm := hw_in hm c80
          refine lv_iconst (v := 0) hx hb dX12_looksAhead_87 (by decide) ?_
          refine lv_goto (tgt := 125) hx hb dX12_looksAhead_88 (by decide) ?_
          exact w12_looksAhead_b125 C0 hk40 hk46 ih hm hR hS (hl.sub [0, 1, 2, 3, 4, 5] rfl)
        · have hm := hw_ip hm c80
          refine lv_iconst (v := 1) hx hb dX12_looksAhead_83 (by decide) ?_
          refine lv_goto (tgt := 125) hx hb dX12_looksAhead_84 (by decide) ?_
          exact w12_looksAhead_b125 C0 hk40 hk46 ih hm hR hS (hl.sub [0, 1, 2, 3, 4, 5] rfl)
def m12_looksAhead_b46 (k40 : Nat → Int32 → Int32 → hw_S → Option hw_S) : Nat → Nat → Int32 → Int32 → Int32 → hw_S → Option hw_S
  | 0, _, _, _, _, _ => none
  | n + 1, x0, l1, l2, l3, σ =>
  (if (100 : Int32) ≤ l3 then
  k40 x0 l1 (l2 + (-1)) σ
  else
  m12_looksAhead_b58 k40 (m12_looksAhead_b46 k40 n) hw_fu x0 l1 l2 l3 ((-1) : Int32) (0 : Int32) σ)
set_option maxRecDepth 100000 in
theorem w12_looksAhead_b46 {p : Program} {l : Launch} {e : Env} {s : State} {m : MethodId} {args : Array Value} {below : List Frame} {meth : Method} {c : Code} {D : hw_D} {b : Nat} {k40 : Nat → Int32 → Int32 → hw_S → Option hw_S} {τ : hw_S} (C0 : hw_C p s m args meth c D yX12_looksAhead cX12_looksAhead 8 none) (hk40 : ∀ {x0 : Nat} {l1 : Int32} {l2 : Int32} {σ : hw_S} {H : Heap} {locs : List Loc} {ls : Array Slot}, k40 x0 l1 l2 σ = some τ → hw_R D b σ H → va_S (fun q => b ≤ q) s.heap H locs → hw_L ls 8 255 [(0, hw_vr b (some x0)), (1, .int l1), (2, .int l2)] → W p l e rm12_looksAhead s m args below meth c H locs 0 0 (MQ below (hw_QV D b τ) args s 0 0 (fun q => b ≤ q)) (F0 m 40 ls [])) : ∀ (n : Nat) {x0 : Nat} {l1 : Int32} {l2 : Int32} {l3 : Int32} {σ : hw_S} {H : Heap} {locs : List Loc} {ls : Array Slot}, m12_looksAhead_b46 k40 n x0 l1 l2 l3 σ = some τ → hw_R D b σ H → va_S (fun q => b ≤ q) s.heap H locs → hw_L ls 8 255 [(0, hw_vr b (some x0)), (1, .int l1), (2, .int l2), (3, .int l3)] → W p l e rm12_looksAhead s m args below meth c H locs 0 0 (MQ below (hw_QV D b τ) args s 0 0 (fun q => b ≤ q)) (F0 m 46 ls []) := by
  obtain ⟨hx, hb, hml, hr, hown, hts, hlk, hE, hnm⟩ := id C0
  have hown : s.vm.findClass RX12 = some m.cls := hown
  have hK := hE.1
  intro n
  induction n with
  | zero => intro _ _ _ _ _ _ _ _ hm; cases hm
  | succ n ih =>
    intro x0 l1 l2 l3 σ H locs ls hm hR hS hl
    rw [m12_looksAhead_b46] at hm
    refine lv_iload_n hx hb dX12_looksAhead_46 rfl (hl.at 3 rfl) ?_
    refine lv_bipush (v := 100) hx hb dX12_looksAhead_47 (by decide) ?_
    refine lv_icmp_ge (tgt := 235) hx hb dX12_looksAhead_49 (by decide) (fun c49 => ?_) (fun c49 => ?_)
    · have hm := hw_ip hm c49
      refine hw_iinc (v := (l2 + (-1))) (lv' := [(2, .int (l2 + (-1))), (0, hw_vr b (some x0)), (1, .int l1), (3, .int l3)]) hx hb dX12_looksAhead_235 hl (k := 2) rfl rfl (by decide) (by decide) rfl (fun ls hl => ?_)
      refine lv_goto (tgt := 40) hx hb dX12_looksAhead_238 (by decide) ?_
      exact hk40 hm hR hS (hl.sub [1, 2, 0] rfl)
    · have hm := hw_in hm c49
      refine lv_iconst (v := (-1)) hx hb dX12_looksAhead_52 (by decide) ?_
      refine hw_istore (lv' := [(4, .int ((-1) : Int32)), (0, hw_vr b (some x0)), (1, .int l1), (2, .int l2), (3, .int l3)]) hx hb dX12_looksAhead_53 hl (by decide) (by decide) rfl (fun ls hl => ?_)
      refine lv_iconst (v := 0) hx hb dX12_looksAhead_55 (by decide) ?_
      refine hw_istore (lv' := [(5, .int (0 : Int32)), (4, .int ((-1) : Int32)), (0, hw_vr b (some x0)), (1, .int l1), (2, .int l2), (3, .int l3)]) hx hb dX12_looksAhead_56 hl (by decide) (by decide) rfl (fun ls hl => ?_)
      exact w12_looksAhead_b58 C0 hk40 ih hw_fu hm hR hS (hl.sub [2, 3, 4, 5, 1, 0] rfl)
def m12_looksAhead_b40 : Nat → Nat → Int32 → Int32 → hw_S → Option hw_S
  | 0, _, _, _, _ => none
  | n + 1, x0, l1, l2, σ =>
  (if l2 < 0 then
  some σ
  else
  m12_looksAhead_b46 (m12_looksAhead_b40 n) hw_fu x0 l1 l2 (0 : Int32) σ)
set_option maxRecDepth 100000 in
theorem w12_looksAhead_b40 {p : Program} {l : Launch} {e : Env} {s : State} {m : MethodId} {args : Array Value} {below : List Frame} {meth : Method} {c : Code} {D : hw_D} {b : Nat} {τ : hw_S} (C0 : hw_C p s m args meth c D yX12_looksAhead cX12_looksAhead 8 none) : ∀ (n : Nat) {x0 : Nat} {l1 : Int32} {l2 : Int32} {σ : hw_S} {H : Heap} {locs : List Loc} {ls : Array Slot}, m12_looksAhead_b40 n x0 l1 l2 σ = some τ → hw_R D b σ H → va_S (fun q => b ≤ q) s.heap H locs → hw_L ls 8 255 [(0, hw_vr b (some x0)), (1, .int l1), (2, .int l2)] → W p l e rm12_looksAhead s m args below meth c H locs 0 0 (MQ below (hw_QV D b τ) args s 0 0 (fun q => b ≤ q)) (F0 m 40 ls []) := by
  obtain ⟨hx, hb, hml, hr, hown, hts, hlk, hE, hnm⟩ := id C0
  have hown : s.vm.findClass RX12 = some m.cls := hown
  have hK := hE.1
  intro n
  induction n with
  | zero => intro _ _ _ _ _ _ _ hm; cases hm
  | succ n ih =>
    intro x0 l1 l2 σ H locs ls hm hR hS hl
    rw [m12_looksAhead_b40] at hm
    refine lv_iload_n hx hb dX12_looksAhead_40 rfl (hl.at 2 rfl) ?_
    refine lv_if_lt (tgt := 241) hx hb dX12_looksAhead_41 (by decide) (fun c41 => ?_) (fun c41 => ?_)
    · have hm := hw_ip hm c41
      exact hw_rWV hx hb hr hlk hR hS hm dX12_looksAhead_241
    · have hm := hw_in hm c41
      refine lv_iconst (v := 0) hx hb dX12_looksAhead_44 (by decide) ?_
      refine hw_istore_n (lv' := [(3, .int (0 : Int32)), (0, hw_vr b (some x0)), (1, .int l1), (2, .int l2)]) hx hb dX12_looksAhead_45 rfl hl (by decide) (by decide) rfl (fun ls hl => ?_)
      exact w12_looksAhead_b46 C0 ih hw_fu hm hR hS (hl.sub [1, 2, 3, 0] rfl)
def m12_looksAhead_b2 : Nat → Nat → Int32 → Int32 → hw_S → Option hw_S
  | 0, _, _, _, _ => none
  | n + 1, x0, l1, l2, σ =>
  (if (100 : Int32) ≤ l2 then
  (hw_gP (hw_q 12) 1 (some x0) σ).bind fun v32 =>
  (hw_aI 0 v32 (4 : Int32) σ).bind fun v36 =>
  m12_looksAhead_b40 hw_fu x0 l1 (v36 - (1 : Int32)) σ
  else
  (hw_gP (hw_q 12) 19 (some x0) σ).bind fun v9 =>
  (hw_gP (hw_q 12) 1 (some x0) σ).bind fun v15 =>
  (hw_aI 0 v15 (4 : Int32) σ).bind fun v19 =>
  (hw_sI v9 (((100 : Int32) * v19) + l2) (0 : Int32) σ).bind fun σ24 =>
  m12_looksAhead_b2 n x0 l1 (l2 + 1) σ24)
set_option maxRecDepth 100000 in
theorem w12_looksAhead_b2 {p : Program} {l : Launch} {e : Env} {s : State} {m : MethodId} {args : Array Value} {below : List Frame} {meth : Method} {c : Code} {D : hw_D} {b : Nat} {τ : hw_S} (C0 : hw_C p s m args meth c D yX12_looksAhead cX12_looksAhead 8 none) : ∀ (n : Nat) {x0 : Nat} {l1 : Int32} {l2 : Int32} {σ : hw_S} {H : Heap} {locs : List Loc} {ls : Array Slot}, m12_looksAhead_b2 n x0 l1 l2 σ = some τ → hw_R D b σ H → va_S (fun q => b ≤ q) s.heap H locs → hw_L ls 8 255 [(0, hw_vr b (some x0)), (1, .int l1), (2, .int l2)] → W p l e rm12_looksAhead s m args below meth c H locs 0 0 (MQ below (hw_QV D b τ) args s 0 0 (fun q => b ≤ q)) (F0 m 2 ls []) := by
  obtain ⟨hx, hb, hml, hr, hown, hts, hlk, hE, hnm⟩ := id C0
  have hown : s.vm.findClass RX12 = some m.cls := hown
  have hK := hE.1
  intro n
  induction n with
  | zero => intro _ _ _ _ _ _ _ hm; cases hm
  | succ n ih =>
    intro x0 l1 l2 σ H locs ls hm hR hS hl
    rw [m12_looksAhead_b2] at hm
    refine lv_iload_n hx hb dX12_looksAhead_2 rfl (hl.at 2 rfl) ?_
    refine lv_bipush (v := 100) hx hb dX12_looksAhead_3 (by decide) ?_
    refine lv_icmp_ge (tgt := 31) hx hb dX12_looksAhead_5 (by decide) (fun c5 => ?_) (fun c5 => ?_)
    · have hm := hw_ip hm c5
      refine hw_aload_n hx hb dX12_looksAhead_31 rfl (hl.at 0 rfl) ?_
      obtain ⟨v32, e32, hm⟩ := hw_bs hm
      refine hw_getP hx hb hw_cf12 hts hown hK hR e32 (by decide) rfl (hts _ hw_m76) (fun _ h9 => h9) dX12_looksAhead_32 ?_
      refine lv_iconst (v := 4) hx hb dX12_looksAhead_35 (by decide) ?_
      obtain ⟨v36, e36, hm⟩ := hw_bs hm
      refine hw_iald hx hb hK hR e36 dX12_looksAhead_36 ?_
      refine lv_iconst (v := 1) hx hb dX12_looksAhead_37 (by decide) ?_
      refine lv_isub hx hb dX12_looksAhead_38 ?_
      refine hw_istore_n (lv' := [(2, .int (v36 - (1 : Int32))), (0, hw_vr b (some x0)), (1, .int l1)]) hx hb dX12_looksAhead_39 rfl hl (by decide) (by decide) rfl (fun ls hl => ?_)
      exact w12_looksAhead_b40 C0 hw_fu hm hR hS (hl.sub [1, 2, 0] rfl)
    · have hm := hw_in hm c5
      refine hw_aload_n hx hb dX12_looksAhead_8 rfl (hl.at 0 rfl) ?_
      obtain ⟨v9, e9, hm⟩ := hw_bs hm
      refine hw_getP hx hb hw_cf12 hts hown hK hR e9 (by decide) rfl (hts _ hw_m87) (fun _ h9 => h9) dX12_looksAhead_9 ?_
      refine lv_bipush (v := 100) hx hb dX12_looksAhead_12 (by decide) ?_
      refine hw_aload_n hx hb dX12_looksAhead_14 rfl (hl.at 0 rfl) ?_
      obtain ⟨v15, e15, hm⟩ := hw_bs hm
      refine hw_getP hx hb hw_cf12 hts hown hK hR e15 (by decide) rfl (hts _ hw_m76) (fun _ h9 => h9) dX12_looksAhead_15 ?_
      refine lv_iconst (v := 4) hx hb dX12_looksAhead_18 (by decide) ?_
      obtain ⟨v19, e19, hm⟩ := hw_bs hm
      refine hw_iald hx hb hK hR e19 dX12_looksAhead_19 ?_
      refine lv_imul hx hb dX12_looksAhead_20 ?_
      refine lv_iload_n hx hb dX12_looksAhead_21 rfl (hl.at 2 rfl) ?_
      refine lv_iadd hx hb dX12_looksAhead_22 ?_
      refine lv_iconst (v := 0) hx hb dX12_looksAhead_23 (by decide) ?_
      obtain ⟨σ24, e24, hm⟩ := hw_bs hm
      refine hw_iast hx hb hK hR hS e24 dX12_looksAhead_24 (fun _ _ hR hS => ?_)
      refine hw_iinc (v := (l2 + 1)) (lv' := [(2, .int (l2 + 1)), (0, hw_vr b (some x0)), (1, .int l1)]) hx hb dX12_looksAhead_25 hl (k := 2) rfl rfl (by decide) (by decide) rfl (fun ls hl => ?_)
      refine lv_goto (tgt := 2) hx hb dX12_looksAhead_28 (by decide) ?_
      exact ih hm hR hS (hl.sub [1, 2, 0] rfl)
def m12_looksAhead (x0 : Nat) (l1 : Int32) (σ : hw_S) : Option hw_S :=
  m12_looksAhead_b2 hw_fu x0 l1 (0 : Int32) σ
set_option maxRecDepth 100000 in
theorem w12_looksAhead_s {p : Program} {l : Launch} {e : Env} {s : State} {m : MethodId} {args : Array Value} {below : List Frame} {meth : Method} {c : Code} {D : hw_D} {b : Nat} {x0 : Nat} {l1 : Int32} {σ : hw_S} {τ : hw_S} {H : Heap} {locs : List Loc} (hm : m12_looksAhead x0 l1 σ = some τ) (C0 : hw_C p s m args meth c D yX12_looksAhead cX12_looksAhead 8 none) (hR : hw_R D b σ H) (hS : va_S (fun q => b ≤ q) s.heap H locs) {ls : Array Slot} (hl : hw_L ls 8 255 [(0, hw_vr b (some x0)), (1, .int l1)]) : W p l e rm12_looksAhead s m args below meth c H locs 0 0 (MQ below (hw_QV D b τ) args s 0 0 (fun q => b ≤ q)) (F0 m 0 ls []) := by
  obtain ⟨hx, hb, hml, hr, hown, hts, hlk, hE, hnm⟩ := id C0
  have hown : s.vm.findClass RX12 = some m.cls := hown
  have hK := hE.1
  unfold m12_looksAhead at hm
  refine lv_iconst (v := 0) hx hb dX12_looksAhead_0 (by decide) ?_
  refine hw_istore_n (lv' := [(2, .int (0 : Int32)), (0, hw_vr b (some x0)), (1, .int l1)]) hx hb dX12_looksAhead_1 rfl hl (by decide) (by decide) rfl (fun ls hl => ?_)
  exact w12_looksAhead_b2 C0 hw_fu hm hR hS (hl.sub [1, 2, 0] rfl)
set_option maxRecDepth 100000 in
theorem c12_looksAhead (l : Launch) (D : hw_D) (b : Nat) {x0 : Nat} {l1 : Int32} {σ : hw_S} {τ : hw_S} (hm : m12_looksAhead x0 l1 σ = some τ) : Met l yX12_looksAhead (Cond.code yX12_looksAhead cX12_looksAhead 8 none :: wsL_law) rm12_looksAhead (hw_P1 D b σ [hw_vr b (some x0), .int l1]) (hw_QV D b τ) 0 0 (fun q => b ≤ q) := by
  refine hw_start1 (by decide +kernel) (by exact Nat.le_of_ble_eq_true rfl) ?_
  intro p e s m below meth c ls C0 hR hS hl
  have hl : lv_has ls 8 [(0, hw_vr b (some x0)), (1, .int l1)] := by exact hl
  exact w12_looksAhead_s hm C0 hR hS ⟨hl, (List.forall_mem_cons.mpr ⟨(fun h => by rw [show (hw_vr b (some x0) : Value).category = 1 from (hw_vr_cat _ _)] at h; cases h), (List.forall_mem_cons.mpr ⟨(fun h => absurd (show (1 : Nat) = 2 from h) (by decide)), (fun _ h => absurd h List.not_mem_nil)⟩)⟩)⟩

abbrev rm12_found : Room := { frames := 5, cells := 0, slots := 0, locals := 135 }
def m12_found_b33 (x0 : Nat) (σ : hw_S) : Option (Int32 × hw_S) :=
  some (((-1) : Int32), σ)
set_option maxRecDepth 100000 in
theorem w12_found_b33 {p : Program} {l : Launch} {e : Env} {s : State} {m : MethodId} {args : Array Value} {below : List Frame} {meth : Method} {c : Code} {D : hw_D} {b : Nat} {r : Int32} {τ : hw_S} (C0 : hw_C p s m args meth c D yX12_found cX12_found 10 (some .int)) {x0 : Nat} {σ : hw_S} {H : Heap} {locs : List Loc} (hm : m12_found_b33 x0 σ = some (r, τ)) (hR : hw_R D b σ H) (hS : va_S (fun q => b ≤ q) s.heap H locs) {ls : Array Slot} (hl : hw_L ls 10 255 [(0, hw_vr b (some x0))]) : W p l e rm12_found s m args below meth c H locs 0 0 (MQ below (hw_QI D b τ r) args s 0 0 (fun q => b ≤ q)) (F0 m 33 ls []) := by
  obtain ⟨hx, hb, hml, hr, hown, hts, hlk, hE, hnm⟩ := id C0
  have hown : s.vm.findClass RX12 = some m.cls := hown
  have hK := hE.1
  unfold m12_found_b33 at hm
  refine lv_iconst (v := (-1)) hx hb dX12_found_33 (by decide) ?_
  exact hw_rWI hx hb hr hlk hR hS hm dX12_found_34
def m12_found_b53 (x0 : Nat) (σ : hw_S) : Option (Int32 × hw_S) :=
  some (((-2) : Int32), σ)
set_option maxRecDepth 100000 in
theorem w12_found_b53 {p : Program} {l : Launch} {e : Env} {s : State} {m : MethodId} {args : Array Value} {below : List Frame} {meth : Method} {c : Code} {D : hw_D} {b : Nat} {r : Int32} {τ : hw_S} (C0 : hw_C p s m args meth c D yX12_found cX12_found 10 (some .int)) {x0 : Nat} {σ : hw_S} {H : Heap} {locs : List Loc} (hm : m12_found_b53 x0 σ = some (r, τ)) (hR : hw_R D b σ H) (hS : va_S (fun q => b ≤ q) s.heap H locs) {ls : Array Slot} (hl : hw_L ls 10 255 [(0, hw_vr b (some x0))]) : W p l e rm12_found s m args below meth c H locs 0 0 (MQ below (hw_QI D b τ r) args s 0 0 (fun q => b ≤ q)) (F0 m 53 ls []) := by
  obtain ⟨hx, hb, hml, hr, hown, hts, hlk, hE, hnm⟩ := id C0
  have hown : s.vm.findClass RX12 = some m.cls := hown
  have hK := hE.1
  unfold m12_found_b53 at hm
  refine lv_bipush (v := (-2)) hx hb dX12_found_53 (by decide) ?_
  exact hw_rWI hx hb hr hlk hR hS hm dX12_found_55
def m12_found_b330 (x0 : Nat) (t0 : Int32) (σ : hw_S) : Option (Int32 × hw_S) :=
  some (t0, σ)
set_option maxRecDepth 100000 in
theorem w12_found_b330 {p : Program} {l : Launch} {e : Env} {s : State} {m : MethodId} {args : Array Value} {below : List Frame} {meth : Method} {c : Code} {D : hw_D} {b : Nat} {r : Int32} {τ : hw_S} (C0 : hw_C p s m args meth c D yX12_found cX12_found 10 (some .int)) {x0 : Nat} {t0 : Int32} {σ : hw_S} {H : Heap} {locs : List Loc} (hm : m12_found_b330 x0 t0 σ = some (r, τ)) (hR : hw_R D b σ H) (hS : va_S (fun q => b ≤ q) s.heap H locs) {ls : Array Slot} (hl : hw_L ls 10 255 [(0, hw_vr b (some x0))]) : W p l e rm12_found s m args below meth c H locs 0 0 (MQ below (hw_QI D b τ r) args s 0 0 (fun q => b ≤ q)) (F0 m 330 ls [.int t0]) := by
  obtain ⟨hx, hb, hml, hr, hown, hts, hlk, hE, hnm⟩ := id C0
  have hown : s.vm.findClass RX12 = some m.cls := hown
  have hK := hE.1
  unfold m12_found_b330 at hm
  exact hw_rWI hx hb hr hlk hR hS hm dX12_found_330
def m12_found_b276 (k177 : Nat → Int32 → Int32 → Int32 → Int32 → Int32 → hw_S → Option (Int32 × hw_S)) (k191 : Nat → Int32 → Int32 → Int32 → Int32 → Int32 → Int32 → hw_S → Option (Int32 × hw_S)) (x0 : Nat) (l4 : Int32) (l5 : Int32) (l6 : Int32) (l7 : Int32) (l8 : Int32) (l9 : Int32) (σ : hw_S) : Option (Int32 × hw_S) :=
  k191 x0 l4 l5 l6 l7 l8 (l9 + 1) σ
set_option maxRecDepth 100000 in
theorem w12_found_b276 {p : Program} {l : Launch} {e : Env} {s : State} {m : MethodId} {args : Array Value} {below : List Frame} {meth : Method} {c : Code} {D : hw_D} {b : Nat} {k177 : Nat → Int32 → Int32 → Int32 → Int32 → Int32 → hw_S → Option (Int32 × hw_S)} {k191 : Nat → Int32 → Int32 → Int32 → Int32 → Int32 → Int32 → hw_S → Option (Int32 × hw_S)} {r : Int32} {τ : hw_S} (C0 : hw_C p s m args meth c D yX12_found cX12_found 10 (some .int)) (hk177 : ∀ {x0 : Nat} {l4 : Int32} {l5 : Int32} {l6 : Int32} {l7 : Int32} {l8 : Int32} {σ : hw_S} {H : Heap} {locs : List Loc} {ls : Array Slot}, k177 x0 l4 l5 l6 l7 l8 σ = some (r, τ) → hw_R D b σ H → va_S (fun q => b ≤ q) s.heap H locs → hw_L ls 10 255 [(0, hw_vr b (some x0)), (4, .int l4), (5, .int l5), (6, .int l6), (7, .int l7), (8, .int l8)] → W p l e rm12_found s m args below meth c H locs 0 0 (MQ below (hw_QI D b τ r) args s 0 0 (fun q => b ≤ q)) (F0 m 177 ls [])) (hk191 : ∀ {x0 : Nat} {l4 : Int32} {l5 : Int32} {l6 : Int32} {l7 : Int32} {l8 : Int32} {l9 : Int32} {σ : hw_S} {H : Heap} {locs : List Loc} {ls : Array Slot}, k191 x0 l4 l5 l6 l7 l8 l9 σ = some (r, τ) → hw_R D b σ H → va_S (fun q => b ≤ q) s.heap H locs → hw_L ls 10 255 [(0, hw_vr b (some x0)), (4, .int l4), (5, .int l5), (6, .int l6), (7, .int l7), (8, .int l8), (9, .int l9)] → W p l e rm12_found s m args below meth c H locs 0 0 (MQ below (hw_QI D b τ r) args s 0 0 (fun q => b ≤ q)) (F0 m 191 ls [])) {x0 : Nat} {l4 : Int32} {l5 : Int32} {l6 : Int32} {l7 : Int32} {l8 : Int32} {l9 : Int32} {σ : hw_S} {H : Heap} {locs : List Loc} (hm : m12_found_b276 k177 k191 x0 l4 l5 l6 l7 l8 l9 σ = some (r, τ)) (hR : hw_R D b σ H) (hS : va_S (fun q => b ≤ q) s.heap H locs) {ls : Array Slot} (hl : hw_L ls 10 255 [(0, hw_vr b (some x0)), (4, .int l4), (5, .int l5), (6, .int l6), (7, .int l7), (8, .int l8), (9, .int l9)]) : W p l e rm12_found s m args below meth c H locs 0 0 (MQ below (hw_QI D b τ r) args s 0 0 (fun q => b ≤ q)) (F0 m 276 ls []) := by
  obtain ⟨hx, hb, hml, hr, hown, hts, hlk, hE, hnm⟩ := id C0
  have hown : s.vm.findClass RX12 = some m.cls := hown
  have hK := hE.1
  unfold m12_found_b276 at hm
  refine hw_iinc (v := (l9 + 1)) (lv' := [(9, .int (l9 + 1)), (0, hw_vr b (some x0)), (4, .int l4), (5, .int l5), (6, .int l6), (7, .int l7), (8, .int l8)]) hx hb dX12_found_276 hl (k := 6) rfl rfl (by decide) (by decide) rfl (fun ls hl => ?_)
  refine lv_goto (tgt := 191) hx hb dX12_found_279 (by decide) ?_
  exact hk191 hm hR hS (hl.sub [1, 2, 3, 4, 5, 6, 0] rfl)
def m12_found_b270 (k177 : Nat → Int32 → Int32 → Int32 → Int32 → Int32 → hw_S → Option (Int32 × hw_S)) (k191 : Nat → Int32 → Int32 → Int32 → Int32 → Int32 → Int32 → hw_S → Option (Int32 × hw_S)) (x0 : Nat) (l4 : Int32) (l5 : Int32) (l6 : Int32) (l7 : Int32) (l8 : Int32) (l9 : Int32) (t0 : Int32) (t1 : Int32) (σ : hw_S) : Option (Int32 × hw_S) :=
  (if (t0 + t1) = l7 then
  (hw_gP (hw_q 12) 20 (some x0) σ).bind fun v283 =>
  (hw_sI v283 l8 l9 σ).bind fun σ290 =>
  (hw_gP (hw_q 12) 19 (some x0) σ290).bind fun v292 =>
  (hw_aI 0 v292 (((100 : Int32) * l8) + l9) σ290).bind fun v303 =>
  k177 x0 l4 l5 l6 v303 (l8 + 1) σ290
  else
  m12_found_b276 k177 k191 x0 l4 l5 l6 l7 l8 l9 σ)
set_option maxRecDepth 100000 in
theorem w12_found_b270 {p : Program} {l : Launch} {e : Env} {s : State} {m : MethodId} {args : Array Value} {below : List Frame} {meth : Method} {c : Code} {D : hw_D} {b : Nat} {k177 : Nat → Int32 → Int32 → Int32 → Int32 → Int32 → hw_S → Option (Int32 × hw_S)} {k191 : Nat → Int32 → Int32 → Int32 → Int32 → Int32 → Int32 → hw_S → Option (Int32 × hw_S)} {r : Int32} {τ : hw_S} (C0 : hw_C p s m args meth c D yX12_found cX12_found 10 (some .int)) (hk177 : ∀ {x0 : Nat} {l4 : Int32} {l5 : Int32} {l6 : Int32} {l7 : Int32} {l8 : Int32} {σ : hw_S} {H : Heap} {locs : List Loc} {ls : Array Slot}, k177 x0 l4 l5 l6 l7 l8 σ = some (r, τ) → hw_R D b σ H → va_S (fun q => b ≤ q) s.heap H locs → hw_L ls 10 255 [(0, hw_vr b (some x0)), (4, .int l4), (5, .int l5), (6, .int l6), (7, .int l7), (8, .int l8)] → W p l e rm12_found s m args below meth c H locs 0 0 (MQ below (hw_QI D b τ r) args s 0 0 (fun q => b ≤ q)) (F0 m 177 ls [])) (hk191 : ∀ {x0 : Nat} {l4 : Int32} {l5 : Int32} {l6 : Int32} {l7 : Int32} {l8 : Int32} {l9 : Int32} {σ : hw_S} {H : Heap} {locs : List Loc} {ls : Array Slot}, k191 x0 l4 l5 l6 l7 l8 l9 σ = some (r, τ) → hw_R D b σ H → va_S (fun q => b ≤ q) s.heap H locs → hw_L ls 10 255 [(0, hw_vr b (some x0)), (4, .int l4), (5, .int l5), (6, .int l6), (7, .int l7), (8, .int l8), (9, .int l9)] → W p l e rm12_found s m args below meth c H locs 0 0 (MQ below (hw_QI D b τ r) args s 0 0 (fun q => b ≤ q)) (F0 m 191 ls [])) {x0 : Nat} {l4 : Int32} {l5 : Int32} {l6 : Int32} {l7 : Int32} {l8 : Int32} {l9 : Int32} {t0 : Int32} {t1 : Int32} {σ : hw_S} {H : Heap} {locs : List Loc} (hm : m12_found_b270 k177 k191 x0 l4 l5 l6 l7 l8 l9 t0 t1 σ = some (r, τ)) (hR : hw_R D b σ H) (hS : va_S (fun q => b ≤ q) s.heap H locs) {ls : Array Slot} (hl : hw_L ls 10 255 [(0, hw_vr b (some x0)), (4, .int l4), (5, .int l5), (6, .int l6), (7, .int l7), (8, .int l8), (9, .int l9)]) : W p l e rm12_found s m args below meth c H locs 0 0 (MQ below (hw_QI D b τ r) args s 0 0 (fun q => b ≤ q)) (F0 m 270 ls [.int t1, .int t0]) := by
  obtain ⟨hx, hb, hml, hr, hown, hts, hlk, hE, hnm⟩ := id C0
  have hown : s.vm.findClass RX12 = some m.cls := hown
  have hK := hE.1
  unfold m12_found_b270 at hm
  refine lv_iadd hx hb dX12_found_270 ?_
  refine lv_iload hx hb dX12_found_271 (hl.at 4 rfl) ?_
  refine lv_icmp_eq (tgt := 282) hx hb dX12_found_273 (by decide) (fun c273 => ?_) (fun c273 => ?_)
  · have hm := hw_ip hm c273
    refine hw_aload_n hx hb dX12_found_282 rfl (hl.at 0 rfl) ?_
    obtain ⟨v283, e283, hm⟩ := hw_bs hm
    refine hw_getP hx hb hw_cf12 hts hown hK hR e283 (by decide) rfl (hts _ hw_m88) (fun _ h9 => h9) dX12_found_283 ?_
    refine lv_iload hx hb dX12_found_286 (hl.at 5 rfl) ?_
    refine lv_iload hx hb dX12_found_288 (hl.at 6 rfl) ?_
    obtain ⟨σ290, e290, hm⟩ := hw_bs hm
    refine hw_iast hx hb hK hR hS e290 dX12_found_290 (fun _ _ hR hS => ?_)
    refine hw_aload_n hx hb dX12_found_291 rfl (hl.at 0 rfl) ?_
    obtain ⟨v292, e292, hm⟩ := hw_bs hm
    refine hw_getP hx hb hw_cf12 hts hown hK hR e292 (by decide) rfl (hts _ hw_m87) (fun _ h9 => h9) dX12_found_292 ?_
    refine lv_bipush (v := 100) hx hb dX12_found_295 (by decide) ?_
    refine lv_iload hx hb dX12_found_297 (hl.at 5 rfl) ?_
    refine lv_imul hx hb dX12_found_299 ?_
    refine lv_iload hx hb dX12_found_300 (hl.at 6 rfl) ?_
    refine lv_iadd hx hb dX12_found_302 ?_
    obtain ⟨v303, e303, hm⟩ := hw_bs hm
    refine hw_iald hx hb hK hR e303 dX12_found_303 ?_
    refine hw_istore (lv' := [(7, .int v303), (0, hw_vr b (some x0)), (4, .int l4), (5, .int l5), (6, .int l6), (8, .int l8), (9, .int l9)]) hx hb dX12_found_304 hl (by decide) (by decide) rfl (fun ls hl => ?_)
    refine hw_iinc (v := (l8 + 1)) (lv' := [(8, .int (l8 + 1)), (7, .int v303), (0, hw_vr b (some x0)), (4, .int l4), (5, .int l5), (6, .int l6), (9, .int l9)]) hx hb dX12_found_306 hl (k := 5) rfl rfl (by decide) (by decide) rfl (fun ls hl => ?_)
    refine lv_goto (tgt := 177) hx hb dX12_found_309 (by decide) ?_
    exact hk177 hm hR hS (hl.sub [2, 3, 4, 5, 1, 0] rfl)
  · have hm := hw_in hm c273
    exact w12_found_b276 C0 hk177 hk191 hm hR hS (hl.sub [0, 1, 2, 3, 4, 5, 6] rfl)
def m12_found_b233 (k177 : Nat → Int32 → Int32 → Int32 → Int32 → Int32 → hw_S → Option (Int32 × hw_S)) (k191 : Nat → Int32 → Int32 → Int32 → Int32 → Int32 → Int32 → hw_S → Option (Int32 × hw_S)) (x0 : Nat) (l4 : Int32) (l5 : Int32) (l6 : Int32) (l7 : Int32) (l8 : Int32) (l9 : Int32) (σ : hw_S) : Option (Int32 × hw_S) :=
  (hw_gP (hw_q 12) 19 (some x0) σ).bind fun v234 =>
  (hw_aI 0 v234 (((100 : Int32) * l8) + l9) σ).bind fun v245 =>
  (if l8 ≤ 0 then
  m12_found_b270 k177 k191 x0 l4 l5 l6 l7 l8 l9 v245 (0 : Int32) σ
  else
  (hw_gP (hw_q 12) 20 (some x0) σ).bind fun v254 =>
  (hw_aI 0 v254 (l8 - (1 : Int32)) σ).bind fun v261 =>
  (m12_size (l9 - v261)).bind fun v263 =>
  m12_found_b270 k177 k191 x0 l4 l5 l6 l7 l8 l9 v245 v263 σ)
set_option maxRecDepth 100000 in
theorem w12_found_b233 {p : Program} {l : Launch} {e : Env} {s : State} {m : MethodId} {args : Array Value} {below : List Frame} {meth : Method} {c : Code} {D : hw_D} {b : Nat} {k177 : Nat → Int32 → Int32 → Int32 → Int32 → Int32 → hw_S → Option (Int32 × hw_S)} {k191 : Nat → Int32 → Int32 → Int32 → Int32 → Int32 → Int32 → hw_S → Option (Int32 × hw_S)} {r : Int32} {τ : hw_S} (C0 : hw_C p s m args meth c D yX12_found cX12_found 10 (some .int)) (hk177 : ∀ {x0 : Nat} {l4 : Int32} {l5 : Int32} {l6 : Int32} {l7 : Int32} {l8 : Int32} {σ : hw_S} {H : Heap} {locs : List Loc} {ls : Array Slot}, k177 x0 l4 l5 l6 l7 l8 σ = some (r, τ) → hw_R D b σ H → va_S (fun q => b ≤ q) s.heap H locs → hw_L ls 10 255 [(0, hw_vr b (some x0)), (4, .int l4), (5, .int l5), (6, .int l6), (7, .int l7), (8, .int l8)] → W p l e rm12_found s m args below meth c H locs 0 0 (MQ below (hw_QI D b τ r) args s 0 0 (fun q => b ≤ q)) (F0 m 177 ls [])) (hk191 : ∀ {x0 : Nat} {l4 : Int32} {l5 : Int32} {l6 : Int32} {l7 : Int32} {l8 : Int32} {l9 : Int32} {σ : hw_S} {H : Heap} {locs : List Loc} {ls : Array Slot}, k191 x0 l4 l5 l6 l7 l8 l9 σ = some (r, τ) → hw_R D b σ H → va_S (fun q => b ≤ q) s.heap H locs → hw_L ls 10 255 [(0, hw_vr b (some x0)), (4, .int l4), (5, .int l5), (6, .int l6), (7, .int l7), (8, .int l8), (9, .int l9)] → W p l e rm12_found s m args below meth c H locs 0 0 (MQ below (hw_QI D b τ r) args s 0 0 (fun q => b ≤ q)) (F0 m 191 ls [])) {x0 : Nat} {l4 : Int32} {l5 : Int32} {l6 : Int32} {l7 : Int32} {l8 : Int32} {l9 : Int32} {σ : hw_S} {H : Heap} {locs : List Loc} (hm : m12_found_b233 k177 k191 x0 l4 l5 l6 l7 l8 l9 σ = some (r, τ)) (hR : hw_R D b σ H) (hS : va_S (fun q => b ≤ q) s.heap H locs) {ls : Array Slot} (hl : hw_L ls 10 255 [(0, hw_vr b (some x0)), (4, .int l4), (5, .int l5), (6, .int l6), (7, .int l7), (8, .int l8), (9, .int l9)]) : W p l e rm12_found s m args below meth c H locs 0 0 (MQ below (hw_QI D b τ r) args s 0 0 (fun q => b ≤ q)) (F0 m 233 ls []) := by
  obtain ⟨hx, hb, hml, hr, hown, hts, hlk, hE, hnm⟩ := id C0
  have hown : s.vm.findClass RX12 = some m.cls := hown
  have hK := hE.1
  unfold m12_found_b233 at hm
  refine hw_aload_n hx hb dX12_found_233 rfl (hl.at 0 rfl) ?_
  obtain ⟨v234, e234, hm⟩ := hw_bs hm
  refine hw_getP hx hb hw_cf12 hts hown hK hR e234 (by decide) rfl (hts _ hw_m87) (fun _ h9 => h9) dX12_found_234 ?_
  refine lv_bipush (v := 100) hx hb dX12_found_237 (by decide) ?_
  refine lv_iload hx hb dX12_found_239 (hl.at 5 rfl) ?_
  refine lv_imul hx hb dX12_found_241 ?_
  refine lv_iload hx hb dX12_found_242 (hl.at 6 rfl) ?_
  refine lv_iadd hx hb dX12_found_244 ?_
  obtain ⟨v245, e245, hm⟩ := hw_bs hm
  refine hw_iald hx hb hK hR e245 dX12_found_245 ?_
  refine lv_iload hx hb dX12_found_246 (hl.at 5 rfl) ?_
  refine lv_if_le (tgt := 269) hx hb dX12_found_248 (by decide) (fun c248 => ?_) (fun c248 => ?_)
  · have hm := hw_ip hm c248
    refine lv_iconst (v := 0) hx hb dX12_found_269 (by decide) ?_
    exact w12_found_b270 C0 hk177 hk191 hm hR hS (hl.sub [0, 1, 2, 3, 4, 5, 6] rfl)
  · have hm := hw_in hm c248
    refine lv_iload hx hb dX12_found_251 (hl.at 6 rfl) ?_
    refine hw_aload_n hx hb dX12_found_253 rfl (hl.at 0 rfl) ?_
    obtain ⟨v254, e254, hm⟩ := hw_bs hm
    refine hw_getP hx hb hw_cf12 hts hown hK hR e254 (by decide) rfl (hts _ hw_m88) (fun _ h9 => h9) dX12_found_254 ?_
    refine lv_iload hx hb dX12_found_257 (hl.at 5 rfl) ?_
    refine lv_iconst (v := 1) hx hb dX12_found_259 (by decide) ?_
    refine lv_isub hx hb dX12_found_260 ?_
    obtain ⟨v261, e261, hm⟩ := hw_bs hm
    refine hw_iald hx hb hK hR e261 dX12_found_261 ?_
    refine lv_isub hx hb dX12_found_262 ?_
    obtain ⟨v263, e263, hm⟩ := hw_bs hm
    refine hw_cRI (va_runS (As := [.int (l9 - v261)]) (rest := [.int v245]) ⟨hx, hb, hml, hown, hts⟩ (c12_size l D e263) (cwS 1 hts (hw_gS hw_m717 hw_m718 hw_m5 hw_m719) rfl rfl rfl (by decide +kernel) ⟨(Nat.le_of_ble_eq_true rfl), (Nat.le_of_ble_eq_true rfl)⟩) (hw_pre0 hE) rfl rfl hl.sz rfl (lv_room (Nat.le_of_ble_eq_true rfl)) dX12_found_263 ⟨(Nat.le_of_ble_eq_true rfl), (Nat.le_of_ble_eq_true rfl)⟩) ?_
    refine lv_goto (tgt := 270) hx hb dX12_found_266 (by decide) ?_
    exact w12_found_b270 C0 hk177 hk191 hm hR hS (hl.sub [0, 1, 2, 3, 4, 5, 6] rfl)
def m12_found_b191 (k177 : Nat → Int32 → Int32 → Int32 → Int32 → Int32 → hw_S → Option (Int32 × hw_S)) : Nat → Nat → Int32 → Int32 → Int32 → Int32 → Int32 → Int32 → hw_S → Option (Int32 × hw_S)
  | 0, _, _, _, _, _, _, _, _ => none
  | n + 1, x0, l4, l5, l6, l7, l8, l9, σ =>
  (hw_gP (hw_q 12) 19 (some x0) σ).bind fun v192 =>
  (hw_aI 0 v192 (((100 : Int32) * l8) + l9) σ).bind fun v203 =>
  (if v203 = ((-1) : Int32) then
  m12_found_b276 k177 (m12_found_b191 k177 n) x0 l4 l5 l6 l7 l8 l9 σ
  else
  (if l8 ≤ 0 then
  m12_found_b233 k177 (m12_found_b191 k177 n) x0 l4 l5 l6 l7 l8 l9 σ
  else
  (hw_gP (hw_q 12) 20 (some x0) σ).bind fun v216 =>
  (hw_aI 0 v216 (l8 - (1 : Int32)) σ).bind fun v223 =>
  (m12_size (l9 - v223)).bind fun v225 =>
  (if l4 < v225 then
  m12_found_b276 k177 (m12_found_b191 k177 n) x0 l4 l5 l6 l7 l8 l9 σ
  else
  m12_found_b233 k177 (m12_found_b191 k177 n) x0 l4 l5 l6 l7 l8 l9 σ)))
set_option maxRecDepth 100000 in
theorem w12_found_b191 {p : Program} {l : Launch} {e : Env} {s : State} {m : MethodId} {args : Array Value} {below : List Frame} {meth : Method} {c : Code} {D : hw_D} {b : Nat} {k177 : Nat → Int32 → Int32 → Int32 → Int32 → Int32 → hw_S → Option (Int32 × hw_S)} {r : Int32} {τ : hw_S} (C0 : hw_C p s m args meth c D yX12_found cX12_found 10 (some .int)) (hk177 : ∀ {x0 : Nat} {l4 : Int32} {l5 : Int32} {l6 : Int32} {l7 : Int32} {l8 : Int32} {σ : hw_S} {H : Heap} {locs : List Loc} {ls : Array Slot}, k177 x0 l4 l5 l6 l7 l8 σ = some (r, τ) → hw_R D b σ H → va_S (fun q => b ≤ q) s.heap H locs → hw_L ls 10 255 [(0, hw_vr b (some x0)), (4, .int l4), (5, .int l5), (6, .int l6), (7, .int l7), (8, .int l8)] → W p l e rm12_found s m args below meth c H locs 0 0 (MQ below (hw_QI D b τ r) args s 0 0 (fun q => b ≤ q)) (F0 m 177 ls [])) : ∀ (n : Nat) {x0 : Nat} {l4 : Int32} {l5 : Int32} {l6 : Int32} {l7 : Int32} {l8 : Int32} {l9 : Int32} {σ : hw_S} {H : Heap} {locs : List Loc} {ls : Array Slot}, m12_found_b191 k177 n x0 l4 l5 l6 l7 l8 l9 σ = some (r, τ) → hw_R D b σ H → va_S (fun q => b ≤ q) s.heap H locs → hw_L ls 10 255 [(0, hw_vr b (some x0)), (4, .int l4), (5, .int l5), (6, .int l6), (7, .int l7), (8, .int l8), (9, .int l9)] → W p l e rm12_found s m args below meth c H locs 0 0 (MQ below (hw_QI D b τ r) args s 0 0 (fun q => b ≤ q)) (F0 m 191 ls []) := by
  obtain ⟨hx, hb, hml, hr, hown, hts, hlk, hE, hnm⟩ := id C0
  have hown : s.vm.findClass RX12 = some m.cls := hown
  have hK := hE.1
  intro n
  induction n with
  | zero => intro _ _ _ _ _ _ _ _ _ _ _ hm; cases hm
  | succ n ih =>
    intro x0 l4 l5 l6 l7 l8 l9 σ H locs ls hm hR hS hl
    rw [m12_found_b191] at hm
    refine hw_aload_n hx hb dX12_found_191 rfl (hl.at 0 rfl) ?_
    obtain ⟨v192, e192, hm⟩ := hw_bs hm
    refine hw_getP hx hb hw_cf12 hts hown hK hR e192 (by decide) rfl (hts _ hw_m87) (fun _ h9 => h9) dX12_found_192 ?_
    refine lv_bipush (v := 100) hx hb dX12_found_195 (by decide) ?_
    refine lv_iload hx hb dX12_found_197 (hl.at 5 rfl) ?_
    refine lv_imul hx hb dX12_found_199 ?_
    refine lv_iload hx hb dX12_found_200 (hl.at 6 rfl) ?_
    refine lv_iadd hx hb dX12_found_202 ?_
    obtain ⟨v203, e203, hm⟩ := hw_bs hm
    refine hw_iald hx hb hK hR e203 dX12_found_203 ?_
    refine lv_iconst (v := (-1)) hx hb dX12_found_204 (by decide) ?_
    refine lv_icmp_eq (tgt := 276) hx hb dX12_found_205 (by decide) (fun c205 => ?_) (fun c205 => ?_)
    · have hm := hw_ip hm c205
      exact w12_found_b276 C0 hk177 ih hm hR hS (hl.sub [0, 1, 2, 3, 4, 5, 6] rfl)
    · have hm := hw_in hm c205
      refine lv_iload hx hb dX12_found_208 (hl.at 5 rfl) ?_
      refine lv_if_le (tgt := 233) hx hb dX12_found_210 (by decide) (fun c210 => ?_) (fun c210 => ?_)
      · have hm := hw_ip hm c210
        exact w12_found_b233 C0 hk177 ih hm hR hS (hl.sub [0, 1, 2, 3, 4, 5, 6] rfl)
      · have hm := hw_in hm c210
        refine lv_iload hx hb dX12_found_213 (hl.at 6 rfl) ?_
        refine hw_aload_n hx hb dX12_found_215 rfl (hl.at 0 rfl) ?_
        obtain ⟨v216, e216, hm⟩ := hw_bs hm
        refine hw_getP hx hb hw_cf12 hts hown hK hR e216 (by decide) rfl (hts _ hw_m88) (fun _ h9 => h9) dX12_found_216 ?_
        refine lv_iload hx hb dX12_found_219 (hl.at 5 rfl) ?_
        refine lv_iconst (v := 1) hx hb dX12_found_221 (by decide) ?_
        refine lv_isub hx hb dX12_found_222 ?_
        obtain ⟨v223, e223, hm⟩ := hw_bs hm
        refine hw_iald hx hb hK hR e223 dX12_found_223 ?_
        refine lv_isub hx hb dX12_found_224 ?_
        obtain ⟨v225, e225, hm⟩ := hw_bs hm
        refine hw_cRI (va_runS (As := [.int (l9 - v223)]) (rest := []) ⟨hx, hb, hml, hown, hts⟩ (c12_size l D e225) (cwS 1 hts (hw_gS hw_m717 hw_m718 hw_m5 hw_m719) rfl rfl rfl (by decide +kernel) ⟨(Nat.le_of_ble_eq_true rfl), (Nat.le_of_ble_eq_true rfl)⟩) (hw_pre0 hE) rfl rfl hl.sz rfl (lv_room (Nat.le_of_ble_eq_true rfl)) dX12_found_225 ⟨(Nat.le_of_ble_eq_true rfl), (Nat.le_of_ble_eq_true rfl)⟩) ?_
        refine lv_iload hx hb dX12_found_228 (hl.at 1 rfl) ?_
        refine lv_icmp_gt (tgt := 276) hx hb dX12_found_230 (by decide) (fun c230 => ?_) (fun c230 => ?_)
        · have hm := hw_ip hm c230
          exact w12_found_b276 C0 hk177 ih hm hR hS (hl.sub [0, 1, 2, 3, 4, 5, 6] rfl)
        · have hm := hw_in hm c230
          exact w12_found_b233 C0 hk177 ih hm hR hS (hl.sub [0, 1, 2, 3, 4, 5, 6] rfl)
def m12_found_b177 : Nat → Nat → Int32 → Int32 → Int32 → Int32 → Int32 → hw_S → Option (Int32 × hw_S)
  | 0, _, _, _, _, _, _, _ => none
  | n + 1, x0, l4, l5, l6, l7, l8, σ =>
  (hw_gP (hw_q 12) 1 (some x0) σ).bind fun v180 =>
  (hw_aI 0 v180 (4 : Int32) σ).bind fun v184 =>
  (if v184 ≤ l8 then
  (if l5 = ((-1) : Int32) then
  m12_found_b330 x0 l6 σ
  else
  (hw_gP (hw_q 12) 20 (some x0) σ).bind fun v324 =>
  (hw_aI 0 v324 l5 σ).bind fun v329 =>
  m12_found_b330 x0 v329 σ)
  else
  m12_found_b191 (m12_found_b177 n) hw_fu x0 l4 l5 l6 l7 l8 (0 : Int32) σ)
set_option maxRecDepth 100000 in
theorem w12_found_b177 {p : Program} {l : Launch} {e : Env} {s : State} {m : MethodId} {args : Array Value} {below : List Frame} {meth : Method} {c : Code} {D : hw_D} {b : Nat} {r : Int32} {τ : hw_S} (C0 : hw_C p s m args meth c D yX12_found cX12_found 10 (some .int)) : ∀ (n : Nat) {x0 : Nat} {l4 : Int32} {l5 : Int32} {l6 : Int32} {l7 : Int32} {l8 : Int32} {σ : hw_S} {H : Heap} {locs : List Loc} {ls : Array Slot}, m12_found_b177 n x0 l4 l5 l6 l7 l8 σ = some (r, τ) → hw_R D b σ H → va_S (fun q => b ≤ q) s.heap H locs → hw_L ls 10 255 [(0, hw_vr b (some x0)), (4, .int l4), (5, .int l5), (6, .int l6), (7, .int l7), (8, .int l8)] → W p l e rm12_found s m args below meth c H locs 0 0 (MQ below (hw_QI D b τ r) args s 0 0 (fun q => b ≤ q)) (F0 m 177 ls []) := by
  obtain ⟨hx, hb, hml, hr, hown, hts, hlk, hE, hnm⟩ := id C0
  have hown : s.vm.findClass RX12 = some m.cls := hown
  have hK := hE.1
  intro n
  induction n with
  | zero => intro _ _ _ _ _ _ _ _ _ _ hm; cases hm
  | succ n ih =>
    intro x0 l4 l5 l6 l7 l8 σ H locs ls hm hR hS hl
    rw [m12_found_b177] at hm
    refine lv_iload hx hb dX12_found_177 (hl.at 5 rfl) ?_
    refine hw_aload_n hx hb dX12_found_179 rfl (hl.at 0 rfl) ?_
    obtain ⟨v180, e180, hm⟩ := hw_bs hm
    refine hw_getP hx hb hw_cf12 hts hown hK hR e180 (by decide) rfl (hts _ hw_m76) (fun _ h9 => h9) dX12_found_180 ?_
    refine lv_iconst (v := 4) hx hb dX12_found_183 (by decide) ?_
    obtain ⟨v184, e184, hm⟩ := hw_bs hm
    refine hw_iald hx hb hK hR e184 dX12_found_184 ?_
    refine lv_icmp_ge (tgt := 312) hx hb dX12_found_185 (by decide) (fun c185 => ?_) (fun c185 => ?_)
    · have hm := hw_ip hm c185
      refine lv_iload hx hb dX12_found_312 (hl.at 2 rfl) ?_
      refine lv_iconst (v := (-1)) hx hb dX12_found_314 (by decide) ?_
      refine lv_icmp_ne (tgt := 323) hx hb dX12_found_315 (by decide) (fun c315 => ?_) (fun c315 => ?_)
      · have hm := hw_in hm c315
        refine hw_aload_n hx hb dX12_found_323 rfl (hl.at 0 rfl) ?_
        obtain ⟨v324, e324, hm⟩ := hw_bs hm
        refine hw_getP hx hb hw_cf12 hts hown hK hR e324 (by decide) rfl (hts _ hw_m88) (fun _ h9 => h9) dX12_found_324 ?_
        refine lv_iload hx hb dX12_found_327 (hl.at 2 rfl) ?_
        obtain ⟨v329, e329, hm⟩ := hw_bs hm
        refine hw_iald hx hb hK hR e329 dX12_found_329 ?_
        exact w12_found_b330 C0 hm hR hS (hl.sub [0] rfl)
      · have hm := hw_ip hm c315
        refine lv_iload hx hb dX12_found_318 (hl.at 3 rfl) ?_
        refine lv_goto (tgt := 330) hx hb dX12_found_320 (by decide) ?_
        exact w12_found_b330 C0 hm hR hS (hl.sub [0] rfl)
    · have hm := hw_in hm c185
      refine lv_iconst (v := 0) hx hb dX12_found_188 (by decide) ?_
      refine hw_istore (lv' := [(9, .int (0 : Int32)), (0, hw_vr b (some x0)), (4, .int l4), (5, .int l5), (6, .int l6), (7, .int l7), (8, .int l8)]) hx hb dX12_found_189 hl (by decide) (by decide) rfl (fun ls hl => ?_)
      exact w12_found_b191 C0 ih hw_fu hm hR hS (hl.sub [1, 2, 3, 4, 5, 6, 0] rfl)
def m12_found_b153 (k111 : Nat → Int32 → Int32 → Int32 → Int32 → hw_S → Option (Int32 × hw_S)) (x0 : Nat) (l4 : Int32) (l5 : Int32) (l7 : Int32) (t0 : Int32) (σ : hw_S) : Option (Int32 × hw_S) :=
  k111 x0 l4 l5 t0 (l7 + 1) σ
set_option maxRecDepth 100000 in
theorem w12_found_b153 {p : Program} {l : Launch} {e : Env} {s : State} {m : MethodId} {args : Array Value} {below : List Frame} {meth : Method} {c : Code} {D : hw_D} {b : Nat} {k111 : Nat → Int32 → Int32 → Int32 → Int32 → hw_S → Option (Int32 × hw_S)} {r : Int32} {τ : hw_S} (C0 : hw_C p s m args meth c D yX12_found cX12_found 10 (some .int)) (hk111 : ∀ {x0 : Nat} {l4 : Int32} {l5 : Int32} {l6 : Int32} {l7 : Int32} {σ : hw_S} {H : Heap} {locs : List Loc} {ls : Array Slot}, k111 x0 l4 l5 l6 l7 σ = some (r, τ) → hw_R D b σ H → va_S (fun q => b ≤ q) s.heap H locs → hw_L ls 10 255 [(0, hw_vr b (some x0)), (4, .int l4), (5, .int l5), (6, .int l6), (7, .int l7)] → W p l e rm12_found s m args below meth c H locs 0 0 (MQ below (hw_QI D b τ r) args s 0 0 (fun q => b ≤ q)) (F0 m 111 ls [])) {x0 : Nat} {l4 : Int32} {l5 : Int32} {l7 : Int32} {t0 : Int32} {σ : hw_S} {H : Heap} {locs : List Loc} (hm : m12_found_b153 k111 x0 l4 l5 l7 t0 σ = some (r, τ)) (hR : hw_R D b σ H) (hS : va_S (fun q => b ≤ q) s.heap H locs) {ls : Array Slot} (hl : hw_L ls 10 255 [(0, hw_vr b (some x0)), (4, .int l4), (5, .int l5), (7, .int l7)]) : W p l e rm12_found s m args below meth c H locs 0 0 (MQ below (hw_QI D b τ r) args s 0 0 (fun q => b ≤ q)) (F0 m 153 ls [.int t0]) := by
  obtain ⟨hx, hb, hml, hr, hown, hts, hlk, hE, hnm⟩ := id C0
  have hown : s.vm.findClass RX12 = some m.cls := hown
  have hK := hE.1
  unfold m12_found_b153 at hm
  refine hw_istore (lv' := [(6, .int t0), (0, hw_vr b (some x0)), (4, .int l4), (5, .int l5), (7, .int l7)]) hx hb dX12_found_153 hl (by decide) (by decide) rfl (fun ls hl => ?_)
  refine hw_iinc (v := (l7 + 1)) (lv' := [(7, .int (l7 + 1)), (6, .int t0), (0, hw_vr b (some x0)), (4, .int l4), (5, .int l5)]) hx hb dX12_found_155 hl (k := 4) rfl rfl (by decide) (by decide) rfl (fun ls hl => ?_)
  refine lv_goto (tgt := 111) hx hb dX12_found_158 (by decide) ?_
  exact hk111 hm hR hS (hl.sub [2, 3, 4, 1, 0] rfl)
def m12_found_b151 (k111 : Nat → Int32 → Int32 → Int32 → Int32 → hw_S → Option (Int32 × hw_S)) (x0 : Nat) (l4 : Int32) (l5 : Int32) (l6 : Int32) (l7 : Int32) (σ : hw_S) : Option (Int32 × hw_S) :=
  m12_found_b153 k111 x0 l4 l5 l7 l6 σ
set_option maxRecDepth 100000 in
theorem w12_found_b151 {p : Program} {l : Launch} {e : Env} {s : State} {m : MethodId} {args : Array Value} {below : List Frame} {meth : Method} {c : Code} {D : hw_D} {b : Nat} {k111 : Nat → Int32 → Int32 → Int32 → Int32 → hw_S → Option (Int32 × hw_S)} {r : Int32} {τ : hw_S} (C0 : hw_C p s m args meth c D yX12_found cX12_found 10 (some .int)) (hk111 : ∀ {x0 : Nat} {l4 : Int32} {l5 : Int32} {l6 : Int32} {l7 : Int32} {σ : hw_S} {H : Heap} {locs : List Loc} {ls : Array Slot}, k111 x0 l4 l5 l6 l7 σ = some (r, τ) → hw_R D b σ H → va_S (fun q => b ≤ q) s.heap H locs → hw_L ls 10 255 [(0, hw_vr b (some x0)), (4, .int l4), (5, .int l5), (6, .int l6), (7, .int l7)] → W p l e rm12_found s m args below meth c H locs 0 0 (MQ below (hw_QI D b τ r) args s 0 0 (fun q => b ≤ q)) (F0 m 111 ls [])) {x0 : Nat} {l4 : Int32} {l5 : Int32} {l6 : Int32} {l7 : Int32} {σ : hw_S} {H : Heap} {locs : List Loc} (hm : m12_found_b151 k111 x0 l4 l5 l6 l7 σ = some (r, τ)) (hR : hw_R D b σ H) (hS : va_S (fun q => b ≤ q) s.heap H locs) {ls : Array Slot} (hl : hw_L ls 10 255 [(0, hw_vr b (some x0)), (4, .int l4), (5, .int l5), (6, .int l6), (7, .int l7)]) : W p l e rm12_found s m args below meth c H locs 0 0 (MQ below (hw_QI D b τ r) args s 0 0 (fun q => b ≤ q)) (F0 m 151 ls []) := by
  obtain ⟨hx, hb, hml, hr, hown, hts, hlk, hE, hnm⟩ := id C0
  have hown : s.vm.findClass RX12 = some m.cls := hown
  have hK := hE.1
  unfold m12_found_b151 at hm
  refine lv_iload hx hb dX12_found_151 (hl.at 3 rfl) ?_
  exact w12_found_b153 C0 hk111 hm hR hS (hl.sub [0, 1, 2, 4] rfl)
def m12_found_b146 (k111 : Nat → Int32 → Int32 → Int32 → Int32 → hw_S → Option (Int32 × hw_S)) (x0 : Nat) (l4 : Int32) (l5 : Int32) (l7 : Int32) (l8 : Int32) (σ : hw_S) : Option (Int32 × hw_S) :=
  m12_found_b153 k111 x0 l4 l5 l7 l8 σ
set_option maxRecDepth 100000 in
theorem w12_found_b146 {p : Program} {l : Launch} {e : Env} {s : State} {m : MethodId} {args : Array Value} {below : List Frame} {meth : Method} {c : Code} {D : hw_D} {b : Nat} {k111 : Nat → Int32 → Int32 → Int32 → Int32 → hw_S → Option (Int32 × hw_S)} {r : Int32} {τ : hw_S} (C0 : hw_C p s m args meth c D yX12_found cX12_found 10 (some .int)) (hk111 : ∀ {x0 : Nat} {l4 : Int32} {l5 : Int32} {l6 : Int32} {l7 : Int32} {σ : hw_S} {H : Heap} {locs : List Loc} {ls : Array Slot}, k111 x0 l4 l5 l6 l7 σ = some (r, τ) → hw_R D b σ H → va_S (fun q => b ≤ q) s.heap H locs → hw_L ls 10 255 [(0, hw_vr b (some x0)), (4, .int l4), (5, .int l5), (6, .int l6), (7, .int l7)] → W p l e rm12_found s m args below meth c H locs 0 0 (MQ below (hw_QI D b τ r) args s 0 0 (fun q => b ≤ q)) (F0 m 111 ls [])) {x0 : Nat} {l4 : Int32} {l5 : Int32} {l7 : Int32} {l8 : Int32} {σ : hw_S} {H : Heap} {locs : List Loc} (hm : m12_found_b146 k111 x0 l4 l5 l7 l8 σ = some (r, τ)) (hR : hw_R D b σ H) (hS : va_S (fun q => b ≤ q) s.heap H locs) {ls : Array Slot} (hl : hw_L ls 10 255 [(0, hw_vr b (some x0)), (4, .int l4), (5, .int l5), (7, .int l7), (8, .int l8)]) : W p l e rm12_found s m args below meth c H locs 0 0 (MQ below (hw_QI D b τ r) args s 0 0 (fun q => b ≤ q)) (F0 m 146 ls []) := by
  obtain ⟨hx, hb, hml, hr, hown, hts, hlk, hE, hnm⟩ := id C0
  have hown : s.vm.findClass RX12 = some m.cls := hown
  have hK := hE.1
  unfold m12_found_b146 at hm
  refine lv_iload hx hb dX12_found_146 (hl.at 4 rfl) ?_
  refine lv_goto (tgt := 153) hx hb dX12_found_148 (by decide) ?_
  exact w12_found_b153 C0 hk111 hm hR hS (hl.sub [0, 1, 2, 3] rfl)
def m12_found_b111 : Nat → Nat → Int32 → Int32 → Int32 → Int32 → hw_S → Option (Int32 × hw_S)
  | 0, _, _, _, _, _, _ => none
  | n + 1, x0, l4, l5, l6, l7, σ =>
  (if (100 : Int32) ≤ l7 then
  (if l6 = ((-1) : Int32) then
  some (((-5) : Int32), σ)
  else
  m12_found_b177 hw_fu x0 l4 l5 l6 l6 (0 : Int32) σ)
  else
  (hw_gP (hw_q 12) 19 (some x0) σ).bind fun v119 =>
  (hw_aI 0 v119 l7 σ).bind fun v124 =>
  (if v124 = ((-1) : Int32) then
  m12_found_b151 (m12_found_b111 n) x0 l4 l5 l6 l7 σ
  else
  (if l6 = ((-1) : Int32) then
  m12_found_b146 (m12_found_b111 n) x0 l4 l5 l7 v124 σ
  else
  (if l6 ≤ v124 then
  m12_found_b151 (m12_found_b111 n) x0 l4 l5 l6 l7 σ
  else
  m12_found_b146 (m12_found_b111 n) x0 l4 l5 l7 v124 σ))))
set_option maxRecDepth 100000 in
theorem w12_found_b111 {p : Program} {l : Launch} {e : Env} {s : State} {m : MethodId} {args : Array Value} {below : List Frame} {meth : Method} {c : Code} {D : hw_D} {b : Nat} {r : Int32} {τ : hw_S} (C0 : hw_C p s m args meth c D yX12_found cX12_found 10 (some .int)) : ∀ (n : Nat) {x0 : Nat} {l4 : Int32} {l5 : Int32} {l6 : Int32} {l7 : Int32} {σ : hw_S} {H : Heap} {locs : List Loc} {ls : Array Slot}, m12_found_b111 n x0 l4 l5 l6 l7 σ = some (r, τ) → hw_R D b σ H → va_S (fun q => b ≤ q) s.heap H locs → hw_L ls 10 255 [(0, hw_vr b (some x0)), (4, .int l4), (5, .int l5), (6, .int l6), (7, .int l7)] → W p l e rm12_found s m args below meth c H locs 0 0 (MQ below (hw_QI D b τ r) args s 0 0 (fun q => b ≤ q)) (F0 m 111 ls []) := by
  obtain ⟨hx, hb, hml, hr, hown, hts, hlk, hE, hnm⟩ := id C0
  have hown : s.vm.findClass RX12 = some m.cls := hown
  have hK := hE.1
  intro n
  induction n with
  | zero => intro _ _ _ _ _ _ _ _ _ hm; cases hm
  | succ n ih =>
    intro x0 l4 l5 l6 l7 σ H locs ls hm hR hS hl
    rw [m12_found_b111] at hm
    refine lv_iload hx hb dX12_found_111 (hl.at 4 rfl) ?_
    refine lv_bipush (v := 100) hx hb dX12_found_113 (by decide) ?_
    refine lv_icmp_ge (tgt := 161) hx hb dX12_found_115 (by decide) (fun c115 => ?_) (fun c115 => ?_)
    · have hm := hw_ip hm c115
      refine lv_iload hx hb dX12_found_161 (hl.at 3 rfl) ?_
      refine lv_iconst (v := (-1)) hx hb dX12_found_163 (by decide) ?_
      refine lv_icmp_ne (tgt := 170) hx hb dX12_found_164 (by decide) (fun c164 => ?_) (fun c164 => ?_)
      · have hm := hw_in hm c164
        refine lv_iload hx hb dX12_found_170 (hl.at 3 rfl) ?_
        refine hw_istore (lv' := [(7, .int l6), (0, hw_vr b (some x0)), (4, .int l4), (5, .int l5), (6, .int l6)]) hx hb dX12_found_172 hl (by decide) (by decide) rfl (fun ls hl => ?_)
        refine lv_iconst (v := 0) hx hb dX12_found_174 (by decide) ?_
        refine hw_istore (lv' := [(8, .int (0 : Int32)), (7, .int l6), (0, hw_vr b (some x0)), (4, .int l4), (5, .int l5), (6, .int l6)]) hx hb dX12_found_175 hl (by decide) (by decide) rfl (fun ls hl => ?_)
        exact w12_found_b177 C0 hw_fu hm hR hS (hl.sub [2, 3, 4, 5, 1, 0] rfl)
      · have hm := hw_ip hm c164
        refine lv_bipush (v := (-5)) hx hb dX12_found_167 (by decide) ?_
        exact hw_rWI hx hb hr hlk hR hS hm dX12_found_169
    · have hm := hw_in hm c115
      refine hw_aload_n hx hb dX12_found_118 rfl (hl.at 0 rfl) ?_
      obtain ⟨v119, e119, hm⟩ := hw_bs hm
      refine hw_getP hx hb hw_cf12 hts hown hK hR e119 (by decide) rfl (hts _ hw_m87) (fun _ h9 => h9) dX12_found_119 ?_
      refine lv_iload hx hb dX12_found_122 (hl.at 4 rfl) ?_
      obtain ⟨v124, e124, hm⟩ := hw_bs hm
      refine hw_iald hx hb hK hR e124 dX12_found_124 ?_
      refine hw_istore (lv' := [(8, .int v124), (0, hw_vr b (some x0)), (4, .int l4), (5, .int l5), (6, .int l6), (7, .int l7)]) hx hb dX12_found_125 hl (by decide) (by decide) rfl (fun ls hl => ?_)
      refine lv_iload hx hb dX12_found_127 (hl.at 0 rfl) ?_
      refine lv_iconst (v := (-1)) hx hb dX12_found_129 (by decide) ?_
      refine lv_icmp_eq (tgt := 151) hx hb dX12_found_130 (by decide) (fun c130 => ?_) (fun c130 => ?_)
      · have hm := hw_ip hm c130
        exact w12_found_b151 C0 ih hm hR hS (hl.sub [1, 2, 3, 4, 5] rfl)
      · have hm := hw_in hm c130
        refine lv_iload hx hb dX12_found_133 (hl.at 4 rfl) ?_
        refine lv_iconst (v := (-1)) hx hb dX12_found_135 (by decide) ?_
        refine lv_icmp_eq (tgt := 146) hx hb dX12_found_136 (by decide) (fun c136 => ?_) (fun c136 => ?_)
        · have hm := hw_ip hm c136
          exact w12_found_b146 C0 ih hm hR hS (hl.sub [1, 2, 3, 5, 0] rfl)
        · have hm := hw_in hm c136
          refine lv_iload hx hb dX12_found_139 (hl.at 0 rfl) ?_
          refine lv_iload hx hb dX12_found_141 (hl.at 4 rfl) ?_
          refine lv_icmp_ge (tgt := 151) hx hb dX12_found_143 (by decide) (fun c143 => ?_) (fun c143 => ?_)
          · have hm := hw_ip hm c143
            exact w12_found_b151 C0 ih hm hR hS (hl.sub [1, 2, 3, 4, 5] rfl)
          · have hm := hw_in hm c143
            exact w12_found_b146 C0 ih hm hR hS (hl.sub [1, 2, 3, 5, 0] rfl)
def m12_found_b59 : Nat → Nat → Int32 → Int32 → Int32 → Int32 → Int32 → Int32 → hw_S → Option (Int32 × hw_S)
  | 0, _, _, _, _, _, _, _, _ => none
  | n + 1, x0, l1, l2, l3, l4, l5, l6, σ =>
  (if (100 : Int32) ≤ l6 then
  (hw_rv (hw_q 12) (some x0) σ).bind fun a102 =>
  (m12_looksAhead x0 l4 σ).bind fun σ102 =>
  m12_found_b111 hw_fu x0 l4 l5 ((-1) : Int32) (0 : Int32) σ102
  else
  (hw_gP (hw_q 12) 18 (some x0) σ).bind fun v67 =>
  (hw_dv l3 (10000 : Int32)).bind fun v79 =>
  (hw_dv l3 (100 : Int32)).bind fun v83 =>
  (hw_rm v83 (100 : Int32)).bind fun v86 =>
  (hw_rv (hw_q 12) (some x0) σ).bind fun a89 =>
  hw_b2 (m12_formOf x0 l1 l2 v79 v86 l6 σ) fun v89 σ89 =>
  (hw_sI v67 l6 v89 σ89).bind fun σ92 =>
  m12_found_b59 n x0 l1 l2 l3 l4 l5 (l6 + 1) σ92)
set_option maxRecDepth 100000 in
theorem w12_found_b59 {p : Program} {l : Launch} {e : Env} {s : State} {m : MethodId} {args : Array Value} {below : List Frame} {meth : Method} {c : Code} {D : hw_D} {b : Nat} {r : Int32} {τ : hw_S} (C0 : hw_C p s m args meth c D yX12_found cX12_found 10 (some .int)) : ∀ (n : Nat) {x0 : Nat} {l1 : Int32} {l2 : Int32} {l3 : Int32} {l4 : Int32} {l5 : Int32} {l6 : Int32} {σ : hw_S} {H : Heap} {locs : List Loc} {ls : Array Slot}, m12_found_b59 n x0 l1 l2 l3 l4 l5 l6 σ = some (r, τ) → hw_R D b σ H → va_S (fun q => b ≤ q) s.heap H locs → hw_L ls 10 255 [(0, hw_vr b (some x0)), (1, .int l1), (2, .int l2), (3, .int l3), (4, .int l4), (5, .int l5), (6, .int l6)] → W p l e rm12_found s m args below meth c H locs 0 0 (MQ below (hw_QI D b τ r) args s 0 0 (fun q => b ≤ q)) (F0 m 59 ls []) := by
  obtain ⟨hx, hb, hml, hr, hown, hts, hlk, hE, hnm⟩ := id C0
  have hown : s.vm.findClass RX12 = some m.cls := hown
  have hK := hE.1
  intro n
  induction n with
  | zero => intro _ _ _ _ _ _ _ _ _ _ _ hm; cases hm
  | succ n ih =>
    intro x0 l1 l2 l3 l4 l5 l6 σ H locs ls hm hR hS hl
    rw [m12_found_b59] at hm
    refine lv_iload hx hb dX12_found_59 (hl.at 6 rfl) ?_
    refine lv_bipush (v := 100) hx hb dX12_found_61 (by decide) ?_
    refine lv_icmp_ge (tgt := 99) hx hb dX12_found_63 (by decide) (fun c63 => ?_) (fun c63 => ?_)
    · have hm := hw_ip hm c63
      refine hw_aload_n hx hb dX12_found_99 rfl (hl.at 0 rfl) ?_
      refine lv_iload hx hb dX12_found_100 (hl.at 4 rfl) ?_
      obtain ⟨a102, g102, hm⟩ := hw_bs hm
      obtain ⟨rfl, ht102⟩ := hw_rv_th g102
      obtain ⟨σ102, e102, hm⟩ := hw_bs hm
      refine hw_cWV (va_runV (As := [.int l4]) (rest := []) ⟨hx, hb, hml, hown, hts⟩ (c12_looksAhead l D b e102) (cwV 1 hts (hw_gV hw_m786 hw_m787 hw_m788 hw_m5 hw_m789) rfl rfl rfl (by decide +kernel) ⟨(Nat.le_of_ble_eq_true rfl), (Nat.le_of_ble_eq_true rfl)⟩) (hw_preV (ci := 12) hE hR rfl (by decide) (hw_q_of ht102)) rfl rfl hl.sz rfl (lv_room (Nat.le_of_ble_eq_true rfl)) dX12_found_102 ⟨(Nat.le_of_ble_eq_true rfl), (Nat.le_of_ble_eq_true rfl)⟩) hS (fun _ _ hR hS => ?_)
      refine lv_iconst (v := (-1)) hx hb dX12_found_105 (by decide) ?_
      refine hw_istore (lv' := [(6, .int ((-1) : Int32)), (0, hw_vr b (some x0)), (1, .int l1), (2, .int l2), (3, .int l3), (4, .int l4), (5, .int l5)]) hx hb dX12_found_106 hl (by decide) (by decide) rfl (fun ls hl => ?_)
      refine lv_iconst (v := 0) hx hb dX12_found_108 (by decide) ?_
      refine hw_istore (lv' := [(7, .int (0 : Int32)), (6, .int ((-1) : Int32)), (0, hw_vr b (some x0)), (1, .int l1), (2, .int l2), (3, .int l3), (4, .int l4), (5, .int l5)]) hx hb dX12_found_109 hl (by decide) (by decide) rfl (fun ls hl => ?_)
      exact w12_found_b111 C0 hw_fu hm hR hS (hl.sub [2, 6, 7, 1, 0] rfl)
    · have hm := hw_in hm c63
      refine hw_aload_n hx hb dX12_found_66 rfl (hl.at 0 rfl) ?_
      obtain ⟨v67, e67, hm⟩ := hw_bs hm
      refine hw_getP hx hb hw_cf12 hts hown hK hR e67 (by decide) rfl (hts _ hw_m86) (fun _ h9 => h9) dX12_found_67 ?_
      refine lv_iload hx hb dX12_found_70 (hl.at 6 rfl) ?_
      refine hw_aload_n hx hb dX12_found_72 rfl (hl.at 0 rfl) ?_
      refine lv_iload_n hx hb dX12_found_73 rfl (hl.at 1 rfl) ?_
      refine lv_iload_n hx hb dX12_found_74 rfl (hl.at 2 rfl) ?_
      refine lv_iload_n hx hb dX12_found_75 rfl (hl.at 3 rfl) ?_
      refine lv_sipush (v := 10000) hx hb dX12_found_76 (by decide) ?_
      obtain ⟨v79, e79, hm⟩ := hw_bs hm
      refine hw_idiv hx hb e79 dX12_found_79 ?_
      refine lv_iload_n hx hb dX12_found_80 rfl (hl.at 3 rfl) ?_
      refine lv_bipush (v := 100) hx hb dX12_found_81 (by decide) ?_
      obtain ⟨v83, e83, hm⟩ := hw_bs hm
      refine hw_idiv hx hb e83 dX12_found_83 ?_
      refine lv_bipush (v := 100) hx hb dX12_found_84 (by decide) ?_
      obtain ⟨v86, e86, hm⟩ := hw_bs hm
      refine hw_irem hx hb e86 dX12_found_86 ?_
      refine lv_iload hx hb dX12_found_87 (hl.at 6 rfl) ?_
      obtain ⟨a89, g89, hm⟩ := hw_bs hm
      obtain ⟨rfl, ht89⟩ := hw_rv_th g89
      obtain ⟨v89, σ89, e89, hm⟩ := hw_bs2 hm
      refine hw_cWI (va_runV (As := [.int l1, .int l2, .int v79, .int v86, .int l6]) (rest := [.int l6, hw_vr b v67]) ⟨hx, hb, hml, hown, hts⟩ (c12_formOf l D b e89) (cwV 5 hts (hw_gV hw_m592 hw_m593 hw_m594 hw_m5 hw_m595) rfl rfl rfl (by decide +kernel) ⟨(Nat.le_of_ble_eq_true rfl), (Nat.le_of_ble_eq_true rfl)⟩) (hw_preV (ci := 12) hE hR rfl (by decide) (hw_q_of ht89)) rfl rfl hl.sz rfl (lv_room (hw_sm (List.forall_mem_cons.mpr ⟨rfl, (List.forall_mem_cons.mpr ⟨(hw_vr_cat _ _), (fun _ h => absurd h List.not_mem_nil)⟩)⟩) (Nat.le_of_ble_eq_true rfl))) dX12_found_89 ⟨(Nat.le_of_ble_eq_true rfl), (Nat.le_of_ble_eq_true rfl)⟩) hS (fun _ _ hR hS => ?_)
      obtain ⟨σ92, e92, hm⟩ := hw_bs hm
      refine hw_iast hx hb hK hR hS e92 dX12_found_92 (fun _ _ hR hS => ?_)
      refine hw_iinc (v := (l6 + 1)) (lv' := [(6, .int (l6 + 1)), (0, hw_vr b (some x0)), (1, .int l1), (2, .int l2), (3, .int l3), (4, .int l4), (5, .int l5)]) hx hb dX12_found_93 hl (k := 6) rfl rfl (by decide) (by decide) rfl (fun ls hl => ?_)
      refine lv_goto (tgt := 59) hx hb dX12_found_96 (by decide) ?_
      exact ih hm hR hS (hl.sub [1, 2, 3, 4, 5, 6, 0] rfl)
def m12_found (x0 : Nat) (l1 : Int32) (l2 : Int32) (l3 : Int32) (l4 : Int32) (l5 : Int32) (σ : hw_S) : Option (Int32 × hw_S) :=
  (hw_rv (hw_q 12) (some x0) σ).bind fun a2 =>
  (m12_isLaw x0 l1 σ).bind fun v2 =>
  (if v2 = 0 then
  m12_found_b33 x0 σ
  else
  (hw_rv (hw_q 12) (some x0) σ).bind fun a10 =>
  (m12_isStuff x0 l2 σ).bind fun v10 =>
  (if v10 = 0 then
  m12_found_b33 x0 σ
  else
  (hw_gP (hw_q 12) 1 (some x0) σ).bind fun v20 =>
  (hw_aI 0 v20 (4 : Int32) σ).bind fun v24 =>
  (m12_in l5 ((-1) : Int32) (v24 - (1 : Int32))).bind fun v27 =>
  (if v27 = 0 then
  m12_found_b33 x0 σ
  else
  (m12_isDoing l3).bind fun v36 =>
  (if v36 = 0 then
  m12_found_b53 x0 σ
  else
  (m12_in l4 (0 : Int32) (99 : Int32)).bind fun v47 =>
  (if v47 = 0 then
  m12_found_b53 x0 σ
  else
  m12_found_b59 hw_fu x0 l1 l2 l3 l4 l5 (0 : Int32) σ)))))
set_option maxRecDepth 100000 in
theorem w12_found_s {p : Program} {l : Launch} {e : Env} {s : State} {m : MethodId} {args : Array Value} {below : List Frame} {meth : Method} {c : Code} {D : hw_D} {b : Nat} {x0 : Nat} {l1 : Int32} {l2 : Int32} {l3 : Int32} {l4 : Int32} {l5 : Int32} {σ : hw_S} {r : Int32} {τ : hw_S} {H : Heap} {locs : List Loc} (hm : m12_found x0 l1 l2 l3 l4 l5 σ = some (r, τ)) (C0 : hw_C p s m args meth c D yX12_found cX12_found 10 (some .int)) (hR : hw_R D b σ H) (hS : va_S (fun q => b ≤ q) s.heap H locs) {ls : Array Slot} (hl : hw_L ls 10 255 [(0, hw_vr b (some x0)), (1, .int l1), (2, .int l2), (3, .int l3), (4, .int l4), (5, .int l5)]) : W p l e rm12_found s m args below meth c H locs 0 0 (MQ below (hw_QI D b τ r) args s 0 0 (fun q => b ≤ q)) (F0 m 0 ls []) := by
  obtain ⟨hx, hb, hml, hr, hown, hts, hlk, hE, hnm⟩ := id C0
  have hown : s.vm.findClass RX12 = some m.cls := hown
  have hK := hE.1
  unfold m12_found at hm
  refine hw_aload_n hx hb dX12_found_0 rfl (hl.at 0 rfl) ?_
  refine lv_iload_n hx hb dX12_found_1 rfl (hl.at 1 rfl) ?_
  obtain ⟨a2, g2, hm⟩ := hw_bs hm
  obtain ⟨rfl, ht2⟩ := hw_rv_th g2
  obtain ⟨v2, e2, hm⟩ := hw_bs hm
  refine hw_cRI (va_runV (As := [.int l1]) (rest := []) ⟨hx, hb, hml, hown, hts⟩ (c12_isLaw l D b e2) (cwV 1 hts (hw_gV hw_m434 hw_m435 hw_m436 hw_m5 hw_m437) rfl rfl rfl (by decide +kernel) ⟨(Nat.le_of_ble_eq_true rfl), (Nat.le_of_ble_eq_true rfl)⟩) (hw_preV (ci := 12) hE hR rfl (by decide) (hw_q_of ht2)) rfl rfl hl.sz rfl (lv_room (Nat.le_of_ble_eq_true rfl)) dX12_found_2 ⟨(Nat.le_of_ble_eq_true rfl), (Nat.le_of_ble_eq_true rfl)⟩) ?_
  refine lv_if_eq (tgt := 33) hx hb dX12_found_5 (by decide) (fun c5 => ?_) (fun c5 => ?_)
  · have hm := hw_ip hm c5
    exact w12_found_b33 C0 hm hR hS (hl.sub [0] rfl)
  · have hm := hw_in hm c5
    refine hw_aload_n hx hb dX12_found_8 rfl (hl.at 0 rfl) ?_
    refine lv_iload_n hx hb dX12_found_9 rfl (hl.at 2 rfl) ?_
    obtain ⟨a10, g10, hm⟩ := hw_bs hm
    obtain ⟨rfl, ht10⟩ := hw_rv_th g10
    obtain ⟨v10, e10, hm⟩ := hw_bs hm
    refine hw_cRI (va_runV (As := [.int l2]) (rest := []) ⟨hx, hb, hml, hown, hts⟩ (c12_isStuff l D b e10) (cwV 1 hts (hw_gV hw_m129 hw_m130 hw_m131 hw_m5 hw_m132) rfl rfl rfl (by decide +kernel) ⟨(Nat.le_of_ble_eq_true rfl), (Nat.le_of_ble_eq_true rfl)⟩) (hw_preV (ci := 12) hE hR rfl (by decide) (hw_q_of ht10)) rfl rfl hl.sz rfl (lv_room (Nat.le_of_ble_eq_true rfl)) dX12_found_10 ⟨(Nat.le_of_ble_eq_true rfl), (Nat.le_of_ble_eq_true rfl)⟩) ?_
    refine lv_if_eq (tgt := 33) hx hb dX12_found_13 (by decide) (fun c13 => ?_) (fun c13 => ?_)
    · have hm := hw_ip hm c13
      exact w12_found_b33 C0 hm hR hS (hl.sub [0] rfl)
    · have hm := hw_in hm c13
      refine lv_iload hx hb dX12_found_16 (hl.at 5 rfl) ?_
      refine lv_iconst (v := (-1)) hx hb dX12_found_18 (by decide) ?_
      refine hw_aload_n hx hb dX12_found_19 rfl (hl.at 0 rfl) ?_
      obtain ⟨v20, e20, hm⟩ := hw_bs hm
      refine hw_getP hx hb hw_cf12 hts hown hK hR e20 (by decide) rfl (hts _ hw_m76) (fun _ h9 => h9) dX12_found_20 ?_
      refine lv_iconst (v := 4) hx hb dX12_found_23 (by decide) ?_
      obtain ⟨v24, e24, hm⟩ := hw_bs hm
      refine hw_iald hx hb hK hR e24 dX12_found_24 ?_
      refine lv_iconst (v := 1) hx hb dX12_found_25 (by decide) ?_
      refine lv_isub hx hb dX12_found_26 ?_
      obtain ⟨v27, e27, hm⟩ := hw_bs hm
      refine hw_cRI (va_runS (As := [.int l5, .int ((-1) : Int32), .int (v24 - (1 : Int32))]) (rest := []) ⟨hx, hb, hml, hown, hts⟩ (c12_in l D e27) (cwS 3 hts (hw_gS hw_m112 hw_m113 hw_m5 hw_m114) rfl rfl rfl (by decide +kernel) ⟨(Nat.le_of_ble_eq_true rfl), (Nat.le_of_ble_eq_true rfl)⟩) (hw_pre0 hE) rfl rfl hl.sz rfl (lv_room (Nat.le_of_ble_eq_true rfl)) dX12_found_27 ⟨(Nat.le_of_ble_eq_true rfl), (Nat.le_of_ble_eq_true rfl)⟩) ?_
      refine lv_if_ne (tgt := 35) hx hb dX12_found_30 (by decide) (fun c30 => ?_) (fun c30 => ?_)
      · have hm := hw_in hm c30
        refine lv_iload_n hx hb dX12_found_35 rfl (hl.at 3 rfl) ?_
        obtain ⟨v36, e36, hm⟩ := hw_bs hm
        refine hw_cRI (va_runS (As := [.int l3]) (rest := []) ⟨hx, hb, hml, hown, hts⟩ (c12_isDoing l D e36) (cwS 1 hts (hw_gS hw_m572 hw_m573 hw_m5 hw_m574) rfl rfl rfl (by decide +kernel) ⟨(Nat.le_of_ble_eq_true rfl), (Nat.le_of_ble_eq_true rfl)⟩) (hw_pre0 hE) rfl rfl hl.sz rfl (lv_room (Nat.le_of_ble_eq_true rfl)) dX12_found_36 ⟨(Nat.le_of_ble_eq_true rfl), (Nat.le_of_ble_eq_true rfl)⟩) ?_
        refine lv_if_eq (tgt := 53) hx hb dX12_found_39 (by decide) (fun c39 => ?_) (fun c39 => ?_)
        · have hm := hw_ip hm c39
          exact w12_found_b53 C0 hm hR hS (hl.sub [0] rfl)
        · have hm := hw_in hm c39
          refine lv_iload hx hb dX12_found_42 (hl.at 4 rfl) ?_
          refine lv_iconst (v := 0) hx hb dX12_found_44 (by decide) ?_
          refine lv_bipush (v := 99) hx hb dX12_found_45 (by decide) ?_
          obtain ⟨v47, e47, hm⟩ := hw_bs hm
          refine hw_cRI (va_runS (As := [.int l4, .int (0 : Int32), .int (99 : Int32)]) (rest := []) ⟨hx, hb, hml, hown, hts⟩ (c12_in l D e47) (cwS 3 hts (hw_gS hw_m112 hw_m113 hw_m5 hw_m114) rfl rfl rfl (by decide +kernel) ⟨(Nat.le_of_ble_eq_true rfl), (Nat.le_of_ble_eq_true rfl)⟩) (hw_pre0 hE) rfl rfl hl.sz rfl (lv_room (Nat.le_of_ble_eq_true rfl)) dX12_found_47 ⟨(Nat.le_of_ble_eq_true rfl), (Nat.le_of_ble_eq_true rfl)⟩) ?_
          refine lv_if_ne (tgt := 56) hx hb dX12_found_50 (by decide) (fun c50 => ?_) (fun c50 => ?_)
          · have hm := hw_in hm c50
            refine lv_iconst (v := 0) hx hb dX12_found_56 (by decide) ?_
            refine hw_istore (lv' := [(6, .int (0 : Int32)), (0, hw_vr b (some x0)), (1, .int l1), (2, .int l2), (3, .int l3), (4, .int l4), (5, .int l5)]) hx hb dX12_found_57 hl (by decide) (by decide) rfl (fun ls hl => ?_)
            exact w12_found_b59 C0 hw_fu hm hR hS (hl.sub [1, 2, 3, 4, 5, 6, 0] rfl)
          · have hm := hw_ip hm c50
            exact w12_found_b53 C0 hm hR hS (hl.sub [0] rfl)
      · have hm := hw_ip hm c30
        exact w12_found_b33 C0 hm hR hS (hl.sub [0] rfl)
set_option maxRecDepth 100000 in
theorem c12_found (l : Launch) (D : hw_D) (b : Nat) {x0 : Nat} {l1 : Int32} {l2 : Int32} {l3 : Int32} {l4 : Int32} {l5 : Int32} {σ : hw_S} {r : Int32} {τ : hw_S} (hm : m12_found x0 l1 l2 l3 l4 l5 σ = some (r, τ)) : Met l yX12_found (Cond.code yX12_found cX12_found 10 (some .int) :: wsL_law) rm12_found (hw_P1 D b σ [hw_vr b (some x0), .int l1, .int l2, .int l3, .int l4, .int l5]) (hw_QI D b τ r) 0 0 (fun q => b ≤ q) := by
  refine hw_start1 (by decide +kernel) (by exact Nat.le_of_ble_eq_true rfl) ?_
  intro p e s m below meth c ls C0 hR hS hl
  have hl : lv_has ls 10 [(0, hw_vr b (some x0)), (1, .int l1), (2, .int l2), (3, .int l3), (4, .int l4), (5, .int l5)] := by exact hl
  exact w12_found_s hm C0 hR hS ⟨hl, (List.forall_mem_cons.mpr ⟨(fun h => by rw [show (hw_vr b (some x0) : Value).category = 1 from (hw_vr_cat _ _)] at h; cases h), (List.forall_mem_cons.mpr ⟨(fun h => absurd (show (1 : Nat) = 2 from h) (by decide)), (List.forall_mem_cons.mpr ⟨(fun h => absurd (show (1 : Nat) = 2 from h) (by decide)), (List.forall_mem_cons.mpr ⟨(fun h => absurd (show (1 : Nat) = 2 from h) (by decide)), (List.forall_mem_cons.mpr ⟨(fun h => absurd (show (1 : Nat) = 2 from h) (by decide)), (List.forall_mem_cons.mpr ⟨(fun h => absurd (show (1 : Nat) = 2 from h) (by decide)), (fun _ h => absurd h List.not_mem_nil)⟩)⟩)⟩)⟩)⟩)⟩)⟩

abbrev rm11_greatestBorne : Room := { frames := 6, cells := 0, slots := 0, locals := 139 }
def m11_greatestBorne_b81 (k38 : Option Nat → Option Nat → Int32 → Int32 → Int32 → Int32 → Int32 → Int32 → hw_S → Option Int32) (l0 : Option Nat) (l1 : Option Nat) (l2 : Int32) (l3 : Int32) (l4 : Int32) (l5 : Int32) (l6 : Int32) (l7 : Int32) (σ : hw_S) : Option Int32 :=
  k38 l0 l1 l2 l3 l4 l5 l6 (l7 + 1) σ
set_option maxRecDepth 100000 in
theorem w11_greatestBorne_b81 {p : Program} {l : Launch} {e : Env} {s : State} {m : MethodId} {args : Array Value} {below : List Frame} {meth : Method} {c : Code} {D : hw_D} {b : Nat} {k38 : Option Nat → Option Nat → Int32 → Int32 → Int32 → Int32 → Int32 → Int32 → hw_S → Option Int32} {r : Int32} (C0 : hw_C p s m args meth c D yX11_greatestBorne cX11_greatestBorne 8 (some .int)) (hk38 : ∀ {l0 : Option Nat} {l1 : Option Nat} {l2 : Int32} {l3 : Int32} {l4 : Int32} {l5 : Int32} {l6 : Int32} {l7 : Int32} {σ : hw_S} {ls : Array Slot}, k38 l0 l1 l2 l3 l4 l5 l6 l7 σ = some r → hw_R D b σ s.heap → hw_L ls 8 255 [(0, hw_vr b l0), (1, hw_vr b l1), (2, .int l2), (3, .int l3), (4, .int l4), (5, .int l5), (6, .int l6), (7, .int l7)] → W p l e rm11_greatestBorne s m args below meth c s.heap [] 0 0 (MQ below (hw_RI r) args s 0 0 hw_nof) (F0 m 38 ls [])) {l0 : Option Nat} {l1 : Option Nat} {l2 : Int32} {l3 : Int32} {l4 : Int32} {l5 : Int32} {l6 : Int32} {l7 : Int32} {σ : hw_S} (hm : m11_greatestBorne_b81 k38 l0 l1 l2 l3 l4 l5 l6 l7 σ = some r) (hR : hw_R D b σ s.heap) {ls : Array Slot} (hl : hw_L ls 8 255 [(0, hw_vr b l0), (1, hw_vr b l1), (2, .int l2), (3, .int l3), (4, .int l4), (5, .int l5), (6, .int l6), (7, .int l7)]) : W p l e rm11_greatestBorne s m args below meth c s.heap [] 0 0 (MQ below (hw_RI r) args s 0 0 hw_nof) (F0 m 81 ls []) := by
  obtain ⟨hx, hb, hml, hr, hown, hts, hlk, hE, hnm⟩ := id C0
  have hown : s.vm.findClass RX11 = some m.cls := hown
  have hK := hE.1
  unfold m11_greatestBorne_b81 at hm
  refine hw_iinc (v := (l7 + 1)) (lv' := [(7, .int (l7 + 1)), (0, hw_vr b l0), (1, hw_vr b l1), (2, .int l2), (3, .int l3), (4, .int l4), (5, .int l5), (6, .int l6)]) hx hb dX11_greatestBorne_81 hl (k := 7) rfl rfl (by decide) (by decide) rfl (fun ls hl => ?_)
  refine lv_goto (tgt := 38) hx hb dX11_greatestBorne_84 (by decide) ?_
  exact hk38 hm hR (hl.sub [1, 2, 3, 4, 5, 6, 7, 0] rfl)
def m11_greatestBorne_b38 : Nat → Option Nat → Option Nat → Int32 → Int32 → Int32 → Int32 → Int32 → Int32 → hw_S → Option Int32
  | 0, _, _, _, _, _, _, _, _, _ => none
  | n + 1, l0, l1, l2, l3, l4, l5, l6, l7, σ =>
  (if l6 < l7 then
  some l5
  else
  (m11_formIn l0 l1 (l2 + ((l7 - l3) * (10000 : Int32))) σ).bind fun v57 =>
  (if v57 = l4 then
  m11_greatestBorne_b81 (m11_greatestBorne_b38 n) l0 l1 l2 l3 l4 l5 l6 l7 σ
  else
  m11_greatestBorne_b81 (m11_greatestBorne_b38 n) l0 l1 l2 l3 l4 (hw_min l5 ((hw_abs (l7 - l3)) - (1 : Int32))) l6 l7 σ))
set_option maxRecDepth 100000 in
theorem w11_greatestBorne_b38 {p : Program} {l : Launch} {e : Env} {s : State} {m : MethodId} {args : Array Value} {below : List Frame} {meth : Method} {c : Code} {D : hw_D} {b : Nat} {r : Int32} (C0 : hw_C p s m args meth c D yX11_greatestBorne cX11_greatestBorne 8 (some .int)) : ∀ (n : Nat) {l0 : Option Nat} {l1 : Option Nat} {l2 : Int32} {l3 : Int32} {l4 : Int32} {l5 : Int32} {l6 : Int32} {l7 : Int32} {σ : hw_S} {ls : Array Slot}, m11_greatestBorne_b38 n l0 l1 l2 l3 l4 l5 l6 l7 σ = some r → hw_R D b σ s.heap → hw_L ls 8 255 [(0, hw_vr b l0), (1, hw_vr b l1), (2, .int l2), (3, .int l3), (4, .int l4), (5, .int l5), (6, .int l6), (7, .int l7)] → W p l e rm11_greatestBorne s m args below meth c s.heap [] 0 0 (MQ below (hw_RI r) args s 0 0 hw_nof) (F0 m 38 ls []) := by
  obtain ⟨hx, hb, hml, hr, hown, hts, hlk, hE, hnm⟩ := id C0
  have hown : s.vm.findClass RX11 = some m.cls := hown
  have hK := hE.1
  intro n
  induction n with
  | zero => intro _ _ _ _ _ _ _ _ _ _ hm; cases hm
  | succ n ih =>
    intro l0 l1 l2 l3 l4 l5 l6 l7 σ ls hm hR hl
    rw [m11_greatestBorne_b38] at hm
    refine lv_iload hx hb dX11_greatestBorne_38 (hl.at 7 rfl) ?_
    refine lv_iload hx hb dX11_greatestBorne_40 (hl.at 6 rfl) ?_
    refine lv_icmp_gt (tgt := 87) hx hb dX11_greatestBorne_42 (by decide) (fun c42 => ?_) (fun c42 => ?_)
    · have hm := hw_ip hm c42
      refine lv_iload hx hb dX11_greatestBorne_87 (hl.at 5 rfl) ?_
      exact hw_rRI hx hb hr hlk hm dX11_greatestBorne_89
    · have hm := hw_in hm c42
      refine hw_aload_n hx hb dX11_greatestBorne_45 rfl (hl.at 0 rfl) ?_
      refine hw_aload_n hx hb dX11_greatestBorne_46 rfl (hl.at 1 rfl) ?_
      refine lv_iload_n hx hb dX11_greatestBorne_47 rfl (hl.at 2 rfl) ?_
      refine lv_iload hx hb dX11_greatestBorne_48 (hl.at 7 rfl) ?_
      refine lv_iload_n hx hb dX11_greatestBorne_50 rfl (hl.at 3 rfl) ?_
      refine lv_isub hx hb dX11_greatestBorne_51 ?_
      refine lv_sipush (v := 10000) hx hb dX11_greatestBorne_52 (by decide) ?_
      refine lv_imul hx hb dX11_greatestBorne_55 ?_
      refine lv_iadd hx hb dX11_greatestBorne_56 ?_
      obtain ⟨v57, e57, hm⟩ := hw_bs hm
      refine hw_cRI (va_runS (As := [hw_vr b l0, hw_vr b l1, .int (l2 + ((l7 - l3) * (10000 : Int32)))]) (rest := []) ⟨hx, hb, hml, hown, hts⟩ (c11_formIn l D b e57) (cwS 3 hts (hw_gS hw_m552 hw_m553 hw_m2 hw_m554) rfl rfl rfl (by decide +kernel) ⟨(Nat.le_of_ble_eq_true rfl), (Nat.le_of_ble_eq_true rfl)⟩) (hw_pre1 hE hR) rfl rfl hl.sz rfl (lv_room (Nat.le_of_ble_eq_true rfl)) dX11_greatestBorne_57 ⟨(Nat.le_of_ble_eq_true rfl), (Nat.le_of_ble_eq_true rfl)⟩) ?_
      refine lv_iload hx hb dX11_greatestBorne_60 (hl.at 4 rfl) ?_
      refine lv_icmp_eq (tgt := 81) hx hb dX11_greatestBorne_62 (by decide) (fun c62 => ?_) (fun c62 => ?_)
      · have hm := hw_ip hm c62
        exact w11_greatestBorne_b81 C0 ih hm hR (hl.sub [0, 1, 2, 3, 4, 5, 6, 7] rfl)
      · have hm := hw_in hm c62
        refine lv_iload hx hb dX11_greatestBorne_65 (hl.at 5 rfl) ?_
        refine lv_iload hx hb dX11_greatestBorne_67 (hl.at 7 rfl) ?_
        refine lv_iload_n hx hb dX11_greatestBorne_69 rfl (hl.at 3 rfl) ?_
        refine lv_isub hx hb dX11_greatestBorne_70 ?_
        refine hw_mabs hx hb hml hl hown (hts _ hw_m710) (hts _ hw_m711) (hts _ hw_m157) (hts _ hw_m712) (Nat.le_of_ble_eq_true rfl) ⟨Nat.le_of_ble_eq_true rfl, (Nat.le_of_ble_eq_true rfl)⟩ (Nat.le_of_ble_eq_true rfl) (Nat.le_of_ble_eq_true rfl) dX11_greatestBorne_71 ?_
        refine lv_iconst (v := 1) hx hb dX11_greatestBorne_74 (by decide) ?_
        refine lv_isub hx hb dX11_greatestBorne_75 ?_
        refine hw_mmin hx hb hml hl hown (hts _ hw_m769) (hts _ hw_m156) (hts _ hw_m157) (hts _ hw_m158) (Nat.le_of_ble_eq_true rfl) ⟨Nat.le_of_ble_eq_true rfl, (Nat.le_of_ble_eq_true rfl)⟩ (Nat.le_of_ble_eq_true rfl) (Nat.le_of_ble_eq_true rfl) dX11_greatestBorne_76 ?_
        refine hw_istore (lv' := [(5, .int (hw_min l5 ((hw_abs (l7 - l3)) - (1 : Int32)))), (0, hw_vr b l0), (1, hw_vr b l1), (2, .int l2), (3, .int l3), (4, .int l4), (6, .int l6), (7, .int l7)]) hx hb dX11_greatestBorne_79 hl (by decide) (by decide) rfl (fun ls hl => ?_)
        exact w11_greatestBorne_b81 C0 ih hm hR (hl.sub [1, 2, 3, 4, 5, 0, 6, 7] rfl)
def m11_greatestBorne (l0 : Option Nat) (l1 : Option Nat) (l2 : Int32) (σ : hw_S) : Option Int32 :=
  (m11_heightOf l2).bind fun v1 =>
  (m11_formIn l0 l1 l2 σ).bind fun v8 =>
  m11_greatestBorne_b38 hw_fu l0 l1 l2 v1 v8 (20 : Int32) (hw_min (60 : Int32) (v1 + (20 : Int32))) (hw_max (1 : Int32) (v1 - (20 : Int32))) σ
set_option maxRecDepth 100000 in
theorem w11_greatestBorne_s {p : Program} {l : Launch} {e : Env} {s : State} {m : MethodId} {args : Array Value} {below : List Frame} {meth : Method} {c : Code} {D : hw_D} {b : Nat} {l0 : Option Nat} {l1 : Option Nat} {l2 : Int32} {σ : hw_S} {r : Int32} (hm : m11_greatestBorne l0 l1 l2 σ = some r) (C0 : hw_C p s m args meth c D yX11_greatestBorne cX11_greatestBorne 8 (some .int)) (hR : hw_R D b σ s.heap) {ls : Array Slot} (hl : hw_L ls 8 255 [(0, hw_vr b l0), (1, hw_vr b l1), (2, .int l2)]) : W p l e rm11_greatestBorne s m args below meth c s.heap [] 0 0 (MQ below (hw_RI r) args s 0 0 hw_nof) (F0 m 0 ls []) := by
  obtain ⟨hx, hb, hml, hr, hown, hts, hlk, hE, hnm⟩ := id C0
  have hown : s.vm.findClass RX11 = some m.cls := hown
  have hK := hE.1
  unfold m11_greatestBorne at hm
  refine lv_iload_n hx hb dX11_greatestBorne_0 rfl (hl.at 2 rfl) ?_
  obtain ⟨v1, e1, hm⟩ := hw_bs hm
  refine hw_cRI (va_runS (As := [.int l2]) (rest := []) ⟨hx, hb, hml, hown, hts⟩ (c11_heightOf l D e1) (cwS 1 hts (hw_gS hw_m445 hw_m446 hw_m2 hw_m447) rfl rfl rfl (by decide +kernel) ⟨(Nat.le_of_ble_eq_true rfl), (Nat.le_of_ble_eq_true rfl)⟩) (hw_pre0 hE) rfl rfl hl.sz rfl (lv_room (Nat.le_of_ble_eq_true rfl)) dX11_greatestBorne_1 ⟨(Nat.le_of_ble_eq_true rfl), (Nat.le_of_ble_eq_true rfl)⟩) ?_
  refine hw_istore_n (lv' := [(3, .int v1), (0, hw_vr b l0), (1, hw_vr b l1), (2, .int l2)]) hx hb dX11_greatestBorne_4 rfl hl (by decide) (by decide) rfl (fun ls hl => ?_)
  refine hw_aload_n hx hb dX11_greatestBorne_5 rfl (hl.at 1 rfl) ?_
  refine hw_aload_n hx hb dX11_greatestBorne_6 rfl (hl.at 2 rfl) ?_
  refine lv_iload_n hx hb dX11_greatestBorne_7 rfl (hl.at 3 rfl) ?_
  obtain ⟨v8, e8, hm⟩ := hw_bs hm
  refine hw_cRI (va_runS (As := [hw_vr b l0, hw_vr b l1, .int l2]) (rest := []) ⟨hx, hb, hml, hown, hts⟩ (c11_formIn l D b e8) (cwS 3 hts (hw_gS hw_m552 hw_m553 hw_m2 hw_m554) rfl rfl rfl (by decide +kernel) ⟨(Nat.le_of_ble_eq_true rfl), (Nat.le_of_ble_eq_true rfl)⟩) (hw_pre1 hE hR) rfl rfl hl.sz rfl (lv_room (Nat.le_of_ble_eq_true rfl)) dX11_greatestBorne_8 ⟨(Nat.le_of_ble_eq_true rfl), (Nat.le_of_ble_eq_true rfl)⟩) ?_
  refine hw_istore (lv' := [(4, .int v8), (3, .int v1), (0, hw_vr b l0), (1, hw_vr b l1), (2, .int l2)]) hx hb dX11_greatestBorne_11 hl (by decide) (by decide) rfl (fun ls hl => ?_)
  refine lv_bipush (v := 20) hx hb dX11_greatestBorne_13 (by decide) ?_
  refine hw_istore (lv' := [(5, .int (20 : Int32)), (4, .int v8), (3, .int v1), (0, hw_vr b l0), (1, hw_vr b l1), (2, .int l2)]) hx hb dX11_greatestBorne_15 hl (by decide) (by decide) rfl (fun ls hl => ?_)
  refine lv_bipush (v := 60) hx hb dX11_greatestBorne_17 (by decide) ?_
  refine lv_iload_n hx hb dX11_greatestBorne_19 rfl (hl.at 2 rfl) ?_
  refine lv_bipush (v := 20) hx hb dX11_greatestBorne_20 (by decide) ?_
  refine lv_iadd hx hb dX11_greatestBorne_22 ?_
  refine hw_mmin hx hb hml hl hown (hts _ hw_m769) (hts _ hw_m156) (hts _ hw_m157) (hts _ hw_m158) (Nat.le_of_ble_eq_true rfl) ⟨Nat.le_of_ble_eq_true rfl, (Nat.le_of_ble_eq_true rfl)⟩ (Nat.le_of_ble_eq_true rfl) (Nat.le_of_ble_eq_true rfl) dX11_greatestBorne_23 ?_
  refine hw_istore (lv' := [(6, .int (hw_min (60 : Int32) (v1 + (20 : Int32)))), (5, .int (20 : Int32)), (4, .int v8), (3, .int v1), (0, hw_vr b l0), (1, hw_vr b l1), (2, .int l2)]) hx hb dX11_greatestBorne_26 hl (by decide) (by decide) rfl (fun ls hl => ?_)
  refine lv_iconst (v := 1) hx hb dX11_greatestBorne_28 (by decide) ?_
  refine lv_iload_n hx hb dX11_greatestBorne_29 rfl (hl.at 3 rfl) ?_
  refine lv_bipush (v := 20) hx hb dX11_greatestBorne_30 (by decide) ?_
  refine lv_isub hx hb dX11_greatestBorne_32 ?_
  refine hw_mmax hx hb hml hl hown (hts _ hw_m781) (hts _ hw_m463) (hts _ hw_m157) (hts _ hw_m464) (Nat.le_of_ble_eq_true rfl) ⟨Nat.le_of_ble_eq_true rfl, (Nat.le_of_ble_eq_true rfl)⟩ (Nat.le_of_ble_eq_true rfl) (Nat.le_of_ble_eq_true rfl) dX11_greatestBorne_33 ?_
  refine hw_istore (lv' := [(7, .int (hw_max (1 : Int32) (v1 - (20 : Int32)))), (6, .int (hw_min (60 : Int32) (v1 + (20 : Int32)))), (5, .int (20 : Int32)), (4, .int v8), (3, .int v1), (0, hw_vr b l0), (1, hw_vr b l1), (2, .int l2)]) hx hb dX11_greatestBorne_36 hl (by decide) (by decide) rfl (fun ls hl => ?_)
  exact w11_greatestBorne_b38 C0 hw_fu hm hR (hl.sub [5, 6, 7, 4, 3, 2, 1, 0] rfl)
set_option maxRecDepth 100000 in
theorem c11_greatestBorne (l : Launch) (D : hw_D) (b : Nat) {l0 : Option Nat} {l1 : Option Nat} {l2 : Int32} {σ : hw_S} {r : Int32} (hm : m11_greatestBorne l0 l1 l2 σ = some r) : Met l yX11_greatestBorne (Cond.code yX11_greatestBorne cX11_greatestBorne 8 (some .int) :: wsL_law) rm11_greatestBorne (hw_P1 D b σ [hw_vr b l0, hw_vr b l1, .int l2]) (hw_RI r) 0 0 hw_nof := by
  refine hw_start1 (by decide +kernel) (by cases l0 <;> cases l1 <;> exact Nat.le_of_ble_eq_true rfl) ?_
  intro p e s m below meth c ls C0 hR hS hl
  have hl : lv_has ls 8 [(0, hw_vr b l0), (1, hw_vr b l1), (2, .int l2)] := by cases l0 <;> cases l1 <;> exact hl
  exact w11_greatestBorne_s hm C0 hR ⟨hl, (List.forall_mem_cons.mpr ⟨(fun h => by rw [show (hw_vr b l0 : Value).category = 1 from (hw_vr_cat _ _)] at h; cases h), (List.forall_mem_cons.mpr ⟨(fun h => by rw [show (hw_vr b l1 : Value).category = 1 from (hw_vr_cat _ _)] at h; cases h), (List.forall_mem_cons.mpr ⟨(fun h => absurd (show (1 : Nat) = 2 from h) (by decide)), (fun _ h => absurd h List.not_mem_nil)⟩)⟩)⟩)⟩

abbrev rm11_bears : Room := { frames := 7, cells := 0, slots := 0, locals := 166 }
def m11_bears_b24 (x0 : Nat) (σ : hw_S) : Option Int32 :=
  some ((-1) : Int32)
set_option maxRecDepth 100000 in
theorem w11_bears_b24 {p : Program} {l : Launch} {e : Env} {s : State} {m : MethodId} {args : Array Value} {below : List Frame} {meth : Method} {c : Code} {D : hw_D} {b : Nat} {r : Int32} (C0 : hw_C p s m args meth c D yX11_bears cX11_bears 8 (some .int)) {x0 : Nat} {σ : hw_S} (hm : m11_bears_b24 x0 σ = some r) (hR : hw_R D b σ s.heap) {ls : Array Slot} (hl : hw_L ls 8 255 [(0, hw_vr b (some x0))]) : W p l e rm11_bears s m args below meth c s.heap [] 0 0 (MQ below (hw_RI r) args s 0 0 hw_nof) (F0 m 24 ls []) := by
  obtain ⟨hx, hb, hml, hr, hown, hts, hlk, hE, hnm⟩ := id C0
  have hown : s.vm.findClass RX11 = some m.cls := hown
  have hK := hE.1
  unfold m11_bears_b24 at hm
  refine lv_iconst (v := (-1)) hx hb dX11_bears_24 (by decide) ?_
  exact hw_rRI hx hb hr hlk hm dX11_bears_25
def m11_bears_b44 (x0 : Nat) (σ : hw_S) : Option Int32 :=
  some ((-2) : Int32)
set_option maxRecDepth 100000 in
theorem w11_bears_b44 {p : Program} {l : Launch} {e : Env} {s : State} {m : MethodId} {args : Array Value} {below : List Frame} {meth : Method} {c : Code} {D : hw_D} {b : Nat} {r : Int32} (C0 : hw_C p s m args meth c D yX11_bears cX11_bears 8 (some .int)) {x0 : Nat} {σ : hw_S} (hm : m11_bears_b44 x0 σ = some r) (hR : hw_R D b σ s.heap) {ls : Array Slot} (hl : hw_L ls 8 255 [(0, hw_vr b (some x0))]) : W p l e rm11_bears s m args below meth c s.heap [] 0 0 (MQ below (hw_RI r) args s 0 0 hw_nof) (F0 m 44 ls []) := by
  obtain ⟨hx, hb, hml, hr, hown, hts, hlk, hE, hnm⟩ := id C0
  have hown : s.vm.findClass RX11 = some m.cls := hown
  have hK := hE.1
  unfold m11_bears_b44 at hm
  refine lv_bipush (v := (-2)) hx hb dX11_bears_44 (by decide) ?_
  exact hw_rRI hx hb hr hlk hm dX11_bears_46
def m11_bears_b78 (x0 : Nat) (t0 : Int32) (σ : hw_S) : Option Int32 :=
  some t0
set_option maxRecDepth 100000 in
theorem w11_bears_b78 {p : Program} {l : Launch} {e : Env} {s : State} {m : MethodId} {args : Array Value} {below : List Frame} {meth : Method} {c : Code} {D : hw_D} {b : Nat} {r : Int32} (C0 : hw_C p s m args meth c D yX11_bears cX11_bears 8 (some .int)) {x0 : Nat} {t0 : Int32} {σ : hw_S} (hm : m11_bears_b78 x0 t0 σ = some r) (hR : hw_R D b σ s.heap) {ls : Array Slot} (hl : hw_L ls 8 255 [(0, hw_vr b (some x0))]) : W p l e rm11_bears s m args below meth c s.heap [] 0 0 (MQ below (hw_RI r) args s 0 0 hw_nof) (F0 m 78 ls [.int t0]) := by
  obtain ⟨hx, hb, hml, hr, hown, hts, hlk, hE, hnm⟩ := id C0
  have hown : s.vm.findClass RX11 = some m.cls := hown
  have hK := hE.1
  unfold m11_bears_b78 at hm
  exact hw_rRI hx hb hr hlk hm dX11_bears_78
def m11_bears (x0 : Nat) (l1 : Int32) (l2 : Int32) (l3 : Int32) (l4 : Int32) (σ : hw_S) : Option Int32 :=
  (hw_rv (hw_q 11) (some x0) σ).bind fun a2 =>
  (m11_lawAt x0 l1 σ).bind fun v2 =>
  (hw_rv (hw_q 11) (some x0) σ).bind fun a9 =>
  (m11_stuffAt x0 l2 σ).bind fun v9 =>
  (if v2 = none then
  m11_bears_b24 x0 σ
  else
  (if v9 = none then
  m11_bears_b24 x0 σ
  else
  (m11_isDoing l3).bind fun v27 =>
  (if v27 = 0 then
  m11_bears_b44 x0 σ
  else
  (m11_isWithin l4 ((-1) : Int32) (20 : Int32)).bind fun v38 =>
  (if v38 = 0 then
  m11_bears_b44 x0 σ
  else
  (m11_greatestBorne v2 v9 l3 σ).bind fun v52 =>
  (if l4 = ((-1) : Int32) then
  some v52
  else
  (if v52 < l4 then
  m11_bears_b78 x0 (0 : Int32) σ
  else
  m11_bears_b78 x0 (1 : Int32) σ))))))
set_option maxRecDepth 100000 in
theorem w11_bears_s {p : Program} {l : Launch} {e : Env} {s : State} {m : MethodId} {args : Array Value} {below : List Frame} {meth : Method} {c : Code} {D : hw_D} {b : Nat} {x0 : Nat} {l1 : Int32} {l2 : Int32} {l3 : Int32} {l4 : Int32} {σ : hw_S} {r : Int32} (hm : m11_bears x0 l1 l2 l3 l4 σ = some r) (C0 : hw_C p s m args meth c D yX11_bears cX11_bears 8 (some .int)) (hR : hw_R D b σ s.heap) {ls : Array Slot} (hl : hw_L ls 8 255 [(0, hw_vr b (some x0)), (1, .int l1), (2, .int l2), (3, .int l3), (4, .int l4)]) : W p l e rm11_bears s m args below meth c s.heap [] 0 0 (MQ below (hw_RI r) args s 0 0 hw_nof) (F0 m 0 ls []) := by
  obtain ⟨hx, hb, hml, hr, hown, hts, hlk, hE, hnm⟩ := id C0
  have hown : s.vm.findClass RX11 = some m.cls := hown
  have hK := hE.1
  unfold m11_bears at hm
  refine hw_aload_n hx hb dX11_bears_0 rfl (hl.at 0 rfl) ?_
  refine lv_iload_n hx hb dX11_bears_1 rfl (hl.at 1 rfl) ?_
  obtain ⟨a2, g2, hm⟩ := hw_bs hm
  obtain ⟨rfl, ht2⟩ := hw_rv_th g2
  obtain ⟨v2, e2, hm⟩ := hw_bs hm
  refine hw_cRP (va_runV (As := [.int l1]) (rest := []) ⟨hx, hb, hml, hown, hts⟩ (c11_lawAt l D b e2) (cwV 1 hts (hw_gV hw_m426 hw_m427 hw_m428 hw_m2 hw_m429) rfl rfl rfl (by decide +kernel) ⟨(Nat.le_of_ble_eq_true rfl), (Nat.le_of_ble_eq_true rfl)⟩) (hw_preV (ci := 11) hE hR rfl (by decide) (hw_q_of ht2)) rfl rfl hl.sz rfl (lv_room (Nat.le_of_ble_eq_true rfl)) dX11_bears_2 ⟨(Nat.le_of_ble_eq_true rfl), (Nat.le_of_ble_eq_true rfl)⟩) ?_
  refine hw_asto (lv' := [(5, hw_vr b v2), (0, hw_vr b (some x0)), (1, .int l1), (2, .int l2), (3, .int l3), (4, .int l4)]) hx hb dX11_bears_5 hl (by decide) (by decide) rfl (fun ls hl => ?_)
  refine hw_aload_n hx hb dX11_bears_7 rfl (hl.at 1 rfl) ?_
  refine lv_iload_n hx hb dX11_bears_8 rfl (hl.at 3 rfl) ?_
  obtain ⟨a9, g9, hm⟩ := hw_bs hm
  obtain ⟨rfl, ht9⟩ := hw_rv_th g9
  obtain ⟨v9, e9, hm⟩ := hw_bs hm
  refine hw_cRP (va_runV (As := [.int l2]) (rest := []) ⟨hx, hb, hml, hown, hts⟩ (c11_stuffAt l D b e9) (cwV 1 hts (hw_gV hw_m121 hw_m122 hw_m123 hw_m2 hw_m124) rfl rfl rfl (by decide +kernel) ⟨(Nat.le_of_ble_eq_true rfl), (Nat.le_of_ble_eq_true rfl)⟩) (hw_preV (ci := 11) hE hR rfl (by decide) (hw_q_of ht9)) rfl rfl hl.sz rfl (lv_room (Nat.le_of_ble_eq_true rfl)) dX11_bears_9 ⟨(Nat.le_of_ble_eq_true rfl), (Nat.le_of_ble_eq_true rfl)⟩) ?_
  refine hw_asto (lv' := [(6, hw_vr b v9), (5, hw_vr b v2), (0, hw_vr b (some x0)), (1, .int l1), (2, .int l2), (3, .int l3), (4, .int l4)]) hx hb dX11_bears_12 hl (by decide) (by decide) rfl (fun ls hl => ?_)
  refine hw_aload hx hb dX11_bears_14 (hl.at 1 rfl) ?_
  refine hw_ifnull (tgt := 24) hx hb dX11_bears_16 (by decide) (fun c16 => ?_) (fun c16 => ?_)
  · have hm := hw_ip hm c16
    exact w11_bears_b24 C0 hm hR (hl.sub [2] rfl)
  · have hm := hw_in hm c16
    refine hw_aload hx hb dX11_bears_19 (hl.at 0 rfl) ?_
    refine hw_ifnonnull (tgt := 26) hx hb dX11_bears_21 (by decide) (fun c21 => ?_) (fun c21 => ?_)
    · have hm := hw_in hm c21
      refine lv_iload_n hx hb dX11_bears_26 rfl (hl.at 5 rfl) ?_
      obtain ⟨v27, e27, hm⟩ := hw_bs hm
      refine hw_cRI (va_runS (As := [.int l3]) (rest := []) ⟨hx, hb, hml, hown, hts⟩ (c11_isDoing l D e27) (cwS 1 hts (hw_gS hw_m442 hw_m443 hw_m2 hw_m444) rfl rfl rfl (by decide +kernel) ⟨(Nat.le_of_ble_eq_true rfl), (Nat.le_of_ble_eq_true rfl)⟩) (hw_pre0 hE) rfl rfl hl.sz rfl (lv_room (Nat.le_of_ble_eq_true rfl)) dX11_bears_27 ⟨(Nat.le_of_ble_eq_true rfl), (Nat.le_of_ble_eq_true rfl)⟩) ?_
      refine lv_if_eq (tgt := 44) hx hb dX11_bears_30 (by decide) (fun c30 => ?_) (fun c30 => ?_)
      · have hm := hw_ip hm c30
        exact w11_bears_b44 C0 hm hR (hl.sub [2] rfl)
      · have hm := hw_in hm c30
        refine lv_iload hx hb dX11_bears_33 (hl.at 6 rfl) ?_
        refine lv_iconst (v := (-1)) hx hb dX11_bears_35 (by decide) ?_
        refine lv_bipush (v := 20) hx hb dX11_bears_36 (by decide) ?_
        obtain ⟨v38, e38, hm⟩ := hw_bs hm
        refine hw_cRI (va_runS (As := [.int l4, .int ((-1) : Int32), .int (20 : Int32)]) (rest := []) ⟨hx, hb, hml, hown, hts⟩ (c11_isWithin l D e38) (cwS 3 hts (hw_gS hw_m99 hw_m100 hw_m2 hw_m101) rfl rfl rfl (by decide +kernel) ⟨(Nat.le_of_ble_eq_true rfl), (Nat.le_of_ble_eq_true rfl)⟩) (hw_pre0 hE) rfl rfl hl.sz rfl (lv_room (Nat.le_of_ble_eq_true rfl)) dX11_bears_38 ⟨(Nat.le_of_ble_eq_true rfl), (Nat.le_of_ble_eq_true rfl)⟩) ?_
        refine lv_if_ne (tgt := 47) hx hb dX11_bears_41 (by decide) (fun c41 => ?_) (fun c41 => ?_)
        · have hm := hw_in hm c41
          refine hw_aload hx hb dX11_bears_47 (hl.at 1 rfl) ?_
          refine hw_aload hx hb dX11_bears_49 (hl.at 0 rfl) ?_
          refine lv_iload_n hx hb dX11_bears_51 rfl (hl.at 5 rfl) ?_
          obtain ⟨v52, e52, hm⟩ := hw_bs hm
          refine hw_cRI (va_runS (As := [hw_vr b v2, hw_vr b v9, .int l3]) (rest := []) ⟨hx, hb, hml, hown, hts⟩ (c11_greatestBorne l D b e52) (cwS 3 hts (hw_gS hw_m794 hw_m795 hw_m2 hw_m796) rfl rfl rfl (by decide +kernel) ⟨(Nat.le_of_ble_eq_true rfl), (Nat.le_of_ble_eq_true rfl)⟩) (hw_pre1 hE hR) rfl rfl hl.sz rfl (lv_room (Nat.le_of_ble_eq_true rfl)) dX11_bears_52 ⟨(Nat.le_of_ble_eq_true rfl), (Nat.le_of_ble_eq_true rfl)⟩) ?_
          refine hw_istore (lv' := [(7, .int v52), (6, hw_vr b v9), (5, hw_vr b v2), (0, hw_vr b (some x0)), (1, .int l1), (2, .int l2), (3, .int l3), (4, .int l4)]) hx hb dX11_bears_55 hl (by decide) (by decide) rfl (fun ls hl => ?_)
          refine lv_iload hx hb dX11_bears_57 (hl.at 7 rfl) ?_
          refine lv_iconst (v := (-1)) hx hb dX11_bears_59 (by decide) ?_
          refine lv_icmp_ne (tgt := 66) hx hb dX11_bears_60 (by decide) (fun c60 => ?_) (fun c60 => ?_)
          · have hm := hw_in hm c60
            refine lv_iload hx hb dX11_bears_66 (hl.at 7 rfl) ?_
            refine lv_iload hx hb dX11_bears_68 (hl.at 0 rfl) ?_
            refine lv_icmp_gt (tgt := 77) hx hb dX11_bears_70 (by decide) (fun c70 => ?_) (fun c70 => ?_)
            · have hm := hw_ip hm c70
              refine lv_iconst (v := 0) hx hb dX11_bears_77 (by decide) ?_
              exact w11_bears_b78 C0 hm hR (hl.sub [3] rfl)
            · have hm := hw_in hm c70
              refine lv_iconst (v := 1) hx hb dX11_bears_73 (by decide) ?_
              refine lv_goto (tgt := 78) hx hb dX11_bears_74 (by decide) ?_
              exact w11_bears_b78 C0 hm hR (hl.sub [3] rfl)
          · have hm := hw_ip hm c60
            refine lv_iload hx hb dX11_bears_63 (hl.at 0 rfl) ?_
            exact hw_rRI hx hb hr hlk hm dX11_bears_65
        · have hm := hw_ip hm c41
          exact w11_bears_b44 C0 hm hR (hl.sub [2] rfl)
    · have hm := hw_ip hm c21
      exact w11_bears_b24 C0 hm hR (hl.sub [2] rfl)
set_option maxRecDepth 100000 in
theorem c11_bears (l : Launch) (D : hw_D) (b : Nat) {x0 : Nat} {l1 : Int32} {l2 : Int32} {l3 : Int32} {l4 : Int32} {σ : hw_S} {r : Int32} (hm : m11_bears x0 l1 l2 l3 l4 σ = some r) : Met l yX11_bears (Cond.code yX11_bears cX11_bears 8 (some .int) :: wsL_law) rm11_bears (hw_P1 D b σ [hw_vr b (some x0), .int l1, .int l2, .int l3, .int l4]) (hw_RI r) 0 0 hw_nof := by
  refine hw_start1 (by decide +kernel) (by exact Nat.le_of_ble_eq_true rfl) ?_
  intro p e s m below meth c ls C0 hR hS hl
  have hl : lv_has ls 8 [(0, hw_vr b (some x0)), (1, .int l1), (2, .int l2), (3, .int l3), (4, .int l4)] := by exact hl
  exact w11_bears_s hm C0 hR ⟨hl, (List.forall_mem_cons.mpr ⟨(fun h => by rw [show (hw_vr b (some x0) : Value).category = 1 from (hw_vr_cat _ _)] at h; cases h), (List.forall_mem_cons.mpr ⟨(fun h => absurd (show (1 : Nat) = 2 from h) (by decide)), (List.forall_mem_cons.mpr ⟨(fun h => absurd (show (1 : Nat) = 2 from h) (by decide)), (List.forall_mem_cons.mpr ⟨(fun h => absurd (show (1 : Nat) = 2 from h) (by decide)), (List.forall_mem_cons.mpr ⟨(fun h => absurd (show (1 : Nat) = 2 from h) (by decide)), (fun _ h => absurd h List.not_mem_nil)⟩)⟩)⟩)⟩)⟩)⟩

abbrev rm12_doesBear : Room := { frames := 5, cells := 0, slots := 0, locals := 135 }
def m12_doesBear_b93 (k38 : Nat → Int32 → Int32 → Int32 → Int32 → Int32 → Int32 → Int32 → Int32 → hw_S → Option (Int32 × hw_S)) (x0 : Nat) (l1 : Int32) (l2 : Int32) (l3 : Int32) (l4 : Int32) (l5 : Int32) (l6 : Int32) (l8 : Int32) (t0 : Int32) (σ : hw_S) : Option (Int32 × hw_S) :=
  k38 x0 l1 l2 l3 l4 l5 l6 t0 (l8 + 1) σ
set_option maxRecDepth 100000 in
theorem w12_doesBear_b93 {p : Program} {l : Launch} {e : Env} {s : State} {m : MethodId} {args : Array Value} {below : List Frame} {meth : Method} {c : Code} {D : hw_D} {b : Nat} {k38 : Nat → Int32 → Int32 → Int32 → Int32 → Int32 → Int32 → Int32 → Int32 → hw_S → Option (Int32 × hw_S)} {r : Int32} {τ : hw_S} (C0 : hw_C p s m args meth c D yX12_doesBear cX12_doesBear 9 (some .boolean)) (hk38 : ∀ {x0 : Nat} {l1 : Int32} {l2 : Int32} {l3 : Int32} {l4 : Int32} {l5 : Int32} {l6 : Int32} {l7 : Int32} {l8 : Int32} {σ : hw_S} {H : Heap} {locs : List Loc} {ls : Array Slot}, k38 x0 l1 l2 l3 l4 l5 l6 l7 l8 σ = some (r, τ) → hw_R D b σ H → va_S (fun q => b ≤ q) s.heap H locs → hw_L ls 9 255 [(0, hw_vr b (some x0)), (1, .int l1), (2, .int l2), (3, .int l3), (4, .int l4), (5, .int l5), (6, .int l6), (7, .int l7), (8, .int l8)] → W p l e rm12_doesBear s m args below meth c H locs 0 0 (MQ below (hw_QI D b τ r) args s 0 0 (fun q => b ≤ q)) (F0 m 38 ls [])) {x0 : Nat} {l1 : Int32} {l2 : Int32} {l3 : Int32} {l4 : Int32} {l5 : Int32} {l6 : Int32} {l8 : Int32} {t0 : Int32} {σ : hw_S} {H : Heap} {locs : List Loc} (hm : m12_doesBear_b93 k38 x0 l1 l2 l3 l4 l5 l6 l8 t0 σ = some (r, τ)) (hR : hw_R D b σ H) (hS : va_S (fun q => b ≤ q) s.heap H locs) {ls : Array Slot} (hl : hw_L ls 9 255 [(0, hw_vr b (some x0)), (1, .int l1), (2, .int l2), (3, .int l3), (4, .int l4), (5, .int l5), (6, .int l6), (8, .int l8)]) : W p l e rm12_doesBear s m args below meth c H locs 0 0 (MQ below (hw_QI D b τ r) args s 0 0 (fun q => b ≤ q)) (F0 m 93 ls [.int t0]) := by
  obtain ⟨hx, hb, hml, hr, hown, hts, hlk, hE, hnm⟩ := id C0
  have hown : s.vm.findClass RX12 = some m.cls := hown
  have hK := hE.1
  unfold m12_doesBear_b93 at hm
  refine hw_istore (lv' := [(7, .int t0), (0, hw_vr b (some x0)), (1, .int l1), (2, .int l2), (3, .int l3), (4, .int l4), (5, .int l5), (6, .int l6), (8, .int l8)]) hx hb dX12_doesBear_93 hl (by decide) (by decide) rfl (fun ls hl => ?_)
  refine hw_iinc (v := (l8 + 1)) (lv' := [(8, .int (l8 + 1)), (7, .int t0), (0, hw_vr b (some x0)), (1, .int l1), (2, .int l2), (3, .int l3), (4, .int l4), (5, .int l5), (6, .int l6)]) hx hb dX12_doesBear_95 hl (k := 8) rfl rfl (by decide) (by decide) rfl (fun ls hl => ?_)
  refine lv_goto (tgt := 38) hx hb dX12_doesBear_98 (by decide) ?_
  exact hk38 hm hR hS (hl.sub [2, 3, 4, 5, 6, 7, 8, 1, 0] rfl)
def m12_doesBear_b92 (k38 : Nat → Int32 → Int32 → Int32 → Int32 → Int32 → Int32 → Int32 → Int32 → hw_S → Option (Int32 × hw_S)) (x0 : Nat) (l1 : Int32) (l2 : Int32) (l3 : Int32) (l4 : Int32) (l5 : Int32) (l6 : Int32) (l8 : Int32) (σ : hw_S) : Option (Int32 × hw_S) :=
  m12_doesBear_b93 k38 x0 l1 l2 l3 l4 l5 l6 l8 (0 : Int32) σ
set_option maxRecDepth 100000 in
theorem w12_doesBear_b92 {p : Program} {l : Launch} {e : Env} {s : State} {m : MethodId} {args : Array Value} {below : List Frame} {meth : Method} {c : Code} {D : hw_D} {b : Nat} {k38 : Nat → Int32 → Int32 → Int32 → Int32 → Int32 → Int32 → Int32 → Int32 → hw_S → Option (Int32 × hw_S)} {r : Int32} {τ : hw_S} (C0 : hw_C p s m args meth c D yX12_doesBear cX12_doesBear 9 (some .boolean)) (hk38 : ∀ {x0 : Nat} {l1 : Int32} {l2 : Int32} {l3 : Int32} {l4 : Int32} {l5 : Int32} {l6 : Int32} {l7 : Int32} {l8 : Int32} {σ : hw_S} {H : Heap} {locs : List Loc} {ls : Array Slot}, k38 x0 l1 l2 l3 l4 l5 l6 l7 l8 σ = some (r, τ) → hw_R D b σ H → va_S (fun q => b ≤ q) s.heap H locs → hw_L ls 9 255 [(0, hw_vr b (some x0)), (1, .int l1), (2, .int l2), (3, .int l3), (4, .int l4), (5, .int l5), (6, .int l6), (7, .int l7), (8, .int l8)] → W p l e rm12_doesBear s m args below meth c H locs 0 0 (MQ below (hw_QI D b τ r) args s 0 0 (fun q => b ≤ q)) (F0 m 38 ls [])) {x0 : Nat} {l1 : Int32} {l2 : Int32} {l3 : Int32} {l4 : Int32} {l5 : Int32} {l6 : Int32} {l8 : Int32} {σ : hw_S} {H : Heap} {locs : List Loc} (hm : m12_doesBear_b92 k38 x0 l1 l2 l3 l4 l5 l6 l8 σ = some (r, τ)) (hR : hw_R D b σ H) (hS : va_S (fun q => b ≤ q) s.heap H locs) {ls : Array Slot} (hl : hw_L ls 9 255 [(0, hw_vr b (some x0)), (1, .int l1), (2, .int l2), (3, .int l3), (4, .int l4), (5, .int l5), (6, .int l6), (8, .int l8)]) : W p l e rm12_doesBear s m args below meth c H locs 0 0 (MQ below (hw_QI D b τ r) args s 0 0 (fun q => b ≤ q)) (F0 m 92 ls []) := by
  obtain ⟨hx, hb, hml, hr, hown, hts, hlk, hE, hnm⟩ := id C0
  have hown : s.vm.findClass RX12 = some m.cls := hown
  have hK := hE.1
  unfold m12_doesBear_b92 at hm
  refine lv_iconst (v := 0) hx hb dX12_doesBear_92 (by decide) ?_
  exact w12_doesBear_b93 C0 hk38 hm hR hS (hl.sub [0, 1, 2, 3, 4, 5, 6, 7] rfl)
def m12_doesBear_b88 (k38 : Nat → Int32 → Int32 → Int32 → Int32 → Int32 → Int32 → Int32 → Int32 → hw_S → Option (Int32 × hw_S)) (x0 : Nat) (l1 : Int32) (l2 : Int32) (l3 : Int32) (l4 : Int32) (l5 : Int32) (l6 : Int32) (l8 : Int32) (σ : hw_S) : Option (Int32 × hw_S) :=
  m12_doesBear_b93 k38 x0 l1 l2 l3 l4 l5 l6 l8 (1 : Int32) σ
set_option maxRecDepth 100000 in
theorem w12_doesBear_b88 {p : Program} {l : Launch} {e : Env} {s : State} {m : MethodId} {args : Array Value} {below : List Frame} {meth : Method} {c : Code} {D : hw_D} {b : Nat} {k38 : Nat → Int32 → Int32 → Int32 → Int32 → Int32 → Int32 → Int32 → Int32 → hw_S → Option (Int32 × hw_S)} {r : Int32} {τ : hw_S} (C0 : hw_C p s m args meth c D yX12_doesBear cX12_doesBear 9 (some .boolean)) (hk38 : ∀ {x0 : Nat} {l1 : Int32} {l2 : Int32} {l3 : Int32} {l4 : Int32} {l5 : Int32} {l6 : Int32} {l7 : Int32} {l8 : Int32} {σ : hw_S} {H : Heap} {locs : List Loc} {ls : Array Slot}, k38 x0 l1 l2 l3 l4 l5 l6 l7 l8 σ = some (r, τ) → hw_R D b σ H → va_S (fun q => b ≤ q) s.heap H locs → hw_L ls 9 255 [(0, hw_vr b (some x0)), (1, .int l1), (2, .int l2), (3, .int l3), (4, .int l4), (5, .int l5), (6, .int l6), (7, .int l7), (8, .int l8)] → W p l e rm12_doesBear s m args below meth c H locs 0 0 (MQ below (hw_QI D b τ r) args s 0 0 (fun q => b ≤ q)) (F0 m 38 ls [])) {x0 : Nat} {l1 : Int32} {l2 : Int32} {l3 : Int32} {l4 : Int32} {l5 : Int32} {l6 : Int32} {l8 : Int32} {σ : hw_S} {H : Heap} {locs : List Loc} (hm : m12_doesBear_b88 k38 x0 l1 l2 l3 l4 l5 l6 l8 σ = some (r, τ)) (hR : hw_R D b σ H) (hS : va_S (fun q => b ≤ q) s.heap H locs) {ls : Array Slot} (hl : hw_L ls 9 255 [(0, hw_vr b (some x0)), (1, .int l1), (2, .int l2), (3, .int l3), (4, .int l4), (5, .int l5), (6, .int l6), (8, .int l8)]) : W p l e rm12_doesBear s m args below meth c H locs 0 0 (MQ below (hw_QI D b τ r) args s 0 0 (fun q => b ≤ q)) (F0 m 88 ls []) := by
  obtain ⟨hx, hb, hml, hr, hown, hts, hlk, hE, hnm⟩ := id C0
  have hown : s.vm.findClass RX12 = some m.cls := hown
  have hK := hE.1
  unfold m12_doesBear_b88 at hm
  refine lv_iconst (v := 1) hx hb dX12_doesBear_88 (by decide) ?_
  refine lv_goto (tgt := 93) hx hb dX12_doesBear_89 (by decide) ?_
  exact w12_doesBear_b93 C0 hk38 hm hR hS (hl.sub [0, 1, 2, 3, 4, 5, 6, 7] rfl)
def m12_doesBear_b38 : Nat → Nat → Int32 → Int32 → Int32 → Int32 → Int32 → Int32 → Int32 → Int32 → hw_S → Option (Int32 × hw_S)
  | 0, _, _, _, _, _, _, _, _, _, _ => none
  | n + 1, x0, l1, l2, l3, l4, l5, l6, l7, l8, σ =>
  (if (l5 + l4) < l8 then
  (hw_tf l7).bind fun _ =>
  some (l7, σ)
  else
  (if l7 = 0 then
  m12_doesBear_b92 (m12_doesBear_b38 n) x0 l1 l2 l3 l4 l5 l6 l8 σ
  else
  (m12_in l8 (1 : Int32) (60 : Int32)).bind fun v58 =>
  (if v58 = 0 then
  m12_doesBear_b88 (m12_doesBear_b38 n) x0 l1 l2 l3 l4 l5 l6 l8 σ
  else
  (hw_dv l3 (100 : Int32)).bind fun v72 =>
  (hw_rm v72 (100 : Int32)).bind fun v75 =>
  (hw_rm l3 (100 : Int32)).bind fun v79 =>
  (hw_rv (hw_q 12) (some x0) σ).bind fun a80 =>
  hw_b2 (m12_formOf x0 l1 l2 l8 v75 v79 σ) fun v80 σ80 =>
  (if v80 = l6 then
  m12_doesBear_b88 (m12_doesBear_b38 n) x0 l1 l2 l3 l4 l5 l6 l8 σ80
  else
  m12_doesBear_b92 (m12_doesBear_b38 n) x0 l1 l2 l3 l4 l5 l6 l8 σ80))))
set_option maxRecDepth 100000 in
theorem w12_doesBear_b38 {p : Program} {l : Launch} {e : Env} {s : State} {m : MethodId} {args : Array Value} {below : List Frame} {meth : Method} {c : Code} {D : hw_D} {b : Nat} {r : Int32} {τ : hw_S} (C0 : hw_C p s m args meth c D yX12_doesBear cX12_doesBear 9 (some .boolean)) : ∀ (n : Nat) {x0 : Nat} {l1 : Int32} {l2 : Int32} {l3 : Int32} {l4 : Int32} {l5 : Int32} {l6 : Int32} {l7 : Int32} {l8 : Int32} {σ : hw_S} {H : Heap} {locs : List Loc} {ls : Array Slot}, m12_doesBear_b38 n x0 l1 l2 l3 l4 l5 l6 l7 l8 σ = some (r, τ) → hw_R D b σ H → va_S (fun q => b ≤ q) s.heap H locs → hw_L ls 9 255 [(0, hw_vr b (some x0)), (1, .int l1), (2, .int l2), (3, .int l3), (4, .int l4), (5, .int l5), (6, .int l6), (7, .int l7), (8, .int l8)] → W p l e rm12_doesBear s m args below meth c H locs 0 0 (MQ below (hw_QI D b τ r) args s 0 0 (fun q => b ≤ q)) (F0 m 38 ls []) := by
  obtain ⟨hx, hb, hml, hr, hown, hts, hlk, hE, hnm⟩ := id C0
  have hown : s.vm.findClass RX12 = some m.cls := hown
  have hK := hE.1
  intro n
  induction n with
  | zero => intro _ _ _ _ _ _ _ _ _ _ _ _ _ hm; cases hm
  | succ n ih =>
    intro x0 l1 l2 l3 l4 l5 l6 l7 l8 σ H locs ls hm hR hS hl
    rw [m12_doesBear_b38] at hm
    refine lv_iload hx hb dX12_doesBear_38 (hl.at 8 rfl) ?_
    refine lv_iload hx hb dX12_doesBear_40 (hl.at 5 rfl) ?_
    refine lv_iload hx hb dX12_doesBear_42 (hl.at 4 rfl) ?_
    refine lv_iadd hx hb dX12_doesBear_44 ?_
    refine lv_icmp_gt (tgt := 101) hx hb dX12_doesBear_45 (by decide) (fun c45 => ?_) (fun c45 => ?_)
    · have hm := hw_ip hm c45
      refine lv_iload hx hb dX12_doesBear_101 (hl.at 7 rfl) ?_
      obtain ⟨_, z103, hm⟩ := hw_bs hm
      exact hw_rWZ hx hb hr hlk hR hS z103 hm dX12_doesBear_103
    · have hm := hw_in hm c45
      refine lv_iload hx hb dX12_doesBear_48 (hl.at 7 rfl) ?_
      refine lv_if_eq (tgt := 92) hx hb dX12_doesBear_50 (by decide) (fun c50 => ?_) (fun c50 => ?_)
      · have hm := hw_ip hm c50
        exact w12_doesBear_b92 C0 ih hm hR hS (hl.sub [0, 1, 2, 3, 4, 5, 6, 8] rfl)
      · have hm := hw_in hm c50
        refine lv_iload hx hb dX12_doesBear_53 (hl.at 8 rfl) ?_
        refine lv_iconst (v := 1) hx hb dX12_doesBear_55 (by decide) ?_
        refine lv_bipush (v := 60) hx hb dX12_doesBear_56 (by decide) ?_
        obtain ⟨v58, e58, hm⟩ := hw_bs hm
        refine hw_cRI (va_runS (As := [.int l8, .int (1 : Int32), .int (60 : Int32)]) (rest := []) ⟨hx, hb, hml, hown, hts⟩ (c12_in l D e58) (cwS 3 hts (hw_gS hw_m112 hw_m113 hw_m5 hw_m114) rfl rfl rfl (by decide +kernel) ⟨(Nat.le_of_ble_eq_true rfl), (Nat.le_of_ble_eq_true rfl)⟩) (hw_pre0 hE) rfl rfl hl.sz rfl (lv_room (Nat.le_of_ble_eq_true rfl)) dX12_doesBear_58 ⟨(Nat.le_of_ble_eq_true rfl), (Nat.le_of_ble_eq_true rfl)⟩) ?_
        refine lv_if_eq (tgt := 88) hx hb dX12_doesBear_61 (by decide) (fun c61 => ?_) (fun c61 => ?_)
        · have hm := hw_ip hm c61
          exact w12_doesBear_b88 C0 ih hm hR hS (hl.sub [0, 1, 2, 3, 4, 5, 6, 8] rfl)
        · have hm := hw_in hm c61
          refine hw_aload_n hx hb dX12_doesBear_64 rfl (hl.at 0 rfl) ?_
          refine lv_iload_n hx hb dX12_doesBear_65 rfl (hl.at 1 rfl) ?_
          refine lv_iload_n hx hb dX12_doesBear_66 rfl (hl.at 2 rfl) ?_
          refine lv_iload hx hb dX12_doesBear_67 (hl.at 8 rfl) ?_
          refine lv_iload_n hx hb dX12_doesBear_69 rfl (hl.at 3 rfl) ?_
          refine lv_bipush (v := 100) hx hb dX12_doesBear_70 (by decide) ?_
          obtain ⟨v72, e72, hm⟩ := hw_bs hm
          refine hw_idiv hx hb e72 dX12_doesBear_72 ?_
          refine lv_bipush (v := 100) hx hb dX12_doesBear_73 (by decide) ?_
          obtain ⟨v75, e75, hm⟩ := hw_bs hm
          refine hw_irem hx hb e75 dX12_doesBear_75 ?_
          refine lv_iload_n hx hb dX12_doesBear_76 rfl (hl.at 3 rfl) ?_
          refine lv_bipush (v := 100) hx hb dX12_doesBear_77 (by decide) ?_
          obtain ⟨v79, e79, hm⟩ := hw_bs hm
          refine hw_irem hx hb e79 dX12_doesBear_79 ?_
          obtain ⟨a80, g80, hm⟩ := hw_bs hm
          obtain ⟨rfl, ht80⟩ := hw_rv_th g80
          obtain ⟨v80, σ80, e80, hm⟩ := hw_bs2 hm
          refine hw_cWI (va_runV (As := [.int l1, .int l2, .int l8, .int v75, .int v79]) (rest := []) ⟨hx, hb, hml, hown, hts⟩ (c12_formOf l D b e80) (cwV 5 hts (hw_gV hw_m592 hw_m593 hw_m594 hw_m5 hw_m595) rfl rfl rfl (by decide +kernel) ⟨(Nat.le_of_ble_eq_true rfl), (Nat.le_of_ble_eq_true rfl)⟩) (hw_preV (ci := 12) hE hR rfl (by decide) (hw_q_of ht80)) rfl rfl hl.sz rfl (lv_room (Nat.le_of_ble_eq_true rfl)) dX12_doesBear_80 ⟨(Nat.le_of_ble_eq_true rfl), (Nat.le_of_ble_eq_true rfl)⟩) hS (fun _ _ hR hS => ?_)
          refine lv_iload hx hb dX12_doesBear_83 (hl.at 6 rfl) ?_
          refine lv_icmp_ne (tgt := 92) hx hb dX12_doesBear_85 (by decide) (fun c85 => ?_) (fun c85 => ?_)
          · have hm := hw_in hm c85
            exact w12_doesBear_b92 C0 ih hm hR hS (hl.sub [0, 1, 2, 3, 4, 5, 6, 8] rfl)
          · have hm := hw_ip hm c85
            exact w12_doesBear_b88 C0 ih hm hR hS (hl.sub [0, 1, 2, 3, 4, 5, 6, 8] rfl)
def m12_doesBear (x0 : Nat) (l1 : Int32) (l2 : Int32) (l3 : Int32) (l4 : Int32) (σ : hw_S) : Option (Int32 × hw_S) :=
  (hw_dv l3 (10000 : Int32)).bind fun v4 =>
  (hw_dv l3 (100 : Int32)).bind fun v15 =>
  (hw_rm v15 (100 : Int32)).bind fun v18 =>
  (hw_rm l3 (100 : Int32)).bind fun v22 =>
  (hw_rv (hw_q 12) (some x0) σ).bind fun a23 =>
  hw_b2 (m12_formOf x0 l1 l2 v4 v18 v22 σ) fun v23 σ23 =>
  m12_doesBear_b38 hw_fu x0 l1 l2 l3 l4 v4 v23 (1 : Int32) (v4 - l4) σ23
set_option maxRecDepth 100000 in
theorem w12_doesBear_s {p : Program} {l : Launch} {e : Env} {s : State} {m : MethodId} {args : Array Value} {below : List Frame} {meth : Method} {c : Code} {D : hw_D} {b : Nat} {x0 : Nat} {l1 : Int32} {l2 : Int32} {l3 : Int32} {l4 : Int32} {σ : hw_S} {r : Int32} {τ : hw_S} {H : Heap} {locs : List Loc} (hm : m12_doesBear x0 l1 l2 l3 l4 σ = some (r, τ)) (C0 : hw_C p s m args meth c D yX12_doesBear cX12_doesBear 9 (some .boolean)) (hR : hw_R D b σ H) (hS : va_S (fun q => b ≤ q) s.heap H locs) {ls : Array Slot} (hl : hw_L ls 9 255 [(0, hw_vr b (some x0)), (1, .int l1), (2, .int l2), (3, .int l3), (4, .int l4)]) : W p l e rm12_doesBear s m args below meth c H locs 0 0 (MQ below (hw_QI D b τ r) args s 0 0 (fun q => b ≤ q)) (F0 m 0 ls []) := by
  obtain ⟨hx, hb, hml, hr, hown, hts, hlk, hE, hnm⟩ := id C0
  have hown : s.vm.findClass RX12 = some m.cls := hown
  have hK := hE.1
  unfold m12_doesBear at hm
  refine lv_iload_n hx hb dX12_doesBear_0 rfl (hl.at 3 rfl) ?_
  refine lv_sipush (v := 10000) hx hb dX12_doesBear_1 (by decide) ?_
  obtain ⟨v4, e4, hm⟩ := hw_bs hm
  refine hw_idiv hx hb e4 dX12_doesBear_4 ?_
  refine hw_istore (lv' := [(5, .int v4), (0, hw_vr b (some x0)), (1, .int l1), (2, .int l2), (3, .int l3), (4, .int l4)]) hx hb dX12_doesBear_5 hl (by decide) (by decide) rfl (fun ls hl => ?_)
  refine hw_aload_n hx hb dX12_doesBear_7 rfl (hl.at 1 rfl) ?_
  refine lv_iload_n hx hb dX12_doesBear_8 rfl (hl.at 2 rfl) ?_
  refine lv_iload_n hx hb dX12_doesBear_9 rfl (hl.at 3 rfl) ?_
  refine lv_iload hx hb dX12_doesBear_10 (hl.at 0 rfl) ?_
  refine lv_iload_n hx hb dX12_doesBear_12 rfl (hl.at 4 rfl) ?_
  refine lv_bipush (v := 100) hx hb dX12_doesBear_13 (by decide) ?_
  obtain ⟨v15, e15, hm⟩ := hw_bs hm
  refine hw_idiv hx hb e15 dX12_doesBear_15 ?_
  refine lv_bipush (v := 100) hx hb dX12_doesBear_16 (by decide) ?_
  obtain ⟨v18, e18, hm⟩ := hw_bs hm
  refine hw_irem hx hb e18 dX12_doesBear_18 ?_
  refine lv_iload_n hx hb dX12_doesBear_19 rfl (hl.at 4 rfl) ?_
  refine lv_bipush (v := 100) hx hb dX12_doesBear_20 (by decide) ?_
  obtain ⟨v22, e22, hm⟩ := hw_bs hm
  refine hw_irem hx hb e22 dX12_doesBear_22 ?_
  obtain ⟨a23, g23, hm⟩ := hw_bs hm
  obtain ⟨rfl, ht23⟩ := hw_rv_th g23
  obtain ⟨v23, σ23, e23, hm⟩ := hw_bs2 hm
  refine hw_cWI (va_runV (As := [.int l1, .int l2, .int v4, .int v18, .int v22]) (rest := []) ⟨hx, hb, hml, hown, hts⟩ (c12_formOf l D b e23) (cwV 5 hts (hw_gV hw_m592 hw_m593 hw_m594 hw_m5 hw_m595) rfl rfl rfl (by decide +kernel) ⟨(Nat.le_of_ble_eq_true rfl), (Nat.le_of_ble_eq_true rfl)⟩) (hw_preV (ci := 12) hE hR rfl (by decide) (hw_q_of ht23)) rfl rfl hl.sz rfl (lv_room (Nat.le_of_ble_eq_true rfl)) dX12_doesBear_23 ⟨(Nat.le_of_ble_eq_true rfl), (Nat.le_of_ble_eq_true rfl)⟩) hS (fun _ _ hR hS => ?_)
  refine hw_istore (lv' := [(6, .int v23), (5, .int v4), (0, hw_vr b (some x0)), (1, .int l1), (2, .int l2), (3, .int l3), (4, .int l4)]) hx hb dX12_doesBear_26 hl (by decide) (by decide) rfl (fun ls hl => ?_)
  refine lv_iconst (v := 1) hx hb dX12_doesBear_28 (by decide) ?_
  refine hw_istore (lv' := [(7, .int (1 : Int32)), (6, .int v23), (5, .int v4), (0, hw_vr b (some x0)), (1, .int l1), (2, .int l2), (3, .int l3), (4, .int l4)]) hx hb dX12_doesBear_29 hl (by decide) (by decide) rfl (fun ls hl => ?_)
  refine lv_iload hx hb dX12_doesBear_31 (hl.at 2 rfl) ?_
  refine lv_iload hx hb dX12_doesBear_33 (hl.at 7 rfl) ?_
  refine lv_isub hx hb dX12_doesBear_35 ?_
  refine hw_istore (lv' := [(8, .int (v4 - l4)), (7, .int (1 : Int32)), (6, .int v23), (5, .int v4), (0, hw_vr b (some x0)), (1, .int l1), (2, .int l2), (3, .int l3), (4, .int l4)]) hx hb dX12_doesBear_36 hl (by decide) (by decide) rfl (fun ls hl => ?_)
  exact w12_doesBear_b38 C0 hw_fu hm hR hS (hl.sub [4, 5, 6, 7, 8, 3, 2, 1, 0] rfl)
set_option maxRecDepth 100000 in
theorem c12_doesBear (l : Launch) (D : hw_D) (b : Nat) {x0 : Nat} {l1 : Int32} {l2 : Int32} {l3 : Int32} {l4 : Int32} {σ : hw_S} {r : Int32} {τ : hw_S} (hm : m12_doesBear x0 l1 l2 l3 l4 σ = some (r, τ)) : Met l yX12_doesBear (Cond.code yX12_doesBear cX12_doesBear 9 (some .boolean) :: wsL_law) rm12_doesBear (hw_P1 D b σ [hw_vr b (some x0), .int l1, .int l2, .int l3, .int l4]) (hw_QI D b τ r) 0 0 (fun q => b ≤ q) := by
  refine hw_start1 (by decide +kernel) (by exact Nat.le_of_ble_eq_true rfl) ?_
  intro p e s m below meth c ls C0 hR hS hl
  have hl : lv_has ls 9 [(0, hw_vr b (some x0)), (1, .int l1), (2, .int l2), (3, .int l3), (4, .int l4)] := by exact hl
  exact w12_doesBear_s hm C0 hR hS ⟨hl, (List.forall_mem_cons.mpr ⟨(fun h => by rw [show (hw_vr b (some x0) : Value).category = 1 from (hw_vr_cat _ _)] at h; cases h), (List.forall_mem_cons.mpr ⟨(fun h => absurd (show (1 : Nat) = 2 from h) (by decide)), (List.forall_mem_cons.mpr ⟨(fun h => absurd (show (1 : Nat) = 2 from h) (by decide)), (List.forall_mem_cons.mpr ⟨(fun h => absurd (show (1 : Nat) = 2 from h) (by decide)), (List.forall_mem_cons.mpr ⟨(fun h => absurd (show (1 : Nat) = 2 from h) (by decide)), (fun _ h => absurd h List.not_mem_nil)⟩)⟩)⟩)⟩)⟩)⟩

abbrev rm12_bears : Room := { frames := 6, cells := 0, slots := 0, locals := 163 }
def m12_bears_b16 (x0 : Nat) (σ : hw_S) : Option (Int32 × hw_S) :=
  some (((-1) : Int32), σ)
set_option maxRecDepth 100000 in
theorem w12_bears_b16 {p : Program} {l : Launch} {e : Env} {s : State} {m : MethodId} {args : Array Value} {below : List Frame} {meth : Method} {c : Code} {D : hw_D} {b : Nat} {r : Int32} {τ : hw_S} (C0 : hw_C p s m args meth c D yX12_bears cX12_bears 6 (some .int)) {x0 : Nat} {σ : hw_S} {H : Heap} {locs : List Loc} (hm : m12_bears_b16 x0 σ = some (r, τ)) (hR : hw_R D b σ H) (hS : va_S (fun q => b ≤ q) s.heap H locs) {ls : Array Slot} (hl : hw_L ls 6 255 [(0, hw_vr b (some x0))]) : W p l e rm12_bears s m args below meth c H locs 0 0 (MQ below (hw_QI D b τ r) args s 0 0 (fun q => b ≤ q)) (F0 m 16 ls []) := by
  obtain ⟨hx, hb, hml, hr, hown, hts, hlk, hE, hnm⟩ := id C0
  have hown : s.vm.findClass RX12 = some m.cls := hown
  have hK := hE.1
  unfold m12_bears_b16 at hm
  refine lv_iconst (v := (-1)) hx hb dX12_bears_16 (by decide) ?_
  exact hw_rWI hx hb hr hlk hR hS hm dX12_bears_17
def m12_bears_b36 (x0 : Nat) (σ : hw_S) : Option (Int32 × hw_S) :=
  some (((-2) : Int32), σ)
set_option maxRecDepth 100000 in
theorem w12_bears_b36 {p : Program} {l : Launch} {e : Env} {s : State} {m : MethodId} {args : Array Value} {below : List Frame} {meth : Method} {c : Code} {D : hw_D} {b : Nat} {r : Int32} {τ : hw_S} (C0 : hw_C p s m args meth c D yX12_bears cX12_bears 6 (some .int)) {x0 : Nat} {σ : hw_S} {H : Heap} {locs : List Loc} (hm : m12_bears_b36 x0 σ = some (r, τ)) (hR : hw_R D b σ H) (hS : va_S (fun q => b ≤ q) s.heap H locs) {ls : Array Slot} (hl : hw_L ls 6 255 [(0, hw_vr b (some x0))]) : W p l e rm12_bears s m args below meth c H locs 0 0 (MQ below (hw_QI D b τ r) args s 0 0 (fun q => b ≤ q)) (F0 m 36 ls []) := by
  obtain ⟨hx, hb, hml, hr, hown, hts, hlk, hE, hnm⟩ := id C0
  have hown : s.vm.findClass RX12 = some m.cls := hown
  have hK := hE.1
  unfold m12_bears_b36 at hm
  refine lv_bipush (v := (-2)) hx hb dX12_bears_36 (by decide) ?_
  exact hw_rWI hx hb hr hlk hR hS hm dX12_bears_38
def m12_bears_b67 : Nat → Nat → Int32 → Int32 → Int32 → Int32 → hw_S → Option (Int32 × hw_S)
  | 0, _, _, _, _, _, _ => none
  | n + 1, x0, l1, l2, l3, l5, σ =>
  (hw_rv (hw_q 12) (some x0) σ).bind fun a73 =>
  hw_b2 (m12_doesBear x0 l1 l2 l3 l5 σ) fun v73 σ73 =>
  (if v73 = 0 then
  m12_bears_b67 n x0 l1 l2 l3 (l5 + (-1)) σ73
  else
  some (l5, σ73))
set_option maxRecDepth 100000 in
theorem w12_bears_b67 {p : Program} {l : Launch} {e : Env} {s : State} {m : MethodId} {args : Array Value} {below : List Frame} {meth : Method} {c : Code} {D : hw_D} {b : Nat} {r : Int32} {τ : hw_S} (C0 : hw_C p s m args meth c D yX12_bears cX12_bears 6 (some .int)) : ∀ (n : Nat) {x0 : Nat} {l1 : Int32} {l2 : Int32} {l3 : Int32} {l5 : Int32} {σ : hw_S} {H : Heap} {locs : List Loc} {ls : Array Slot}, m12_bears_b67 n x0 l1 l2 l3 l5 σ = some (r, τ) → hw_R D b σ H → va_S (fun q => b ≤ q) s.heap H locs → hw_L ls 6 255 [(0, hw_vr b (some x0)), (1, .int l1), (2, .int l2), (3, .int l3), (5, .int l5)] → W p l e rm12_bears s m args below meth c H locs 0 0 (MQ below (hw_QI D b τ r) args s 0 0 (fun q => b ≤ q)) (F0 m 67 ls []) := by
  obtain ⟨hx, hb, hml, hr, hown, hts, hlk, hE, hnm⟩ := id C0
  have hown : s.vm.findClass RX12 = some m.cls := hown
  have hK := hE.1
  intro n
  induction n with
  | zero => intro _ _ _ _ _ _ _ _ _ hm; cases hm
  | succ n ih =>
    intro x0 l1 l2 l3 l5 σ H locs ls hm hR hS hl
    rw [m12_bears_b67] at hm
    refine hw_aload_n hx hb dX12_bears_67 rfl (hl.at 0 rfl) ?_
    refine lv_iload_n hx hb dX12_bears_68 rfl (hl.at 1 rfl) ?_
    refine lv_iload_n hx hb dX12_bears_69 rfl (hl.at 2 rfl) ?_
    refine lv_iload_n hx hb dX12_bears_70 rfl (hl.at 3 rfl) ?_
    refine lv_iload hx hb dX12_bears_71 (hl.at 4 rfl) ?_
    obtain ⟨a73, g73, hm⟩ := hw_bs hm
    obtain ⟨rfl, ht73⟩ := hw_rv_th g73
    obtain ⟨v73, σ73, e73, hm⟩ := hw_bs2 hm
    refine hw_cWI (va_runV (As := [.int l1, .int l2, .int l3, .int l5]) (rest := []) ⟨hx, hb, hml, hown, hts⟩ (c12_doesBear l D b e73) (cwV 4 hts (hw_gV hw_m801 hw_m802 hw_m803 hw_m5 hw_m804) rfl rfl rfl (by decide +kernel) ⟨(Nat.le_of_ble_eq_true rfl), (Nat.le_of_ble_eq_true rfl)⟩) (hw_preV (ci := 12) hE hR rfl (by decide) (hw_q_of ht73)) rfl rfl hl.sz rfl (lv_room (Nat.le_of_ble_eq_true rfl)) dX12_bears_73 ⟨(Nat.le_of_ble_eq_true rfl), (Nat.le_of_ble_eq_true rfl)⟩) hS (fun _ _ hR hS => ?_)
    refine lv_if_ne (tgt := 85) hx hb dX12_bears_76 (by decide) (fun c76 => ?_) (fun c76 => ?_)
    · have hm := hw_in hm c76
      refine lv_iload hx hb dX12_bears_85 (hl.at 4 rfl) ?_
      exact hw_rWI hx hb hr hlk hR hS hm dX12_bears_87
    · have hm := hw_ip hm c76
      refine hw_iinc (v := (l5 + (-1))) (lv' := [(5, .int (l5 + (-1))), (0, hw_vr b (some x0)), (1, .int l1), (2, .int l2), (3, .int l3)]) hx hb dX12_bears_79 hl (k := 4) rfl rfl (by decide) (by decide) rfl (fun ls hl => ?_)
      refine lv_goto (tgt := 67) hx hb dX12_bears_82 (by decide) ?_
      exact ih hm hR hS (hl.sub [1, 2, 3, 4, 0] rfl)
def m12_bears_b62 (x0 : Nat) (t0 : Int32) (σ : hw_S) : Option (Int32 × hw_S) :=
  some (t0, σ)
set_option maxRecDepth 100000 in
theorem w12_bears_b62 {p : Program} {l : Launch} {e : Env} {s : State} {m : MethodId} {args : Array Value} {below : List Frame} {meth : Method} {c : Code} {D : hw_D} {b : Nat} {r : Int32} {τ : hw_S} (C0 : hw_C p s m args meth c D yX12_bears cX12_bears 6 (some .int)) {x0 : Nat} {t0 : Int32} {σ : hw_S} {H : Heap} {locs : List Loc} (hm : m12_bears_b62 x0 t0 σ = some (r, τ)) (hR : hw_R D b σ H) (hS : va_S (fun q => b ≤ q) s.heap H locs) {ls : Array Slot} (hl : hw_L ls 6 255 [(0, hw_vr b (some x0))]) : W p l e rm12_bears s m args below meth c H locs 0 0 (MQ below (hw_QI D b τ r) args s 0 0 (fun q => b ≤ q)) (F0 m 62 ls [.int t0]) := by
  obtain ⟨hx, hb, hml, hr, hown, hts, hlk, hE, hnm⟩ := id C0
  have hown : s.vm.findClass RX12 = some m.cls := hown
  have hK := hE.1
  unfold m12_bears_b62 at hm
  exact hw_rWI hx hb hr hlk hR hS hm dX12_bears_62
def m12_bears (x0 : Nat) (l1 : Int32) (l2 : Int32) (l3 : Int32) (l4 : Int32) (σ : hw_S) : Option (Int32 × hw_S) :=
  (hw_rv (hw_q 12) (some x0) σ).bind fun a2 =>
  (m12_isLaw x0 l1 σ).bind fun v2 =>
  (if v2 = 0 then
  m12_bears_b16 x0 σ
  else
  (hw_rv (hw_q 12) (some x0) σ).bind fun a10 =>
  (m12_isStuff x0 l2 σ).bind fun v10 =>
  (if v10 = 0 then
  m12_bears_b16 x0 σ
  else
  (m12_isDoing l3).bind fun v19 =>
  (if v19 = 0 then
  m12_bears_b36 x0 σ
  else
  (m12_in l4 ((-1) : Int32) (20 : Int32)).bind fun v30 =>
  (if v30 = 0 then
  m12_bears_b36 x0 σ
  else
  (if l4 = ((-1) : Int32) then
  m12_bears_b67 hw_fu x0 l1 l2 l3 (20 : Int32) σ
  else
  (hw_rv (hw_q 12) (some x0) σ).bind fun a51 =>
  hw_b2 (m12_doesBear x0 l1 l2 l3 l4 σ) fun v51 σ51 =>
  (if v51 = 0 then
  m12_bears_b62 x0 (0 : Int32) σ51
  else
  m12_bears_b62 x0 (1 : Int32) σ51))))))
set_option maxRecDepth 100000 in
theorem w12_bears_s {p : Program} {l : Launch} {e : Env} {s : State} {m : MethodId} {args : Array Value} {below : List Frame} {meth : Method} {c : Code} {D : hw_D} {b : Nat} {x0 : Nat} {l1 : Int32} {l2 : Int32} {l3 : Int32} {l4 : Int32} {σ : hw_S} {r : Int32} {τ : hw_S} {H : Heap} {locs : List Loc} (hm : m12_bears x0 l1 l2 l3 l4 σ = some (r, τ)) (C0 : hw_C p s m args meth c D yX12_bears cX12_bears 6 (some .int)) (hR : hw_R D b σ H) (hS : va_S (fun q => b ≤ q) s.heap H locs) {ls : Array Slot} (hl : hw_L ls 6 255 [(0, hw_vr b (some x0)), (1, .int l1), (2, .int l2), (3, .int l3), (4, .int l4)]) : W p l e rm12_bears s m args below meth c H locs 0 0 (MQ below (hw_QI D b τ r) args s 0 0 (fun q => b ≤ q)) (F0 m 0 ls []) := by
  obtain ⟨hx, hb, hml, hr, hown, hts, hlk, hE, hnm⟩ := id C0
  have hown : s.vm.findClass RX12 = some m.cls := hown
  have hK := hE.1
  unfold m12_bears at hm
  refine hw_aload_n hx hb dX12_bears_0 rfl (hl.at 0 rfl) ?_
  refine lv_iload_n hx hb dX12_bears_1 rfl (hl.at 1 rfl) ?_
  obtain ⟨a2, g2, hm⟩ := hw_bs hm
  obtain ⟨rfl, ht2⟩ := hw_rv_th g2
  obtain ⟨v2, e2, hm⟩ := hw_bs hm
  refine hw_cRI (va_runV (As := [.int l1]) (rest := []) ⟨hx, hb, hml, hown, hts⟩ (c12_isLaw l D b e2) (cwV 1 hts (hw_gV hw_m434 hw_m435 hw_m436 hw_m5 hw_m437) rfl rfl rfl (by decide +kernel) ⟨(Nat.le_of_ble_eq_true rfl), (Nat.le_of_ble_eq_true rfl)⟩) (hw_preV (ci := 12) hE hR rfl (by decide) (hw_q_of ht2)) rfl rfl hl.sz rfl (lv_room (Nat.le_of_ble_eq_true rfl)) dX12_bears_2 ⟨(Nat.le_of_ble_eq_true rfl), (Nat.le_of_ble_eq_true rfl)⟩) ?_
  refine lv_if_eq (tgt := 16) hx hb dX12_bears_5 (by decide) (fun c5 => ?_) (fun c5 => ?_)
  · have hm := hw_ip hm c5
    exact w12_bears_b16 C0 hm hR hS (hl.sub [0] rfl)
  · have hm := hw_in hm c5
    refine hw_aload_n hx hb dX12_bears_8 rfl (hl.at 0 rfl) ?_
    refine lv_iload_n hx hb dX12_bears_9 rfl (hl.at 2 rfl) ?_
    obtain ⟨a10, g10, hm⟩ := hw_bs hm
    obtain ⟨rfl, ht10⟩ := hw_rv_th g10
    obtain ⟨v10, e10, hm⟩ := hw_bs hm
    refine hw_cRI (va_runV (As := [.int l2]) (rest := []) ⟨hx, hb, hml, hown, hts⟩ (c12_isStuff l D b e10) (cwV 1 hts (hw_gV hw_m129 hw_m130 hw_m131 hw_m5 hw_m132) rfl rfl rfl (by decide +kernel) ⟨(Nat.le_of_ble_eq_true rfl), (Nat.le_of_ble_eq_true rfl)⟩) (hw_preV (ci := 12) hE hR rfl (by decide) (hw_q_of ht10)) rfl rfl hl.sz rfl (lv_room (Nat.le_of_ble_eq_true rfl)) dX12_bears_10 ⟨(Nat.le_of_ble_eq_true rfl), (Nat.le_of_ble_eq_true rfl)⟩) ?_
    refine lv_if_ne (tgt := 18) hx hb dX12_bears_13 (by decide) (fun c13 => ?_) (fun c13 => ?_)
    · have hm := hw_in hm c13
      refine lv_iload_n hx hb dX12_bears_18 rfl (hl.at 3 rfl) ?_
      obtain ⟨v19, e19, hm⟩ := hw_bs hm
      refine hw_cRI (va_runS (As := [.int l3]) (rest := []) ⟨hx, hb, hml, hown, hts⟩ (c12_isDoing l D e19) (cwS 1 hts (hw_gS hw_m572 hw_m573 hw_m5 hw_m574) rfl rfl rfl (by decide +kernel) ⟨(Nat.le_of_ble_eq_true rfl), (Nat.le_of_ble_eq_true rfl)⟩) (hw_pre0 hE) rfl rfl hl.sz rfl (lv_room (Nat.le_of_ble_eq_true rfl)) dX12_bears_19 ⟨(Nat.le_of_ble_eq_true rfl), (Nat.le_of_ble_eq_true rfl)⟩) ?_
      refine lv_if_eq (tgt := 36) hx hb dX12_bears_22 (by decide) (fun c22 => ?_) (fun c22 => ?_)
      · have hm := hw_ip hm c22
        exact w12_bears_b36 C0 hm hR hS (hl.sub [0] rfl)
      · have hm := hw_in hm c22
        refine lv_iload hx hb dX12_bears_25 (hl.at 4 rfl) ?_
        refine lv_iconst (v := (-1)) hx hb dX12_bears_27 (by decide) ?_
        refine lv_bipush (v := 20) hx hb dX12_bears_28 (by decide) ?_
        obtain ⟨v30, e30, hm⟩ := hw_bs hm
        refine hw_cRI (va_runS (As := [.int l4, .int ((-1) : Int32), .int (20 : Int32)]) (rest := []) ⟨hx, hb, hml, hown, hts⟩ (c12_in l D e30) (cwS 3 hts (hw_gS hw_m112 hw_m113 hw_m5 hw_m114) rfl rfl rfl (by decide +kernel) ⟨(Nat.le_of_ble_eq_true rfl), (Nat.le_of_ble_eq_true rfl)⟩) (hw_pre0 hE) rfl rfl hl.sz rfl (lv_room (Nat.le_of_ble_eq_true rfl)) dX12_bears_30 ⟨(Nat.le_of_ble_eq_true rfl), (Nat.le_of_ble_eq_true rfl)⟩) ?_
        refine lv_if_ne (tgt := 39) hx hb dX12_bears_33 (by decide) (fun c33 => ?_) (fun c33 => ?_)
        · have hm := hw_in hm c33
          refine lv_iload hx hb dX12_bears_39 (hl.at 4 rfl) ?_
          refine lv_iconst (v := (-1)) hx hb dX12_bears_41 (by decide) ?_
          refine lv_icmp_eq (tgt := 63) hx hb dX12_bears_42 (by decide) (fun c42 => ?_) (fun c42 => ?_)
          · have hm := hw_ip hm c42
            refine lv_bipush (v := 20) hx hb dX12_bears_63 (by decide) ?_
            refine hw_istore (lv' := [(5, .int (20 : Int32)), (0, hw_vr b (some x0)), (1, .int l1), (2, .int l2), (3, .int l3), (4, .int l4)]) hx hb dX12_bears_65 hl (by decide) (by decide) rfl (fun ls hl => ?_)
            exact w12_bears_b67 C0 hw_fu hm hR hS (hl.sub [1, 2, 3, 4, 0] rfl)
          · have hm := hw_in hm c42
            refine hw_aload_n hx hb dX12_bears_45 rfl (hl.at 0 rfl) ?_
            refine lv_iload_n hx hb dX12_bears_46 rfl (hl.at 1 rfl) ?_
            refine lv_iload_n hx hb dX12_bears_47 rfl (hl.at 2 rfl) ?_
            refine lv_iload_n hx hb dX12_bears_48 rfl (hl.at 3 rfl) ?_
            refine lv_iload hx hb dX12_bears_49 (hl.at 4 rfl) ?_
            obtain ⟨a51, g51, hm⟩ := hw_bs hm
            obtain ⟨rfl, ht51⟩ := hw_rv_th g51
            obtain ⟨v51, σ51, e51, hm⟩ := hw_bs2 hm
            refine hw_cWI (va_runV (As := [.int l1, .int l2, .int l3, .int l4]) (rest := []) ⟨hx, hb, hml, hown, hts⟩ (c12_doesBear l D b e51) (cwV 4 hts (hw_gV hw_m801 hw_m802 hw_m803 hw_m5 hw_m804) rfl rfl rfl (by decide +kernel) ⟨(Nat.le_of_ble_eq_true rfl), (Nat.le_of_ble_eq_true rfl)⟩) (hw_preV (ci := 12) hE hR rfl (by decide) (hw_q_of ht51)) rfl rfl hl.sz rfl (lv_room (Nat.le_of_ble_eq_true rfl)) dX12_bears_51 ⟨(Nat.le_of_ble_eq_true rfl), (Nat.le_of_ble_eq_true rfl)⟩) hS (fun _ _ hR hS => ?_)
            refine lv_if_eq (tgt := 61) hx hb dX12_bears_54 (by decide) (fun c54 => ?_) (fun c54 => ?_)
            · have hm := hw_ip hm c54
              refine lv_iconst (v := 0) hx hb dX12_bears_61 (by decide) ?_
              exact w12_bears_b62 C0 hm hR hS (hl.sub [0] rfl)
            · have hm := hw_in hm c54
              refine lv_iconst (v := 1) hx hb dX12_bears_57 (by decide) ?_
              refine lv_goto (tgt := 62) hx hb dX12_bears_58 (by decide) ?_
              exact w12_bears_b62 C0 hm hR hS (hl.sub [0] rfl)
        · have hm := hw_ip hm c33
          exact w12_bears_b36 C0 hm hR hS (hl.sub [0] rfl)
    · have hm := hw_ip hm c13
      exact w12_bears_b16 C0 hm hR hS (hl.sub [0] rfl)
set_option maxRecDepth 100000 in
theorem c12_bears (l : Launch) (D : hw_D) (b : Nat) {x0 : Nat} {l1 : Int32} {l2 : Int32} {l3 : Int32} {l4 : Int32} {σ : hw_S} {r : Int32} {τ : hw_S} (hm : m12_bears x0 l1 l2 l3 l4 σ = some (r, τ)) : Met l yX12_bears (Cond.code yX12_bears cX12_bears 6 (some .int) :: wsL_law) rm12_bears (hw_P1 D b σ [hw_vr b (some x0), .int l1, .int l2, .int l3, .int l4]) (hw_QI D b τ r) 0 0 (fun q => b ≤ q) := by
  refine hw_start1 (by decide +kernel) (by exact Nat.le_of_ble_eq_true rfl) ?_
  intro p e s m below meth c ls C0 hR hS hl
  have hl : lv_has ls 6 [(0, hw_vr b (some x0)), (1, .int l1), (2, .int l2), (3, .int l3), (4, .int l4)] := by exact hl
  exact w12_bears_s hm C0 hR hS ⟨hl, (List.forall_mem_cons.mpr ⟨(fun h => by rw [show (hw_vr b (some x0) : Value).category = 1 from (hw_vr_cat _ _)] at h; cases h), (List.forall_mem_cons.mpr ⟨(fun h => absurd (show (1 : Nat) = 2 from h) (by decide)), (List.forall_mem_cons.mpr ⟨(fun h => absurd (show (1 : Nat) = 2 from h) (by decide)), (List.forall_mem_cons.mpr ⟨(fun h => absurd (show (1 : Nat) = 2 from h) (by decide)), (List.forall_mem_cons.mpr ⟨(fun h => absurd (show (1 : Nat) = 2 from h) (by decide)), (fun _ h => absurd h List.not_mem_nil)⟩)⟩)⟩)⟩)⟩)⟩

abbrev rm11_film : Room := { frames := 3, cells := 0, slots := 0, locals := 62 }
def m11_film_b32 (x0 : Nat) (σ : hw_S) : Option (Int32 × hw_S) :=
  some (((-2) : Int32), σ)
set_option maxRecDepth 100000 in
theorem w11_film_b32 {p : Program} {l : Launch} {e : Env} {s : State} {m : MethodId} {args : Array Value} {below : List Frame} {meth : Method} {c : Code} {D : hw_D} {b : Nat} {r : Int32} {τ : hw_S} (C0 : hw_C p s m args meth c D yX11_film cX11_film 5 (some .int)) {x0 : Nat} {σ : hw_S} {H : Heap} {locs : List Loc} (hm : m11_film_b32 x0 σ = some (r, τ)) (hR : hw_R D b σ H) (hS : va_S (fun q => b ≤ q) s.heap H locs) {ls : Array Slot} (hl : hw_L ls 5 255 [(0, hw_vr b (some x0))]) : W p l e rm11_film s m args below meth c H locs 0 0 (MQ below (hw_QI D b τ r) args s 0 0 (fun q => b ≤ q)) (F0 m 32 ls []) := by
  obtain ⟨hx, hb, hml, hr, hown, hts, hlk, hE, hnm⟩ := id C0
  have hown : s.vm.findClass RX11 = some m.cls := hown
  have hK := hE.1
  unfold m11_film_b32 at hm
  refine lv_bipush (v := (-2)) hx hb dX11_film_32 (by decide) ?_
  exact hw_rWI hx hb hr hlk hR hS hm dX11_film_34
def m11_film (x0 : Nat) (l1 : Int32) (l2 : Int32) (l3 : Int32) (σ : hw_S) : Option (Int32 × hw_S) :=
  (hw_rv (hw_q 11) (some x0) σ).bind fun a2 =>
  (m11_stuffAt x0 l1 σ).bind fun v2 =>
  (if v2 = none then
  some (((-1) : Int32), σ)
  else
  (m11_isDoing l2).bind fun v15 =>
  (if v15 = 0 then
  m11_film_b32 x0 σ
  else
  (m11_isWithin l3 (0 : Int32) (999 : Int32)).bind fun v26 =>
  (if v26 = 0 then
  m11_film_b32 x0 σ
  else
  (hw_gP (hw_q 11) 0 (some x0) σ).bind fun v36 =>
  (hw_gI (hw_q 8) 13 v36 σ).bind fun v39 =>
  (if v39 < (12 : Int32) then
  (hw_gP (hw_q 11) 0 (some x0) σ).bind fun v51 =>
  (hw_gP (hw_q 8) 10 v51 σ).bind fun v54 =>
  (hw_gP (hw_q 11) 0 (some x0) σ).bind fun v58 =>
  (hw_gI (hw_q 8) 13 v58 σ).bind fun v61 =>
  (hw_sI v54 v61 l1 σ).bind fun σ65 =>
  (hw_gP (hw_q 11) 0 (some x0) σ65).bind fun v67 =>
  (hw_gP (hw_q 8) 11 v67 σ65).bind fun v70 =>
  (hw_gP (hw_q 11) 0 (some x0) σ65).bind fun v74 =>
  (hw_gI (hw_q 8) 13 v74 σ65).bind fun v77 =>
  (hw_sI v70 v77 l2 σ65).bind fun σ81 =>
  (hw_gP (hw_q 11) 0 (some x0) σ81).bind fun v83 =>
  (hw_gP (hw_q 8) 12 v83 σ81).bind fun v86 =>
  (hw_gP (hw_q 11) 0 (some x0) σ81).bind fun v90 =>
  (hw_gI (hw_q 8) 13 v90 σ81).bind fun v93 =>
  (hw_sI v86 v93 l3 σ81).bind fun σ97 =>
  (hw_gP (hw_q 11) 0 (some x0) σ97).bind fun v99 =>
  (hw_gI (hw_q 8) 13 v99 σ97).bind fun v103 =>
  (hw_pI (hw_q 8) 13 v99 (v103 + (1 : Int32)) σ97).bind fun σ109 =>
  some (v103, σ109)
  else
  some (((-4) : Int32), σ)))))
set_option maxRecDepth 100000 in
theorem w11_film_s {p : Program} {l : Launch} {e : Env} {s : State} {m : MethodId} {args : Array Value} {below : List Frame} {meth : Method} {c : Code} {D : hw_D} {b : Nat} {x0 : Nat} {l1 : Int32} {l2 : Int32} {l3 : Int32} {σ : hw_S} {r : Int32} {τ : hw_S} {H : Heap} {locs : List Loc} (hm : m11_film x0 l1 l2 l3 σ = some (r, τ)) (C0 : hw_C p s m args meth c D yX11_film cX11_film 5 (some .int)) (hR : hw_R D b σ H) (hS : va_S (fun q => b ≤ q) s.heap H locs) {ls : Array Slot} (hl : hw_L ls 5 255 [(0, hw_vr b (some x0)), (1, .int l1), (2, .int l2), (3, .int l3)]) : W p l e rm11_film s m args below meth c H locs 0 0 (MQ below (hw_QI D b τ r) args s 0 0 (fun q => b ≤ q)) (F0 m 0 ls []) := by
  obtain ⟨hx, hb, hml, hr, hown, hts, hlk, hE, hnm⟩ := id C0
  have hown : s.vm.findClass RX11 = some m.cls := hown
  have hK := hE.1
  unfold m11_film at hm
  refine hw_aload_n hx hb dX11_film_0 rfl (hl.at 0 rfl) ?_
  refine lv_iload_n hx hb dX11_film_1 rfl (hl.at 1 rfl) ?_
  obtain ⟨a2, g2, hm⟩ := hw_bs hm
  obtain ⟨rfl, ht2⟩ := hw_rv_th g2
  obtain ⟨v2, e2, hm⟩ := hw_bs hm
  refine hw_cRP (va_runV (As := [.int l1]) (rest := []) ⟨hx, hb, hml, hown, hts⟩ (c11_stuffAt l D b e2) (cwV 1 hts (hw_gV hw_m121 hw_m122 hw_m123 hw_m2 hw_m124) rfl rfl rfl (by decide +kernel) ⟨(Nat.le_of_ble_eq_true rfl), (Nat.le_of_ble_eq_true rfl)⟩) (hw_preV (ci := 11) hE hR rfl (by decide) (hw_q_of ht2)) rfl rfl hl.sz rfl (lv_room (Nat.le_of_ble_eq_true rfl)) dX11_film_2 ⟨(Nat.le_of_ble_eq_true rfl), (Nat.le_of_ble_eq_true rfl)⟩) ?_
  refine hw_asto (lv' := [(4, hw_vr b v2), (0, hw_vr b (some x0)), (1, .int l1), (2, .int l2), (3, .int l3)]) hx hb dX11_film_5 hl (by decide) (by decide) rfl (fun ls hl => ?_)
  refine hw_aload hx hb dX11_film_7 (hl.at 0 rfl) ?_
  refine hw_ifnonnull (tgt := 14) hx hb dX11_film_9 (by decide) (fun c9 => ?_) (fun c9 => ?_)
  · have hm := hw_in hm c9
    refine lv_iload_n hx hb dX11_film_14 rfl (hl.at 3 rfl) ?_
    obtain ⟨v15, e15, hm⟩ := hw_bs hm
    refine hw_cRI (va_runS (As := [.int l2]) (rest := []) ⟨hx, hb, hml, hown, hts⟩ (c11_isDoing l D e15) (cwS 1 hts (hw_gS hw_m442 hw_m443 hw_m2 hw_m444) rfl rfl rfl (by decide +kernel) ⟨(Nat.le_of_ble_eq_true rfl), (Nat.le_of_ble_eq_true rfl)⟩) (hw_pre0 hE) rfl rfl hl.sz rfl (lv_room (Nat.le_of_ble_eq_true rfl)) dX11_film_15 ⟨(Nat.le_of_ble_eq_true rfl), (Nat.le_of_ble_eq_true rfl)⟩) ?_
    refine lv_if_eq (tgt := 32) hx hb dX11_film_18 (by decide) (fun c18 => ?_) (fun c18 => ?_)
    · have hm := hw_ip hm c18
      exact w11_film_b32 C0 hm hR hS (hl.sub [1] rfl)
    · have hm := hw_in hm c18
      refine lv_iload_n hx hb dX11_film_21 rfl (hl.at 4 rfl) ?_
      refine lv_iconst (v := 0) hx hb dX11_film_22 (by decide) ?_
      refine lv_sipush (v := 999) hx hb dX11_film_23 (by decide) ?_
      obtain ⟨v26, e26, hm⟩ := hw_bs hm
      refine hw_cRI (va_runS (As := [.int l3, .int (0 : Int32), .int (999 : Int32)]) (rest := []) ⟨hx, hb, hml, hown, hts⟩ (c11_isWithin l D e26) (cwS 3 hts (hw_gS hw_m99 hw_m100 hw_m2 hw_m101) rfl rfl rfl (by decide +kernel) ⟨(Nat.le_of_ble_eq_true rfl), (Nat.le_of_ble_eq_true rfl)⟩) (hw_pre0 hE) rfl rfl hl.sz rfl (lv_room (Nat.le_of_ble_eq_true rfl)) dX11_film_26 ⟨(Nat.le_of_ble_eq_true rfl), (Nat.le_of_ble_eq_true rfl)⟩) ?_
      refine lv_if_ne (tgt := 35) hx hb dX11_film_29 (by decide) (fun c29 => ?_) (fun c29 => ?_)
      · have hm := hw_in hm c29
        refine hw_aload_n hx hb dX11_film_35 rfl (hl.at 1 rfl) ?_
        obtain ⟨v36, e36, hm⟩ := hw_bs hm
        refine hw_getP hx hb hw_cf11 hts hown hK hR e36 (by decide) rfl (hts _ hw_m16) (fun _ h9 => h9) dX11_film_36 ?_
        obtain ⟨v39, e39, hm⟩ := hw_bs hm
        refine hw_getI hx hb hw_cf8 hts hown hK hR e39 (by decide) rfl (hts _ hw_m809) (fun _ h9 => h9) dX11_film_39 ?_
        refine lv_bipush (v := 12) hx hb dX11_film_42 (by decide) ?_
        refine lv_icmp_lt (tgt := 50) hx hb dX11_film_44 (by decide) (fun c44 => ?_) (fun c44 => ?_)
        · have hm := hw_ip hm c44
          refine hw_aload_n hx hb dX11_film_50 rfl (hl.at 1 rfl) ?_
          obtain ⟨v51, e51, hm⟩ := hw_bs hm
          refine hw_getP hx hb hw_cf11 hts hown hK hR e51 (by decide) rfl (hts _ hw_m16) (fun _ h9 => h9) dX11_film_51 ?_
          obtain ⟨v54, e54, hm⟩ := hw_bs hm
          refine hw_getP hx hb hw_cf8 hts hown hK hR e54 (by decide) rfl (hts _ hw_m810) (fun _ h9 => h9) dX11_film_54 ?_
          refine hw_aload_n hx hb dX11_film_57 rfl (hl.at 1 rfl) ?_
          obtain ⟨v58, e58, hm⟩ := hw_bs hm
          refine hw_getP hx hb hw_cf11 hts hown hK hR e58 (by decide) rfl (hts _ hw_m16) (fun _ h9 => h9) dX11_film_58 ?_
          obtain ⟨v61, e61, hm⟩ := hw_bs hm
          refine hw_getI hx hb hw_cf8 hts hown hK hR e61 (by decide) rfl (hts _ hw_m809) (fun _ h9 => h9) dX11_film_61 ?_
          refine lv_iload_n hx hb dX11_film_64 rfl (hl.at 2 rfl) ?_
          obtain ⟨σ65, e65, hm⟩ := hw_bs hm
          refine hw_iast hx hb hK hR hS e65 dX11_film_65 (fun _ _ hR hS => ?_)
          refine hw_aload_n hx hb dX11_film_66 rfl (hl.at 1 rfl) ?_
          obtain ⟨v67, e67, hm⟩ := hw_bs hm
          refine hw_getP hx hb hw_cf11 hts hown hK hR e67 (by decide) rfl (hts _ hw_m16) (fun _ h9 => h9) dX11_film_67 ?_
          obtain ⟨v70, e70, hm⟩ := hw_bs hm
          refine hw_getP hx hb hw_cf8 hts hown hK hR e70 (by decide) rfl (hts _ hw_m811) (fun _ h9 => h9) dX11_film_70 ?_
          refine hw_aload_n hx hb dX11_film_73 rfl (hl.at 1 rfl) ?_
          obtain ⟨v74, e74, hm⟩ := hw_bs hm
          refine hw_getP hx hb hw_cf11 hts hown hK hR e74 (by decide) rfl (hts _ hw_m16) (fun _ h9 => h9) dX11_film_74 ?_
          obtain ⟨v77, e77, hm⟩ := hw_bs hm
          refine hw_getI hx hb hw_cf8 hts hown hK hR e77 (by decide) rfl (hts _ hw_m809) (fun _ h9 => h9) dX11_film_77 ?_
          refine lv_iload_n hx hb dX11_film_80 rfl (hl.at 3 rfl) ?_
          obtain ⟨σ81, e81, hm⟩ := hw_bs hm
          refine hw_iast hx hb hK hR hS e81 dX11_film_81 (fun _ _ hR hS => ?_)
          refine hw_aload_n hx hb dX11_film_82 rfl (hl.at 1 rfl) ?_
          obtain ⟨v83, e83, hm⟩ := hw_bs hm
          refine hw_getP hx hb hw_cf11 hts hown hK hR e83 (by decide) rfl (hts _ hw_m16) (fun _ h9 => h9) dX11_film_83 ?_
          obtain ⟨v86, e86, hm⟩ := hw_bs hm
          refine hw_getP hx hb hw_cf8 hts hown hK hR e86 (by decide) rfl (hts _ hw_m812) (fun _ h9 => h9) dX11_film_86 ?_
          refine hw_aload_n hx hb dX11_film_89 rfl (hl.at 1 rfl) ?_
          obtain ⟨v90, e90, hm⟩ := hw_bs hm
          refine hw_getP hx hb hw_cf11 hts hown hK hR e90 (by decide) rfl (hts _ hw_m16) (fun _ h9 => h9) dX11_film_90 ?_
          obtain ⟨v93, e93, hm⟩ := hw_bs hm
          refine hw_getI hx hb hw_cf8 hts hown hK hR e93 (by decide) rfl (hts _ hw_m809) (fun _ h9 => h9) dX11_film_93 ?_
          refine lv_iload_n hx hb dX11_film_96 rfl (hl.at 4 rfl) ?_
          obtain ⟨σ97, e97, hm⟩ := hw_bs hm
          refine hw_iast hx hb hK hR hS e97 dX11_film_97 (fun _ _ hR hS => ?_)
          refine hw_aload_n hx hb dX11_film_98 rfl (hl.at 1 rfl) ?_
          obtain ⟨v99, e99, hm⟩ := hw_bs hm
          refine hw_getP hx hb hw_cf11 hts hown hK hR e99 (by decide) rfl (hts _ hw_m16) (fun _ h9 => h9) dX11_film_99 ?_
          refine lv_dup hx hb dX11_film_102 (hw_vr_cat _ _) ?_
          obtain ⟨v103, e103, hm⟩ := hw_bs hm
          refine hw_getI hx hb hw_cf8 hts hown hK hR e103 (by decide) rfl (hts _ hw_m809) (fun _ h9 => h9) dX11_film_103 ?_
          refine lv_dup_x1 hx hb dX11_film_106 rfl (hw_vr_cat _ _) ?_
          refine lv_iconst (v := 1) hx hb dX11_film_107 (by decide) ?_
          refine lv_iadd hx hb dX11_film_108 ?_
          obtain ⟨σ109, e109, hm⟩ := hw_bs hm
          refine hw_putI hx hb hw_cf8 hts hown hK hR hS e109 (by decide) rfl rfl (hts _ hw_m809) (fun _ h9 => h9) (Or.inl rfl) dX11_film_109 (fun _ _ hR hS => ?_)
          exact hw_rWI hx hb hr hlk hR hS hm dX11_film_112
        · have hm := hw_in hm c44
          refine lv_bipush (v := (-4)) hx hb dX11_film_47 (by decide) ?_
          exact hw_rWI hx hb hr hlk hR hS hm dX11_film_49
      · have hm := hw_ip hm c29
        exact w11_film_b32 C0 hm hR hS (hl.sub [1] rfl)
  · have hm := hw_ip hm c9
    refine lv_iconst (v := (-1)) hx hb dX11_film_12 (by decide) ?_
    exact hw_rWI hx hb hr hlk hR hS hm dX11_film_13
set_option maxRecDepth 100000 in
theorem c11_film (l : Launch) (D : hw_D) (b : Nat) {x0 : Nat} {l1 : Int32} {l2 : Int32} {l3 : Int32} {σ : hw_S} {r : Int32} {τ : hw_S} (hm : m11_film x0 l1 l2 l3 σ = some (r, τ)) : Met l yX11_film (Cond.code yX11_film cX11_film 5 (some .int) :: wsL_law) rm11_film (hw_P1 D b σ [hw_vr b (some x0), .int l1, .int l2, .int l3]) (hw_QI D b τ r) 0 0 (fun q => b ≤ q) := by
  refine hw_start1 (by decide +kernel) (by exact Nat.le_of_ble_eq_true rfl) ?_
  intro p e s m below meth c ls C0 hR hS hl
  have hl : lv_has ls 5 [(0, hw_vr b (some x0)), (1, .int l1), (2, .int l2), (3, .int l3)] := by exact hl
  exact w11_film_s hm C0 hR hS ⟨hl, (List.forall_mem_cons.mpr ⟨(fun h => by rw [show (hw_vr b (some x0) : Value).category = 1 from (hw_vr_cat _ _)] at h; cases h), (List.forall_mem_cons.mpr ⟨(fun h => absurd (show (1 : Nat) = 2 from h) (by decide)), (List.forall_mem_cons.mpr ⟨(fun h => absurd (show (1 : Nat) = 2 from h) (by decide)), (List.forall_mem_cons.mpr ⟨(fun h => absurd (show (1 : Nat) = 2 from h) (by decide)), (fun _ h => absurd h List.not_mem_nil)⟩)⟩)⟩)⟩)⟩

abbrev rm12_film : Room := { frames := 2, cells := 0, slots := 0, locals := 43 }
def m12_film_b28 (x0 : Nat) (σ : hw_S) : Option (Int32 × hw_S) :=
  some (((-2) : Int32), σ)
set_option maxRecDepth 100000 in
theorem w12_film_b28 {p : Program} {l : Launch} {e : Env} {s : State} {m : MethodId} {args : Array Value} {below : List Frame} {meth : Method} {c : Code} {D : hw_D} {b : Nat} {r : Int32} {τ : hw_S} (C0 : hw_C p s m args meth c D yX12_film cX12_film 4 (some .int)) {x0 : Nat} {σ : hw_S} {H : Heap} {locs : List Loc} (hm : m12_film_b28 x0 σ = some (r, τ)) (hR : hw_R D b σ H) (hS : va_S (fun q => b ≤ q) s.heap H locs) {ls : Array Slot} (hl : hw_L ls 4 255 [(0, hw_vr b (some x0))]) : W p l e rm12_film s m args below meth c H locs 0 0 (MQ below (hw_QI D b τ r) args s 0 0 (fun q => b ≤ q)) (F0 m 28 ls []) := by
  obtain ⟨hx, hb, hml, hr, hown, hts, hlk, hE, hnm⟩ := id C0
  have hown : s.vm.findClass RX12 = some m.cls := hown
  have hK := hE.1
  unfold m12_film_b28 at hm
  refine lv_bipush (v := (-2)) hx hb dX12_film_28 (by decide) ?_
  exact hw_rWI hx hb hr hlk hR hS hm dX12_film_30
def m12_film (x0 : Nat) (l1 : Int32) (l2 : Int32) (l3 : Int32) (σ : hw_S) : Option (Int32 × hw_S) :=
  (hw_rv (hw_q 12) (some x0) σ).bind fun a2 =>
  (m12_isStuff x0 l1 σ).bind fun v2 =>
  (if v2 = 0 then
  some (((-1) : Int32), σ)
  else
  (m12_isDoing l2).bind fun v11 =>
  (if v11 = 0 then
  m12_film_b28 x0 σ
  else
  (m12_in l3 (0 : Int32) (999 : Int32)).bind fun v22 =>
  (if v22 = 0 then
  m12_film_b28 x0 σ
  else
  (hw_gP (hw_q 12) 1 (some x0) σ).bind fun v32 =>
  (hw_aI 0 v32 (2 : Int32) σ).bind fun v36 =>
  (if v36 = (12 : Int32) then
  some (((-4) : Int32), σ)
  else
  (hw_gP (hw_q 12) 1 (some x0) σ).bind fun v46 =>
  (hw_gP (hw_q 12) 1 (some x0) σ).bind fun v53 =>
  (hw_aI 0 v53 (2 : Int32) σ).bind fun v57 =>
  (hw_sI v46 ((1360 : Int32) + v57) l1 σ).bind fun σ60 =>
  (hw_gP (hw_q 12) 1 (some x0) σ60).bind fun v62 =>
  (hw_gP (hw_q 12) 1 (some x0) σ60).bind fun v69 =>
  (hw_aI 0 v69 (2 : Int32) σ60).bind fun v73 =>
  (hw_sI v62 ((1372 : Int32) + v73) l2 σ60).bind fun σ76 =>
  (hw_gP (hw_q 12) 1 (some x0) σ76).bind fun v78 =>
  (hw_gP (hw_q 12) 1 (some x0) σ76).bind fun v85 =>
  (hw_aI 0 v85 (2 : Int32) σ76).bind fun v89 =>
  (hw_sI v78 ((1384 : Int32) + v89) l3 σ76).bind fun σ92 =>
  (hw_gP (hw_q 12) 1 (some x0) σ92).bind fun v94 =>
  (hw_aI 0 v94 (2 : Int32) σ92).bind fun v99 =>
  (hw_sI v94 (2 : Int32) (v99 + (1 : Int32)) σ92).bind fun σ102 =>
  (hw_gP (hw_q 12) 1 (some x0) σ102).bind fun v104 =>
  (hw_aI 0 v104 (2 : Int32) σ102).bind fun v108 =>
  some ((v108 - (1 : Int32)), σ102)))))
set_option maxRecDepth 100000 in
theorem w12_film_s {p : Program} {l : Launch} {e : Env} {s : State} {m : MethodId} {args : Array Value} {below : List Frame} {meth : Method} {c : Code} {D : hw_D} {b : Nat} {x0 : Nat} {l1 : Int32} {l2 : Int32} {l3 : Int32} {σ : hw_S} {r : Int32} {τ : hw_S} {H : Heap} {locs : List Loc} (hm : m12_film x0 l1 l2 l3 σ = some (r, τ)) (C0 : hw_C p s m args meth c D yX12_film cX12_film 4 (some .int)) (hR : hw_R D b σ H) (hS : va_S (fun q => b ≤ q) s.heap H locs) {ls : Array Slot} (hl : hw_L ls 4 255 [(0, hw_vr b (some x0)), (1, .int l1), (2, .int l2), (3, .int l3)]) : W p l e rm12_film s m args below meth c H locs 0 0 (MQ below (hw_QI D b τ r) args s 0 0 (fun q => b ≤ q)) (F0 m 0 ls []) := by
  obtain ⟨hx, hb, hml, hr, hown, hts, hlk, hE, hnm⟩ := id C0
  have hown : s.vm.findClass RX12 = some m.cls := hown
  have hK := hE.1
  unfold m12_film at hm
  refine hw_aload_n hx hb dX12_film_0 rfl (hl.at 0 rfl) ?_
  refine lv_iload_n hx hb dX12_film_1 rfl (hl.at 1 rfl) ?_
  obtain ⟨a2, g2, hm⟩ := hw_bs hm
  obtain ⟨rfl, ht2⟩ := hw_rv_th g2
  obtain ⟨v2, e2, hm⟩ := hw_bs hm
  refine hw_cRI (va_runV (As := [.int l1]) (rest := []) ⟨hx, hb, hml, hown, hts⟩ (c12_isStuff l D b e2) (cwV 1 hts (hw_gV hw_m129 hw_m130 hw_m131 hw_m5 hw_m132) rfl rfl rfl (by decide +kernel) ⟨(Nat.le_of_ble_eq_true rfl), (Nat.le_of_ble_eq_true rfl)⟩) (hw_preV (ci := 12) hE hR rfl (by decide) (hw_q_of ht2)) rfl rfl hl.sz rfl (lv_room (Nat.le_of_ble_eq_true rfl)) dX12_film_2 ⟨(Nat.le_of_ble_eq_true rfl), (Nat.le_of_ble_eq_true rfl)⟩) ?_
  refine lv_if_ne (tgt := 10) hx hb dX12_film_5 (by decide) (fun c5 => ?_) (fun c5 => ?_)
  · have hm := hw_in hm c5
    refine lv_iload_n hx hb dX12_film_10 rfl (hl.at 2 rfl) ?_
    obtain ⟨v11, e11, hm⟩ := hw_bs hm
    refine hw_cRI (va_runS (As := [.int l2]) (rest := []) ⟨hx, hb, hml, hown, hts⟩ (c12_isDoing l D e11) (cwS 1 hts (hw_gS hw_m572 hw_m573 hw_m5 hw_m574) rfl rfl rfl (by decide +kernel) ⟨(Nat.le_of_ble_eq_true rfl), (Nat.le_of_ble_eq_true rfl)⟩) (hw_pre0 hE) rfl rfl hl.sz rfl (lv_room (Nat.le_of_ble_eq_true rfl)) dX12_film_11 ⟨(Nat.le_of_ble_eq_true rfl), (Nat.le_of_ble_eq_true rfl)⟩) ?_
    refine lv_if_eq (tgt := 28) hx hb dX12_film_14 (by decide) (fun c14 => ?_) (fun c14 => ?_)
    · have hm := hw_ip hm c14
      exact w12_film_b28 C0 hm hR hS (hl.sub [0] rfl)
    · have hm := hw_in hm c14
      refine lv_iload_n hx hb dX12_film_17 rfl (hl.at 3 rfl) ?_
      refine lv_iconst (v := 0) hx hb dX12_film_18 (by decide) ?_
      refine lv_sipush (v := 999) hx hb dX12_film_19 (by decide) ?_
      obtain ⟨v22, e22, hm⟩ := hw_bs hm
      refine hw_cRI (va_runS (As := [.int l3, .int (0 : Int32), .int (999 : Int32)]) (rest := []) ⟨hx, hb, hml, hown, hts⟩ (c12_in l D e22) (cwS 3 hts (hw_gS hw_m112 hw_m113 hw_m5 hw_m114) rfl rfl rfl (by decide +kernel) ⟨(Nat.le_of_ble_eq_true rfl), (Nat.le_of_ble_eq_true rfl)⟩) (hw_pre0 hE) rfl rfl hl.sz rfl (lv_room (Nat.le_of_ble_eq_true rfl)) dX12_film_22 ⟨(Nat.le_of_ble_eq_true rfl), (Nat.le_of_ble_eq_true rfl)⟩) ?_
      refine lv_if_ne (tgt := 31) hx hb dX12_film_25 (by decide) (fun c25 => ?_) (fun c25 => ?_)
      · have hm := hw_in hm c25
        refine hw_aload_n hx hb dX12_film_31 rfl (hl.at 0 rfl) ?_
        obtain ⟨v32, e32, hm⟩ := hw_bs hm
        refine hw_getP hx hb hw_cf12 hts hown hK hR e32 (by decide) rfl (hts _ hw_m76) (fun _ h9 => h9) dX12_film_32 ?_
        refine lv_iconst (v := 2) hx hb dX12_film_35 (by decide) ?_
        obtain ⟨v36, e36, hm⟩ := hw_bs hm
        refine hw_iald hx hb hK hR e36 dX12_film_36 ?_
        refine lv_bipush (v := 12) hx hb dX12_film_37 (by decide) ?_
        refine lv_icmp_ne (tgt := 45) hx hb dX12_film_39 (by decide) (fun c39 => ?_) (fun c39 => ?_)
        · have hm := hw_in hm c39
          refine hw_aload_n hx hb dX12_film_45 rfl (hl.at 0 rfl) ?_
          obtain ⟨v46, e46, hm⟩ := hw_bs hm
          refine hw_getP hx hb hw_cf12 hts hown hK hR e46 (by decide) rfl (hts _ hw_m76) (fun _ h9 => h9) dX12_film_46 ?_
          refine lv_sipush (v := 1360) hx hb dX12_film_49 (by decide) ?_
          refine hw_aload_n hx hb dX12_film_52 rfl (hl.at 0 rfl) ?_
          obtain ⟨v53, e53, hm⟩ := hw_bs hm
          refine hw_getP hx hb hw_cf12 hts hown hK hR e53 (by decide) rfl (hts _ hw_m76) (fun _ h9 => h9) dX12_film_53 ?_
          refine lv_iconst (v := 2) hx hb dX12_film_56 (by decide) ?_
          obtain ⟨v57, e57, hm⟩ := hw_bs hm
          refine hw_iald hx hb hK hR e57 dX12_film_57 ?_
          refine lv_iadd hx hb dX12_film_58 ?_
          refine lv_iload_n hx hb dX12_film_59 rfl (hl.at 1 rfl) ?_
          obtain ⟨σ60, e60, hm⟩ := hw_bs hm
          refine hw_iast hx hb hK hR hS e60 dX12_film_60 (fun _ _ hR hS => ?_)
          refine hw_aload_n hx hb dX12_film_61 rfl (hl.at 0 rfl) ?_
          obtain ⟨v62, e62, hm⟩ := hw_bs hm
          refine hw_getP hx hb hw_cf12 hts hown hK hR e62 (by decide) rfl (hts _ hw_m76) (fun _ h9 => h9) dX12_film_62 ?_
          refine lv_sipush (v := 1372) hx hb dX12_film_65 (by decide) ?_
          refine hw_aload_n hx hb dX12_film_68 rfl (hl.at 0 rfl) ?_
          obtain ⟨v69, e69, hm⟩ := hw_bs hm
          refine hw_getP hx hb hw_cf12 hts hown hK hR e69 (by decide) rfl (hts _ hw_m76) (fun _ h9 => h9) dX12_film_69 ?_
          refine lv_iconst (v := 2) hx hb dX12_film_72 (by decide) ?_
          obtain ⟨v73, e73, hm⟩ := hw_bs hm
          refine hw_iald hx hb hK hR e73 dX12_film_73 ?_
          refine lv_iadd hx hb dX12_film_74 ?_
          refine lv_iload_n hx hb dX12_film_75 rfl (hl.at 2 rfl) ?_
          obtain ⟨σ76, e76, hm⟩ := hw_bs hm
          refine hw_iast hx hb hK hR hS e76 dX12_film_76 (fun _ _ hR hS => ?_)
          refine hw_aload_n hx hb dX12_film_77 rfl (hl.at 0 rfl) ?_
          obtain ⟨v78, e78, hm⟩ := hw_bs hm
          refine hw_getP hx hb hw_cf12 hts hown hK hR e78 (by decide) rfl (hts _ hw_m76) (fun _ h9 => h9) dX12_film_78 ?_
          refine lv_sipush (v := 1384) hx hb dX12_film_81 (by decide) ?_
          refine hw_aload_n hx hb dX12_film_84 rfl (hl.at 0 rfl) ?_
          obtain ⟨v85, e85, hm⟩ := hw_bs hm
          refine hw_getP hx hb hw_cf12 hts hown hK hR e85 (by decide) rfl (hts _ hw_m76) (fun _ h9 => h9) dX12_film_85 ?_
          refine lv_iconst (v := 2) hx hb dX12_film_88 (by decide) ?_
          obtain ⟨v89, e89, hm⟩ := hw_bs hm
          refine hw_iald hx hb hK hR e89 dX12_film_89 ?_
          refine lv_iadd hx hb dX12_film_90 ?_
          refine lv_iload_n hx hb dX12_film_91 rfl (hl.at 3 rfl) ?_
          obtain ⟨σ92, e92, hm⟩ := hw_bs hm
          refine hw_iast hx hb hK hR hS e92 dX12_film_92 (fun _ _ hR hS => ?_)
          refine hw_aload_n hx hb dX12_film_93 rfl (hl.at 0 rfl) ?_
          obtain ⟨v94, e94, hm⟩ := hw_bs hm
          refine hw_getP hx hb hw_cf12 hts hown hK hR e94 (by decide) rfl (hts _ hw_m76) (fun _ h9 => h9) dX12_film_94 ?_
          refine lv_iconst (v := 2) hx hb dX12_film_97 (by decide) ?_
          refine lv_dup2_11 hx hb dX12_film_98 rfl (hw_vr_cat _ _) ?_
          obtain ⟨v99, e99, hm⟩ := hw_bs hm
          refine hw_iald hx hb hK hR e99 dX12_film_99 ?_
          refine lv_iconst (v := 1) hx hb dX12_film_100 (by decide) ?_
          refine lv_iadd hx hb dX12_film_101 ?_
          obtain ⟨σ102, e102, hm⟩ := hw_bs hm
          refine hw_iast hx hb hK hR hS e102 dX12_film_102 (fun _ _ hR hS => ?_)
          refine hw_aload_n hx hb dX12_film_103 rfl (hl.at 0 rfl) ?_
          obtain ⟨v104, e104, hm⟩ := hw_bs hm
          refine hw_getP hx hb hw_cf12 hts hown hK hR e104 (by decide) rfl (hts _ hw_m76) (fun _ h9 => h9) dX12_film_104 ?_
          refine lv_iconst (v := 2) hx hb dX12_film_107 (by decide) ?_
          obtain ⟨v108, e108, hm⟩ := hw_bs hm
          refine hw_iald hx hb hK hR e108 dX12_film_108 ?_
          refine lv_iconst (v := 1) hx hb dX12_film_109 (by decide) ?_
          refine lv_isub hx hb dX12_film_110 ?_
          exact hw_rWI hx hb hr hlk hR hS hm dX12_film_111
        · have hm := hw_ip hm c39
          refine lv_bipush (v := (-4)) hx hb dX12_film_42 (by decide) ?_
          exact hw_rWI hx hb hr hlk hR hS hm dX12_film_44
      · have hm := hw_ip hm c25
        exact w12_film_b28 C0 hm hR hS (hl.sub [0] rfl)
  · have hm := hw_ip hm c5
    refine lv_iconst (v := (-1)) hx hb dX12_film_8 (by decide) ?_
    exact hw_rWI hx hb hr hlk hR hS hm dX12_film_9
set_option maxRecDepth 100000 in
theorem c12_film (l : Launch) (D : hw_D) (b : Nat) {x0 : Nat} {l1 : Int32} {l2 : Int32} {l3 : Int32} {σ : hw_S} {r : Int32} {τ : hw_S} (hm : m12_film x0 l1 l2 l3 σ = some (r, τ)) : Met l yX12_film (Cond.code yX12_film cX12_film 4 (some .int) :: wsL_law) rm12_film (hw_P1 D b σ [hw_vr b (some x0), .int l1, .int l2, .int l3]) (hw_QI D b τ r) 0 0 (fun q => b ≤ q) := by
  refine hw_start1 (by decide +kernel) (by exact Nat.le_of_ble_eq_true rfl) ?_
  intro p e s m below meth c ls C0 hR hS hl
  have hl : lv_has ls 4 [(0, hw_vr b (some x0)), (1, .int l1), (2, .int l2), (3, .int l3)] := by exact hl
  exact w12_film_s hm C0 hR hS ⟨hl, (List.forall_mem_cons.mpr ⟨(fun h => by rw [show (hw_vr b (some x0) : Value).category = 1 from (hw_vr_cat _ _)] at h; cases h), (List.forall_mem_cons.mpr ⟨(fun h => absurd (show (1 : Nat) = 2 from h) (by decide)), (List.forall_mem_cons.mpr ⟨(fun h => absurd (show (1 : Nat) = 2 from h) (by decide)), (List.forall_mem_cons.mpr ⟨(fun h => absurd (show (1 : Nat) = 2 from h) (by decide)), (fun _ h => absurd h List.not_mem_nil)⟩)⟩)⟩)⟩)⟩

abbrev rm11_offFilm : Room := { frames := 5, cells := 0, slots := 0, locals := 117 }
def m11_offFilm (x0 : Nat) (l1 : Option Nat) (l2 : Int32) (σ : hw_S) : Option Int32 :=
  (hw_gP (hw_q 11) 0 (some x0) σ).bind fun v2 =>
  (hw_gP (hw_q 8) 10 v2 σ).bind fun v5 =>
  (hw_aI 0 v5 l2 σ).bind fun v9 =>
  (hw_rv (hw_q 11) (some x0) σ).bind fun a10 =>
  (m11_stuffAt x0 v9 σ).bind fun v10 =>
  (if v10 = none then
  some (1000000 : Int32)
  else
  (hw_gP (hw_q 11) 0 (some x0) σ).bind fun v24 =>
  (hw_gP (hw_q 8) 11 v24 σ).bind fun v27 =>
  (hw_aI 0 v27 l2 σ).bind fun v31 =>
  (m11_turnsIn l1 v10 v31 σ).bind fun v32 =>
  (hw_gP (hw_q 11) 0 (some x0) σ).bind fun v36 =>
  (hw_gP (hw_q 8) 12 v36 σ).bind fun v39 =>
  (hw_aI 0 v39 l2 σ).bind fun v43 =>
  some (hw_abs (v32 - v43)))
set_option maxRecDepth 100000 in
theorem w11_offFilm_s {p : Program} {l : Launch} {e : Env} {s : State} {m : MethodId} {args : Array Value} {below : List Frame} {meth : Method} {c : Code} {D : hw_D} {b : Nat} {x0 : Nat} {l1 : Option Nat} {l2 : Int32} {σ : hw_S} {r : Int32} (hm : m11_offFilm x0 l1 l2 σ = some r) (C0 : hw_C p s m args meth c D yX11_offFilm cX11_offFilm 4 (some .int)) (hR : hw_R D b σ s.heap) {ls : Array Slot} (hl : hw_L ls 4 255 [(0, hw_vr b (some x0)), (1, hw_vr b l1), (2, .int l2)]) : W p l e rm11_offFilm s m args below meth c s.heap [] 0 0 (MQ below (hw_RI r) args s 0 0 hw_nof) (F0 m 0 ls []) := by
  obtain ⟨hx, hb, hml, hr, hown, hts, hlk, hE, hnm⟩ := id C0
  have hown : s.vm.findClass RX11 = some m.cls := hown
  have hK := hE.1
  unfold m11_offFilm at hm
  refine hw_aload_n hx hb dX11_offFilm_0 rfl (hl.at 0 rfl) ?_
  refine hw_aload_n hx hb dX11_offFilm_1 rfl (hl.at 0 rfl) ?_
  obtain ⟨v2, e2, hm⟩ := hw_bs hm
  refine hw_getP hx hb hw_cf11 hts hown hK hR e2 (by decide) rfl (hts _ hw_m16) (fun _ h9 => h9) dX11_offFilm_2 ?_
  obtain ⟨v5, e5, hm⟩ := hw_bs hm
  refine hw_getP hx hb hw_cf8 hts hown hK hR e5 (by decide) rfl (hts _ hw_m810) (fun _ h9 => h9) dX11_offFilm_5 ?_
  refine lv_iload_n hx hb dX11_offFilm_8 rfl (hl.at 2 rfl) ?_
  obtain ⟨v9, e9, hm⟩ := hw_bs hm
  refine hw_iald hx hb hK hR e9 dX11_offFilm_9 ?_
  obtain ⟨a10, g10, hm⟩ := hw_bs hm
  obtain ⟨rfl, ht10⟩ := hw_rv_th g10
  obtain ⟨v10, e10, hm⟩ := hw_bs hm
  refine hw_cRP (va_runV (As := [.int v9]) (rest := []) ⟨hx, hb, hml, hown, hts⟩ (c11_stuffAt l D b e10) (cwV 1 hts (hw_gV hw_m121 hw_m122 hw_m123 hw_m2 hw_m124) rfl rfl rfl (by decide +kernel) ⟨(Nat.le_of_ble_eq_true rfl), (Nat.le_of_ble_eq_true rfl)⟩) (hw_preV (ci := 11) hE hR rfl (by decide) (hw_q_of ht10)) rfl rfl hl.sz rfl (lv_room (Nat.le_of_ble_eq_true rfl)) dX11_offFilm_10 ⟨(Nat.le_of_ble_eq_true rfl), (Nat.le_of_ble_eq_true rfl)⟩) ?_
  refine hw_asto_n (lv' := [(3, hw_vr b v10), (0, hw_vr b (some x0)), (1, hw_vr b l1), (2, .int l2)]) hx hb dX11_offFilm_13 rfl hl (by decide) (by decide) rfl (fun ls hl => ?_)
  refine hw_aload_n hx hb dX11_offFilm_14 rfl (hl.at 0 rfl) ?_
  refine hw_ifnonnull (tgt := 21) hx hb dX11_offFilm_15 (by decide) (fun c15 => ?_) (fun c15 => ?_)
  · have hm := hw_in hm c15
    refine hw_aload_n hx hb dX11_offFilm_21 rfl (hl.at 2 rfl) ?_
    refine hw_aload_n hx hb dX11_offFilm_22 rfl (hl.at 0 rfl) ?_
    refine hw_aload_n hx hb dX11_offFilm_23 rfl (hl.at 1 rfl) ?_
    obtain ⟨v24, e24, hm⟩ := hw_bs hm
    refine hw_getP hx hb hw_cf11 hts hown hK hR e24 (by decide) rfl (hts _ hw_m16) (fun _ h9 => h9) dX11_offFilm_24 ?_
    obtain ⟨v27, e27, hm⟩ := hw_bs hm
    refine hw_getP hx hb hw_cf8 hts hown hK hR e27 (by decide) rfl (hts _ hw_m811) (fun _ h9 => h9) dX11_offFilm_27 ?_
    refine lv_iload_n hx hb dX11_offFilm_30 rfl (hl.at 3 rfl) ?_
    obtain ⟨v31, e31, hm⟩ := hw_bs hm
    refine hw_iald hx hb hK hR e31 dX11_offFilm_31 ?_
    obtain ⟨v32, e32, hm⟩ := hw_bs hm
    refine hw_cRI (va_runS (As := [hw_vr b l1, hw_vr b v10, .int v31]) (rest := []) ⟨hx, hb, hml, hown, hts⟩ (c11_turnsIn l D b e32) (cwS 3 hts (hw_gS hw_m482 hw_m483 hw_m2 hw_m484) rfl rfl rfl (by decide +kernel) ⟨(Nat.le_of_ble_eq_true rfl), (Nat.le_of_ble_eq_true rfl)⟩) (hw_pre1 hE hR) rfl rfl hl.sz rfl (lv_room (Nat.le_of_ble_eq_true rfl)) dX11_offFilm_32 ⟨(Nat.le_of_ble_eq_true rfl), (Nat.le_of_ble_eq_true rfl)⟩) ?_
    refine hw_aload_n hx hb dX11_offFilm_35 rfl (hl.at 1 rfl) ?_
    obtain ⟨v36, e36, hm⟩ := hw_bs hm
    refine hw_getP hx hb hw_cf11 hts hown hK hR e36 (by decide) rfl (hts _ hw_m16) (fun _ h9 => h9) dX11_offFilm_36 ?_
    obtain ⟨v39, e39, hm⟩ := hw_bs hm
    refine hw_getP hx hb hw_cf8 hts hown hK hR e39 (by decide) rfl (hts _ hw_m812) (fun _ h9 => h9) dX11_offFilm_39 ?_
    refine lv_iload_n hx hb dX11_offFilm_42 rfl (hl.at 3 rfl) ?_
    obtain ⟨v43, e43, hm⟩ := hw_bs hm
    refine hw_iald hx hb hK hR e43 dX11_offFilm_43 ?_
    refine lv_isub hx hb dX11_offFilm_44 ?_
    refine hw_mabs hx hb hml hl hown (hts _ hw_m710) (hts _ hw_m711) (hts _ hw_m157) (hts _ hw_m712) (Nat.le_of_ble_eq_true rfl) ⟨Nat.le_of_ble_eq_true rfl, (Nat.le_of_ble_eq_true rfl)⟩ (Nat.le_of_ble_eq_true rfl) (Nat.le_of_ble_eq_true rfl) dX11_offFilm_45 ?_
    exact hw_rRI hx hb hr hlk hm dX11_offFilm_48
  · have hm := hw_ip hm c15
    refine lv_ldc (v := 1000000) hx hb hown (hts _ hw_m761) dX11_offFilm_18 ?_
    exact hw_rRI hx hb hr hlk hm dX11_offFilm_20
set_option maxRecDepth 100000 in
theorem c11_offFilm (l : Launch) (D : hw_D) (b : Nat) {x0 : Nat} {l1 : Option Nat} {l2 : Int32} {σ : hw_S} {r : Int32} (hm : m11_offFilm x0 l1 l2 σ = some r) : Met l yX11_offFilm (Cond.code yX11_offFilm cX11_offFilm 4 (some .int) :: wsL_law) rm11_offFilm (hw_P1 D b σ [hw_vr b (some x0), hw_vr b l1, .int l2]) (hw_RI r) 0 0 hw_nof := by
  refine hw_start1 (by decide +kernel) (by cases l1 <;> exact Nat.le_of_ble_eq_true rfl) ?_
  intro p e s m below meth c ls C0 hR hS hl
  have hl : lv_has ls 4 [(0, hw_vr b (some x0)), (1, hw_vr b l1), (2, .int l2)] := by cases l1 <;> exact hl
  exact w11_offFilm_s hm C0 hR ⟨hl, (List.forall_mem_cons.mpr ⟨(fun h => by rw [show (hw_vr b (some x0) : Value).category = 1 from (hw_vr_cat _ _)] at h; cases h), (List.forall_mem_cons.mpr ⟨(fun h => by rw [show (hw_vr b l1 : Value).category = 1 from (hw_vr_cat _ _)] at h; cases h), (List.forall_mem_cons.mpr ⟨(fun h => absurd (show (1 : Nat) = 2 from h) (by decide)), (fun _ h => absurd h List.not_mem_nil)⟩)⟩)⟩)⟩

abbrev rm11_offAllFilms : Room := { frames := 6, cells := 0, slots := 0, locals := 140 }
def m11_offAllFilms_b4 : Nat → Nat → Option Nat → Int32 → Int32 → hw_S → Option Int32
  | 0, _, _, _, _, _ => none
  | n + 1, x0, l1, l2, l3, σ =>
  (hw_gP (hw_q 11) 0 (some x0) σ).bind fun v6 =>
  (hw_gI (hw_q 8) 13 v6 σ).bind fun v9 =>
  (if v9 ≤ l3 then
  some l2
  else
  (hw_rv (hw_q 11) (some x0) σ).bind fun a19 =>
  (m11_offFilm x0 l1 l3 σ).bind fun v19 =>
  m11_offAllFilms_b4 n x0 l1 (l2 + v19) (l3 + 1) σ)
set_option maxRecDepth 100000 in
theorem w11_offAllFilms_b4 {p : Program} {l : Launch} {e : Env} {s : State} {m : MethodId} {args : Array Value} {below : List Frame} {meth : Method} {c : Code} {D : hw_D} {b : Nat} {r : Int32} (C0 : hw_C p s m args meth c D yX11_offAllFilms cX11_offAllFilms 4 (some .int)) : ∀ (n : Nat) {x0 : Nat} {l1 : Option Nat} {l2 : Int32} {l3 : Int32} {σ : hw_S} {ls : Array Slot}, m11_offAllFilms_b4 n x0 l1 l2 l3 σ = some r → hw_R D b σ s.heap → hw_L ls 4 255 [(0, hw_vr b (some x0)), (1, hw_vr b l1), (2, .int l2), (3, .int l3)] → W p l e rm11_offAllFilms s m args below meth c s.heap [] 0 0 (MQ below (hw_RI r) args s 0 0 hw_nof) (F0 m 4 ls []) := by
  obtain ⟨hx, hb, hml, hr, hown, hts, hlk, hE, hnm⟩ := id C0
  have hown : s.vm.findClass RX11 = some m.cls := hown
  have hK := hE.1
  intro n
  induction n with
  | zero => intro _ _ _ _ _ _ hm; cases hm
  | succ n ih =>
    intro x0 l1 l2 l3 σ ls hm hR hl
    rw [m11_offAllFilms_b4] at hm
    refine lv_iload_n hx hb dX11_offAllFilms_4 rfl (hl.at 3 rfl) ?_
    refine hw_aload_n hx hb dX11_offAllFilms_5 rfl (hl.at 0 rfl) ?_
    obtain ⟨v6, e6, hm⟩ := hw_bs hm
    refine hw_getP hx hb hw_cf11 hts hown hK hR e6 (by decide) rfl (hts _ hw_m16) (fun _ h9 => h9) dX11_offAllFilms_6 ?_
    obtain ⟨v9, e9, hm⟩ := hw_bs hm
    refine hw_getI hx hb hw_cf8 hts hown hK hR e9 (by decide) rfl (hts _ hw_m809) (fun _ h9 => h9) dX11_offAllFilms_9 ?_
    refine lv_icmp_ge (tgt := 30) hx hb dX11_offAllFilms_12 (by decide) (fun c12 => ?_) (fun c12 => ?_)
    · have hm := hw_ip hm c12
      refine lv_iload_n hx hb dX11_offAllFilms_30 rfl (hl.at 2 rfl) ?_
      exact hw_rRI hx hb hr hlk hm dX11_offAllFilms_31
    · have hm := hw_in hm c12
      refine lv_iload_n hx hb dX11_offAllFilms_15 rfl (hl.at 2 rfl) ?_
      refine hw_aload_n hx hb dX11_offAllFilms_16 rfl (hl.at 0 rfl) ?_
      refine hw_aload_n hx hb dX11_offAllFilms_17 rfl (hl.at 1 rfl) ?_
      refine lv_iload_n hx hb dX11_offAllFilms_18 rfl (hl.at 3 rfl) ?_
      obtain ⟨a19, g19, hm⟩ := hw_bs hm
      obtain ⟨rfl, ht19⟩ := hw_rv_th g19
      obtain ⟨v19, e19, hm⟩ := hw_bs hm
      refine hw_cRI (va_runV (As := [hw_vr b l1, .int l3]) (rest := [.int l2]) ⟨hx, hb, hml, hown, hts⟩ (c11_offFilm l D b e19) (cwV 2 hts (hw_gV hw_m825 hw_m826 hw_m827 hw_m2 hw_m828) rfl rfl rfl (by decide +kernel) ⟨(Nat.le_of_ble_eq_true rfl), (Nat.le_of_ble_eq_true rfl)⟩) (hw_preV (ci := 11) hE hR rfl (by decide) (hw_q_of ht19)) rfl rfl hl.sz rfl (lv_room (Nat.le_of_ble_eq_true rfl)) dX11_offAllFilms_19 ⟨(Nat.le_of_ble_eq_true rfl), (Nat.le_of_ble_eq_true rfl)⟩) ?_
      refine lv_iadd hx hb dX11_offAllFilms_22 ?_
      refine hw_istore_n (lv' := [(2, .int (l2 + v19)), (0, hw_vr b (some x0)), (1, hw_vr b l1), (3, .int l3)]) hx hb dX11_offAllFilms_23 rfl hl (by decide) (by decide) rfl (fun ls hl => ?_)
      refine hw_iinc (v := (l3 + 1)) (lv' := [(3, .int (l3 + 1)), (2, .int (l2 + v19)), (0, hw_vr b (some x0)), (1, hw_vr b l1)]) hx hb dX11_offAllFilms_24 hl (k := 3) rfl rfl (by decide) (by decide) rfl (fun ls hl => ?_)
      refine lv_goto (tgt := 4) hx hb dX11_offAllFilms_27 (by decide) ?_
      exact ih hm hR (hl.sub [2, 3, 1, 0] rfl)
def m11_offAllFilms (x0 : Nat) (l1 : Option Nat) (σ : hw_S) : Option Int32 :=
  m11_offAllFilms_b4 hw_fu x0 l1 (0 : Int32) (0 : Int32) σ
set_option maxRecDepth 100000 in
theorem w11_offAllFilms_s {p : Program} {l : Launch} {e : Env} {s : State} {m : MethodId} {args : Array Value} {below : List Frame} {meth : Method} {c : Code} {D : hw_D} {b : Nat} {x0 : Nat} {l1 : Option Nat} {σ : hw_S} {r : Int32} (hm : m11_offAllFilms x0 l1 σ = some r) (C0 : hw_C p s m args meth c D yX11_offAllFilms cX11_offAllFilms 4 (some .int)) (hR : hw_R D b σ s.heap) {ls : Array Slot} (hl : hw_L ls 4 255 [(0, hw_vr b (some x0)), (1, hw_vr b l1)]) : W p l e rm11_offAllFilms s m args below meth c s.heap [] 0 0 (MQ below (hw_RI r) args s 0 0 hw_nof) (F0 m 0 ls []) := by
  obtain ⟨hx, hb, hml, hr, hown, hts, hlk, hE, hnm⟩ := id C0
  have hown : s.vm.findClass RX11 = some m.cls := hown
  have hK := hE.1
  unfold m11_offAllFilms at hm
  refine lv_iconst (v := 0) hx hb dX11_offAllFilms_0 (by decide) ?_
  refine hw_istore_n (lv' := [(2, .int (0 : Int32)), (0, hw_vr b (some x0)), (1, hw_vr b l1)]) hx hb dX11_offAllFilms_1 rfl hl (by decide) (by decide) rfl (fun ls hl => ?_)
  refine lv_iconst (v := 0) hx hb dX11_offAllFilms_2 (by decide) ?_
  refine hw_istore_n (lv' := [(3, .int (0 : Int32)), (2, .int (0 : Int32)), (0, hw_vr b (some x0)), (1, hw_vr b l1)]) hx hb dX11_offAllFilms_3 rfl hl (by decide) (by decide) rfl (fun ls hl => ?_)
  exact w11_offAllFilms_b4 C0 hw_fu hm hR (hl.sub [2, 3, 1, 0] rfl)
set_option maxRecDepth 100000 in
theorem c11_offAllFilms (l : Launch) (D : hw_D) (b : Nat) {x0 : Nat} {l1 : Option Nat} {σ : hw_S} {r : Int32} (hm : m11_offAllFilms x0 l1 σ = some r) : Met l yX11_offAllFilms (Cond.code yX11_offAllFilms cX11_offAllFilms 4 (some .int) :: wsL_law) rm11_offAllFilms (hw_P1 D b σ [hw_vr b (some x0), hw_vr b l1]) (hw_RI r) 0 0 hw_nof := by
  refine hw_start1 (by decide +kernel) (by cases l1 <;> exact Nat.le_of_ble_eq_true rfl) ?_
  intro p e s m below meth c ls C0 hR hS hl
  have hl : lv_has ls 4 [(0, hw_vr b (some x0)), (1, hw_vr b l1)] := by cases l1 <;> exact hl
  exact w11_offAllFilms_s hm C0 hR ⟨hl, (List.forall_mem_cons.mpr ⟨(fun h => by rw [show (hw_vr b (some x0) : Value).category = 1 from (hw_vr_cat _ _)] at h; cases h), (List.forall_mem_cons.mpr ⟨(fun h => by rw [show (hw_vr b l1 : Value).category = 1 from (hw_vr_cat _ _)] at h; cases h), (fun _ h => absurd h List.not_mem_nil)⟩)⟩)⟩

abbrev rm11_off : Room := { frames := 7, cells := 0, slots := 0, locals := 163 }
def m11_off (x0 : Nat) (l1 : Int32) (σ : hw_S) : Option Int32 :=
  (hw_rv (hw_q 11) (some x0) σ).bind fun a2 =>
  (m11_lawAt x0 l1 σ).bind fun v2 =>
  (if v2 = none then
  some ((-1) : Int32)
  else
  (hw_rv (hw_q 11) (some x0) σ).bind fun a14 =>
  (m11_offAllFilms x0 v2 σ).bind fun v14 =>
  some v14)
set_option maxRecDepth 100000 in
theorem w11_off_s {p : Program} {l : Launch} {e : Env} {s : State} {m : MethodId} {args : Array Value} {below : List Frame} {meth : Method} {c : Code} {D : hw_D} {b : Nat} {x0 : Nat} {l1 : Int32} {σ : hw_S} {r : Int32} (hm : m11_off x0 l1 σ = some r) (C0 : hw_C p s m args meth c D yX11_off cX11_off 3 (some .int)) (hR : hw_R D b σ s.heap) {ls : Array Slot} (hl : hw_L ls 3 255 [(0, hw_vr b (some x0)), (1, .int l1)]) : W p l e rm11_off s m args below meth c s.heap [] 0 0 (MQ below (hw_RI r) args s 0 0 hw_nof) (F0 m 0 ls []) := by
  obtain ⟨hx, hb, hml, hr, hown, hts, hlk, hE, hnm⟩ := id C0
  have hown : s.vm.findClass RX11 = some m.cls := hown
  have hK := hE.1
  unfold m11_off at hm
  refine hw_aload_n hx hb dX11_off_0 rfl (hl.at 0 rfl) ?_
  refine lv_iload_n hx hb dX11_off_1 rfl (hl.at 1 rfl) ?_
  obtain ⟨a2, g2, hm⟩ := hw_bs hm
  obtain ⟨rfl, ht2⟩ := hw_rv_th g2
  obtain ⟨v2, e2, hm⟩ := hw_bs hm
  refine hw_cRP (va_runV (As := [.int l1]) (rest := []) ⟨hx, hb, hml, hown, hts⟩ (c11_lawAt l D b e2) (cwV 1 hts (hw_gV hw_m426 hw_m427 hw_m428 hw_m2 hw_m429) rfl rfl rfl (by decide +kernel) ⟨(Nat.le_of_ble_eq_true rfl), (Nat.le_of_ble_eq_true rfl)⟩) (hw_preV (ci := 11) hE hR rfl (by decide) (hw_q_of ht2)) rfl rfl hl.sz rfl (lv_room (Nat.le_of_ble_eq_true rfl)) dX11_off_2 ⟨(Nat.le_of_ble_eq_true rfl), (Nat.le_of_ble_eq_true rfl)⟩) ?_
  refine hw_asto_n (lv' := [(2, hw_vr b v2), (0, hw_vr b (some x0)), (1, .int l1)]) hx hb dX11_off_5 rfl hl (by decide) (by decide) rfl (fun ls hl => ?_)
  refine hw_aload_n hx hb dX11_off_6 rfl (hl.at 0 rfl) ?_
  refine hw_ifnonnull (tgt := 12) hx hb dX11_off_7 (by decide) (fun c7 => ?_) (fun c7 => ?_)
  · have hm := hw_in hm c7
    refine hw_aload_n hx hb dX11_off_12 rfl (hl.at 1 rfl) ?_
    refine hw_aload_n hx hb dX11_off_13 rfl (hl.at 0 rfl) ?_
    obtain ⟨a14, g14, hm⟩ := hw_bs hm
    obtain ⟨rfl, ht14⟩ := hw_rv_th g14
    obtain ⟨v14, e14, hm⟩ := hw_bs hm
    refine hw_cRI (va_runV (As := [hw_vr b v2]) (rest := []) ⟨hx, hb, hml, hown, hts⟩ (c11_offAllFilms l D b e14) (cwV 1 hts (hw_gV hw_m821 hw_m822 hw_m823 hw_m2 hw_m824) rfl rfl rfl (by decide +kernel) ⟨(Nat.le_of_ble_eq_true rfl), (Nat.le_of_ble_eq_true rfl)⟩) (hw_preV (ci := 11) hE hR rfl (by decide) (hw_q_of ht14)) rfl rfl hl.sz rfl (lv_room (Nat.le_of_ble_eq_true rfl)) dX11_off_14 ⟨(Nat.le_of_ble_eq_true rfl), (Nat.le_of_ble_eq_true rfl)⟩) ?_
    exact hw_rRI hx hb hr hlk hm dX11_off_17
  · have hm := hw_ip hm c7
    refine lv_iconst (v := (-1)) hx hb dX11_off_10 (by decide) ?_
    exact hw_rRI hx hb hr hlk hm dX11_off_11
set_option maxRecDepth 100000 in
theorem c11_off (l : Launch) (D : hw_D) (b : Nat) {x0 : Nat} {l1 : Int32} {σ : hw_S} {r : Int32} (hm : m11_off x0 l1 σ = some r) : Met l yX11_off (Cond.code yX11_off cX11_off 3 (some .int) :: wsL_law) rm11_off (hw_P1 D b σ [hw_vr b (some x0), .int l1]) (hw_RI r) 0 0 hw_nof := by
  refine hw_start1 (by decide +kernel) (by exact Nat.le_of_ble_eq_true rfl) ?_
  intro p e s m below meth c ls C0 hR hS hl
  have hl : lv_has ls 3 [(0, hw_vr b (some x0)), (1, .int l1)] := by exact hl
  exact w11_off_s hm C0 hR ⟨hl, (List.forall_mem_cons.mpr ⟨(fun h => by rw [show (hw_vr b (some x0) : Value).category = 1 from (hw_vr_cat _ _)] at h; cases h), (List.forall_mem_cons.mpr ⟨(fun h => absurd (show (1 : Nat) = 2 from h) (by decide)), (fun _ h => absurd h List.not_mem_nil)⟩)⟩)⟩
