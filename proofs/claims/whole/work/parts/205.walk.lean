abbrev rm12_goesThrough : Room := { frames := 3, cells := 0, slots := 0, locals := 85 }
def m12_goesThrough_b271 (k15 : Nat → Int32 → Int32 → Int32 → Int32 → hw_S → Option hw_S) (x0 : Nat) (l1 : Int32) (l2 : Int32) (l4 : Int32) (t0 : Int32) (σ : hw_S) : Option hw_S :=
  (hw_gP (hw_q 12) 13 (some x0) σ).bind fun v273 =>
  (hw_sI v273 l4 t0 σ).bind fun σ279 =>
  k15 x0 l1 l2 t0 (l4 + 1) σ279
set_option maxRecDepth 100000 in
theorem w12_goesThrough_b271 {p : Program} {l : Launch} {e : Env} {s : State} {m : MethodId} {args : Array Value} {below : List Frame} {meth : Method} {c : Code} {D : hw_D} {b : Nat} {k15 : Nat → Int32 → Int32 → Int32 → Int32 → hw_S → Option hw_S} {τ : hw_S} (C0 : hw_C p s m args meth c D yX12_goesThrough cX12_goesThrough 10 none) (hk15 : ∀ {x0 : Nat} {l1 : Int32} {l2 : Int32} {l3 : Int32} {l4 : Int32} {σ : hw_S} {H : Heap} {locs : List Loc} {ls : Array Slot}, k15 x0 l1 l2 l3 l4 σ = some τ → hw_R D b σ H → va_S (fun q => b ≤ q) s.heap H locs → hw_L ls 10 255 [(0, hw_vr b (some x0)), (1, .int l1), (2, .int l2), (3, .int l3), (4, .int l4)] → W p l e rm12_goesThrough s m args below meth c H locs 0 0 (MQ below (hw_QV D b τ) args s 0 0 (fun q => b ≤ q)) (F0 m 15 ls [])) {x0 : Nat} {l1 : Int32} {l2 : Int32} {l4 : Int32} {t0 : Int32} {σ : hw_S} {H : Heap} {locs : List Loc} (hm : m12_goesThrough_b271 k15 x0 l1 l2 l4 t0 σ = some τ) (hR : hw_R D b σ H) (hS : va_S (fun q => b ≤ q) s.heap H locs) {ls : Array Slot} (hl : hw_L ls 10 255 [(0, hw_vr b (some x0)), (1, .int l1), (2, .int l2), (4, .int l4)]) : W p l e rm12_goesThrough s m args below meth c H locs 0 0 (MQ below (hw_QV D b τ) args s 0 0 (fun q => b ≤ q)) (F0 m 271 ls [.int t0]) := by
  obtain ⟨hx, hb, hml, hr, hown, hts, hlk, hE, hnm⟩ := id C0
  have hown : s.vm.findClass RX12 = some m.cls := hown
  have hK := hE.1
  unfold m12_goesThrough_b271 at hm
  refine hw_istore_n (lv' := [(3, .int t0), (0, hw_vr b (some x0)), (1, .int l1), (2, .int l2), (4, .int l4)]) hx hb dX12_goesThrough_271 rfl hl (by decide) (by decide) rfl (fun ls hl => ?_)
  refine hw_aload_n hx hb dX12_goesThrough_272 rfl (hl.at 1 rfl) ?_
  obtain ⟨v273, e273, hm⟩ := hw_bs hm
  refine hw_getP hx hb hw_cf12 hts hown hK hR e273 (by decide) rfl (hts _ hw_m83) (fun _ h9 => h9) dX12_goesThrough_273 ?_
  refine lv_iload hx hb dX12_goesThrough_276 (hl.at 4 rfl) ?_
  refine lv_iload_n hx hb dX12_goesThrough_278 rfl (hl.at 0 rfl) ?_
  obtain ⟨σ279, e279, hm⟩ := hw_bs hm
  refine hw_iast hx hb hK hR hS e279 dX12_goesThrough_279 (fun _ _ hR hS => ?_)
  refine hw_iinc (v := (l4 + 1)) (lv' := [(4, .int (l4 + 1)), (3, .int t0), (0, hw_vr b (some x0)), (1, .int l1), (2, .int l2)]) hx hb dX12_goesThrough_280 hl (k := 4) rfl rfl (by decide) (by decide) rfl (fun ls hl => ?_)
  refine lv_goto (tgt := 15) hx hb dX12_goesThrough_283 (by decide) ?_
  exact hk15 hm hR hS (hl.sub [2, 3, 4, 1, 0] rfl)
def m12_goesThrough_b248 (k15 : Nat → Int32 → Int32 → Int32 → Int32 → hw_S → Option hw_S) (x0 : Nat) (l1 : Int32) (l2 : Int32) (l3 : Int32) (l4 : Int32) (t0 : Nat) (t1 : Int32) (t2 : Int32) (σ : hw_S) : Option hw_S :=
  (hw_pI (hw_q 12) 14 (some t0) (t1 + t2) σ).bind fun σ249 =>
  (hw_gP (hw_q 12) 1 (some x0) σ249).bind fun v254 =>
  (hw_aI 0 v254 ((156 : Int32) + l1) σ249).bind fun v262 =>
  (if l3 ≤ v262 then
  m12_goesThrough_b271 k15 x0 l1 l2 l4 l3 σ249
  else
  m12_goesThrough_b271 k15 x0 l1 l2 l4 (0 : Int32) σ249)
set_option maxRecDepth 100000 in
theorem w12_goesThrough_b248 {p : Program} {l : Launch} {e : Env} {s : State} {m : MethodId} {args : Array Value} {below : List Frame} {meth : Method} {c : Code} {D : hw_D} {b : Nat} {k15 : Nat → Int32 → Int32 → Int32 → Int32 → hw_S → Option hw_S} {τ : hw_S} (C0 : hw_C p s m args meth c D yX12_goesThrough cX12_goesThrough 10 none) (hk15 : ∀ {x0 : Nat} {l1 : Int32} {l2 : Int32} {l3 : Int32} {l4 : Int32} {σ : hw_S} {H : Heap} {locs : List Loc} {ls : Array Slot}, k15 x0 l1 l2 l3 l4 σ = some τ → hw_R D b σ H → va_S (fun q => b ≤ q) s.heap H locs → hw_L ls 10 255 [(0, hw_vr b (some x0)), (1, .int l1), (2, .int l2), (3, .int l3), (4, .int l4)] → W p l e rm12_goesThrough s m args below meth c H locs 0 0 (MQ below (hw_QV D b τ) args s 0 0 (fun q => b ≤ q)) (F0 m 15 ls [])) {x0 : Nat} {l1 : Int32} {l2 : Int32} {l3 : Int32} {l4 : Int32} {t0 : Nat} {t1 : Int32} {t2 : Int32} {σ : hw_S} {H : Heap} {locs : List Loc} (hm : m12_goesThrough_b248 k15 x0 l1 l2 l3 l4 t0 t1 t2 σ = some τ) (hR : hw_R D b σ H) (hS : va_S (fun q => b ≤ q) s.heap H locs) {ls : Array Slot} (hl : hw_L ls 10 255 [(0, hw_vr b (some x0)), (1, .int l1), (2, .int l2), (3, .int l3), (4, .int l4)]) : W p l e rm12_goesThrough s m args below meth c H locs 0 0 (MQ below (hw_QV D b τ) args s 0 0 (fun q => b ≤ q)) (F0 m 248 ls [.int t2, .int t1, hw_vr b (some t0)]) := by
  obtain ⟨hx, hb, hml, hr, hown, hts, hlk, hE, hnm⟩ := id C0
  have hown : s.vm.findClass RX12 = some m.cls := hown
  have hK := hE.1
  unfold m12_goesThrough_b248 at hm
  refine lv_iadd hx hb dX12_goesThrough_248 ?_
  obtain ⟨σ249, e249, hm⟩ := hw_bs hm
  refine hw_putI hx hb hw_cf12 hts hown hK hR hS e249 (by decide) rfl rfl (hts _ hw_m670) (fun _ h9 => h9) (Or.inl rfl) dX12_goesThrough_249 (fun _ _ hR hS => ?_)
  refine lv_iload_n hx hb dX12_goesThrough_252 rfl (hl.at 3 rfl) ?_
  refine hw_aload_n hx hb dX12_goesThrough_253 rfl (hl.at 0 rfl) ?_
  obtain ⟨v254, e254, hm⟩ := hw_bs hm
  refine hw_getP hx hb hw_cf12 hts hown hK hR e254 (by decide) rfl (hts _ hw_m76) (fun _ h9 => h9) dX12_goesThrough_254 ?_
  refine lv_sipush (v := 156) hx hb dX12_goesThrough_257 (by decide) ?_
  refine lv_iload_n hx hb dX12_goesThrough_260 rfl (hl.at 1 rfl) ?_
  refine lv_iadd hx hb dX12_goesThrough_261 ?_
  obtain ⟨v262, e262, hm⟩ := hw_bs hm
  refine hw_iald hx hb hK hR e262 dX12_goesThrough_262 ?_
  refine lv_icmp_le (tgt := 270) hx hb dX12_goesThrough_263 (by decide) (fun c263 => ?_) (fun c263 => ?_)
  · have hm := hw_ip hm c263
    refine lv_iload_n hx hb dX12_goesThrough_270 rfl (hl.at 3 rfl) ?_
    exact w12_goesThrough_b271 C0 hk15 hm hR hS (hl.sub [0, 1, 2, 4] rfl)
  · have hm := hw_in hm c263
    refine lv_iconst (v := 0) hx hb dX12_goesThrough_266 (by decide) ?_
    refine lv_goto (tgt := 271) hx hb dX12_goesThrough_267 (by decide) ?_
    exact w12_goesThrough_b271 C0 hk15 hm hR hS (hl.sub [0, 1, 2, 4] rfl)
def m12_goesThrough_b223 (k15 : Nat → Int32 → Int32 → Int32 → Int32 → hw_S → Option hw_S) (x0 : Nat) (l1 : Int32) (l2 : Int32) (l4 : Int32) (t0 : Int32) (σ : hw_S) : Option hw_S :=
  (hw_gI (hw_q 12) 14 (some x0) σ).bind fun v226 =>
  (hw_gP (hw_q 12) 1 (some x0) σ).bind fun v231 =>
  (hw_aI 0 v231 ((156 : Int32) + l1) σ).bind fun v239 =>
  (if t0 ≤ v239 then
  m12_goesThrough_b248 k15 x0 l1 l2 t0 l4 x0 v226 (0 : Int32) σ
  else
  m12_goesThrough_b248 k15 x0 l1 l2 t0 l4 x0 v226 (1 : Int32) σ)
set_option maxRecDepth 100000 in
theorem w12_goesThrough_b223 {p : Program} {l : Launch} {e : Env} {s : State} {m : MethodId} {args : Array Value} {below : List Frame} {meth : Method} {c : Code} {D : hw_D} {b : Nat} {k15 : Nat → Int32 → Int32 → Int32 → Int32 → hw_S → Option hw_S} {τ : hw_S} (C0 : hw_C p s m args meth c D yX12_goesThrough cX12_goesThrough 10 none) (hk15 : ∀ {x0 : Nat} {l1 : Int32} {l2 : Int32} {l3 : Int32} {l4 : Int32} {σ : hw_S} {H : Heap} {locs : List Loc} {ls : Array Slot}, k15 x0 l1 l2 l3 l4 σ = some τ → hw_R D b σ H → va_S (fun q => b ≤ q) s.heap H locs → hw_L ls 10 255 [(0, hw_vr b (some x0)), (1, .int l1), (2, .int l2), (3, .int l3), (4, .int l4)] → W p l e rm12_goesThrough s m args below meth c H locs 0 0 (MQ below (hw_QV D b τ) args s 0 0 (fun q => b ≤ q)) (F0 m 15 ls [])) {x0 : Nat} {l1 : Int32} {l2 : Int32} {l4 : Int32} {t0 : Int32} {σ : hw_S} {H : Heap} {locs : List Loc} (hm : m12_goesThrough_b223 k15 x0 l1 l2 l4 t0 σ = some τ) (hR : hw_R D b σ H) (hS : va_S (fun q => b ≤ q) s.heap H locs) {ls : Array Slot} (hl : hw_L ls 10 255 [(0, hw_vr b (some x0)), (1, .int l1), (2, .int l2), (4, .int l4)]) : W p l e rm12_goesThrough s m args below meth c H locs 0 0 (MQ below (hw_QV D b τ) args s 0 0 (fun q => b ≤ q)) (F0 m 223 ls [.int t0]) := by
  obtain ⟨hx, hb, hml, hr, hown, hts, hlk, hE, hnm⟩ := id C0
  have hown : s.vm.findClass RX12 = some m.cls := hown
  have hK := hE.1
  unfold m12_goesThrough_b223 at hm
  refine hw_istore_n (lv' := [(3, .int t0), (0, hw_vr b (some x0)), (1, .int l1), (2, .int l2), (4, .int l4)]) hx hb dX12_goesThrough_223 rfl hl (by decide) (by decide) rfl (fun ls hl => ?_)
  refine hw_aload_n hx hb dX12_goesThrough_224 rfl (hl.at 1 rfl) ?_
  refine lv_dup hx hb dX12_goesThrough_225 (hw_vr_cat _ _) ?_
  obtain ⟨v226, e226, hm⟩ := hw_bs hm
  refine hw_getI hx hb hw_cf12 hts hown hK hR e226 (by decide) rfl (hts _ hw_m670) (fun _ h9 => h9) dX12_goesThrough_226 ?_
  refine lv_iload_n hx hb dX12_goesThrough_229 rfl (hl.at 0 rfl) ?_
  refine hw_aload_n hx hb dX12_goesThrough_230 rfl (hl.at 1 rfl) ?_
  obtain ⟨v231, e231, hm⟩ := hw_bs hm
  refine hw_getP hx hb hw_cf12 hts hown hK hR e231 (by decide) rfl (hts _ hw_m76) (fun _ h9 => h9) dX12_goesThrough_231 ?_
  refine lv_sipush (v := 156) hx hb dX12_goesThrough_234 (by decide) ?_
  refine lv_iload_n hx hb dX12_goesThrough_237 rfl (hl.at 2 rfl) ?_
  refine lv_iadd hx hb dX12_goesThrough_238 ?_
  obtain ⟨v239, e239, hm⟩ := hw_bs hm
  refine hw_iald hx hb hK hR e239 dX12_goesThrough_239 ?_
  refine lv_icmp_le (tgt := 247) hx hb dX12_goesThrough_240 (by decide) (fun c240 => ?_) (fun c240 => ?_)
  · have hm := hw_ip hm c240
    refine lv_iconst (v := 0) hx hb dX12_goesThrough_247 (by decide) ?_
    exact w12_goesThrough_b248 C0 hk15 hm hR hS (hl.sub [1, 2, 3, 0, 4] rfl)
  · have hm := hw_in hm c240
    refine lv_iconst (v := 1) hx hb dX12_goesThrough_243 (by decide) ?_
    refine lv_goto (tgt := 248) hx hb dX12_goesThrough_244 (by decide) ?_
    exact w12_goesThrough_b248 C0 hk15 hm hR hS (hl.sub [1, 2, 3, 0, 4] rfl)
def m12_goesThrough_b142 (k15 : Nat → Int32 → Int32 → Int32 → Int32 → hw_S → Option hw_S) (x0 : Nat) (l1 : Int32) (l2 : Int32) (l3 : Int32) (l4 : Int32) (l6 : Int32) (l7 : Int32) (l8 : Int32) (t0 : Int32) (σ : hw_S) : Option hw_S :=
  (hw_gP (hw_q 12) 12 (some x0) σ).bind fun v145 =>
  (hw_gI (hw_q 12) 15 (some x0) σ).bind fun v160 =>
  (hw_rv (hw_q 12) (some x0) σ).bind fun a165 =>
  hw_b2 (m12_turnsAs x0 l1 l2 l6 l7 l8 v160 t0 σ) fun v165 σ165 =>
  (hw_sI v145 l4 v165 σ165).bind fun σ168 =>
  (hw_gP (hw_q 12) 11 (some x0) σ168).bind fun v170 =>
  (hw_gP (hw_q 12) 12 (some x0) σ168).bind fun v180 =>
  (hw_aI 0 v180 l4 σ168).bind fun v185 =>
  (hw_rv (hw_q 12) (some x0) σ168).bind fun a186 =>
  (m12_formBy x0 l1 l8 v185 σ168).bind fun v186 =>
  (hw_sI v170 l4 v186 σ168).bind fun σ189 =>
  (hw_gP (hw_q 12) 11 (some x0) σ189).bind fun v191 =>
  (hw_aI 0 v191 l4 σ189).bind fun v196 =>
  (if v196 = 0 then
  m12_goesThrough_b223 k15 x0 l1 l2 l4 (l3 + l7) σ189
  else
  (hw_gP (hw_q 12) 11 (some x0) σ189).bind fun v208 =>
  (hw_aI 0 v208 l4 σ189).bind fun v213 =>
  (if v213 = (4 : Int32) then
  m12_goesThrough_b223 k15 x0 l1 l2 l4 (0 : Int32) σ189
  else
  m12_goesThrough_b223 k15 x0 l1 l2 l4 l3 σ189))
set_option maxRecDepth 100000 in
theorem w12_goesThrough_b142 {p : Program} {l : Launch} {e : Env} {s : State} {m : MethodId} {args : Array Value} {below : List Frame} {meth : Method} {c : Code} {D : hw_D} {b : Nat} {k15 : Nat → Int32 → Int32 → Int32 → Int32 → hw_S → Option hw_S} {τ : hw_S} (C0 : hw_C p s m args meth c D yX12_goesThrough cX12_goesThrough 10 none) (hk15 : ∀ {x0 : Nat} {l1 : Int32} {l2 : Int32} {l3 : Int32} {l4 : Int32} {σ : hw_S} {H : Heap} {locs : List Loc} {ls : Array Slot}, k15 x0 l1 l2 l3 l4 σ = some τ → hw_R D b σ H → va_S (fun q => b ≤ q) s.heap H locs → hw_L ls 10 255 [(0, hw_vr b (some x0)), (1, .int l1), (2, .int l2), (3, .int l3), (4, .int l4)] → W p l e rm12_goesThrough s m args below meth c H locs 0 0 (MQ below (hw_QV D b τ) args s 0 0 (fun q => b ≤ q)) (F0 m 15 ls [])) {x0 : Nat} {l1 : Int32} {l2 : Int32} {l3 : Int32} {l4 : Int32} {l6 : Int32} {l7 : Int32} {l8 : Int32} {t0 : Int32} {σ : hw_S} {H : Heap} {locs : List Loc} (hm : m12_goesThrough_b142 k15 x0 l1 l2 l3 l4 l6 l7 l8 t0 σ = some τ) (hR : hw_R D b σ H) (hS : va_S (fun q => b ≤ q) s.heap H locs) {ls : Array Slot} (hl : hw_L ls 10 255 [(0, hw_vr b (some x0)), (1, .int l1), (2, .int l2), (3, .int l3), (4, .int l4), (6, .int l6), (7, .int l7), (8, .int l8)]) : W p l e rm12_goesThrough s m args below meth c H locs 0 0 (MQ below (hw_QV D b τ) args s 0 0 (fun q => b ≤ q)) (F0 m 142 ls [.int t0]) := by
  obtain ⟨hx, hb, hml, hr, hown, hts, hlk, hE, hnm⟩ := id C0
  have hown : s.vm.findClass RX12 = some m.cls := hown
  have hK := hE.1
  unfold m12_goesThrough_b142 at hm
  refine hw_istore (lv' := [(9, .int t0), (0, hw_vr b (some x0)), (1, .int l1), (2, .int l2), (3, .int l3), (4, .int l4), (6, .int l6), (7, .int l7), (8, .int l8)]) hx hb dX12_goesThrough_142 hl (by decide) (by decide) rfl (fun ls hl => ?_)
  refine hw_aload_n hx hb dX12_goesThrough_144 rfl (hl.at 1 rfl) ?_
  obtain ⟨v145, e145, hm⟩ := hw_bs hm
  refine hw_getP hx hb hw_cf12 hts hown hK hR e145 (by decide) rfl (hts _ hw_m82) (fun _ h9 => h9) dX12_goesThrough_145 ?_
  refine lv_iload hx hb dX12_goesThrough_148 (hl.at 5 rfl) ?_
  refine hw_aload_n hx hb dX12_goesThrough_150 rfl (hl.at 1 rfl) ?_
  refine lv_iload_n hx hb dX12_goesThrough_151 rfl (hl.at 2 rfl) ?_
  refine lv_iload_n hx hb dX12_goesThrough_152 rfl (hl.at 3 rfl) ?_
  refine lv_iload hx hb dX12_goesThrough_153 (hl.at 6 rfl) ?_
  refine lv_iload hx hb dX12_goesThrough_155 (hl.at 7 rfl) ?_
  refine lv_iload hx hb dX12_goesThrough_157 (hl.at 8 rfl) ?_
  refine hw_aload_n hx hb dX12_goesThrough_159 rfl (hl.at 1 rfl) ?_
  obtain ⟨v160, e160, hm⟩ := hw_bs hm
  refine hw_getI hx hb hw_cf12 hts hown hK hR e160 (by decide) rfl (hts _ hw_m675) (fun _ h9 => h9) dX12_goesThrough_160 ?_
  refine lv_iload hx hb dX12_goesThrough_163 (hl.at 0 rfl) ?_
  obtain ⟨a165, g165, hm⟩ := hw_bs hm
  obtain ⟨rfl, ht165⟩ := hw_rv_th g165
  obtain ⟨v165, σ165, e165, hm⟩ := hw_bs2 hm
  refine hw_cWI (va_runV (As := [.int l1, .int l2, .int l6, .int l7, .int l8, .int v160, .int t0]) (rest := [.int l4, hw_vr b v145]) ⟨hx, hb, hml, hown, hts⟩ (c12_turnsAs l D b e165) (cwV 7 hts (hw_gV hw_m588 hw_m589 hw_m590 hw_m5 hw_m591) rfl rfl rfl (by decide +kernel) ⟨(Nat.le_of_ble_eq_true rfl), (Nat.le_of_ble_eq_true rfl)⟩) (hw_preV (ci := 12) hE hR rfl (by decide) (hw_q_of ht165)) rfl rfl hl.sz rfl (lv_room (hw_sm (List.forall_mem_cons.mpr ⟨rfl, (List.forall_mem_cons.mpr ⟨(hw_vr_cat _ _), (fun _ h => absurd h List.not_mem_nil)⟩)⟩) (Nat.le_of_ble_eq_true rfl))) dX12_goesThrough_165 ⟨(Nat.le_of_ble_eq_true rfl), (Nat.le_of_ble_eq_true rfl)⟩) hS (fun _ _ hR hS => ?_)
  obtain ⟨σ168, e168, hm⟩ := hw_bs hm
  refine hw_iast hx hb hK hR hS e168 dX12_goesThrough_168 (fun _ _ hR hS => ?_)
  refine hw_aload_n hx hb dX12_goesThrough_169 rfl (hl.at 1 rfl) ?_
  obtain ⟨v170, e170, hm⟩ := hw_bs hm
  refine hw_getP hx hb hw_cf12 hts hown hK hR e170 (by decide) rfl (hts _ hw_m81) (fun _ h9 => h9) dX12_goesThrough_170 ?_
  refine lv_iload hx hb dX12_goesThrough_173 (hl.at 5 rfl) ?_
  refine hw_aload_n hx hb dX12_goesThrough_175 rfl (hl.at 1 rfl) ?_
  refine lv_iload_n hx hb dX12_goesThrough_176 rfl (hl.at 2 rfl) ?_
  refine lv_iload hx hb dX12_goesThrough_177 (hl.at 8 rfl) ?_
  refine hw_aload_n hx hb dX12_goesThrough_179 rfl (hl.at 1 rfl) ?_
  obtain ⟨v180, e180, hm⟩ := hw_bs hm
  refine hw_getP hx hb hw_cf12 hts hown hK hR e180 (by decide) rfl (hts _ hw_m82) (fun _ h9 => h9) dX12_goesThrough_180 ?_
  refine lv_iload hx hb dX12_goesThrough_183 (hl.at 5 rfl) ?_
  obtain ⟨v185, e185, hm⟩ := hw_bs hm
  refine hw_iald hx hb hK hR e185 dX12_goesThrough_185 ?_
  obtain ⟨a186, g186, hm⟩ := hw_bs hm
  obtain ⟨rfl, ht186⟩ := hw_rv_th g186
  obtain ⟨v186, e186, hm⟩ := hw_bs hm
  refine hw_cRI (va_runV (As := [.int l1, .int l8, .int v185]) (rest := [.int l4, hw_vr b v170]) ⟨hx, hb, hml, hown, hts⟩ (c12_formBy l D b e186) (cwV 3 hts (hw_gV hw_m596 hw_m597 hw_m598 hw_m5 hw_m599) rfl rfl rfl (by decide +kernel) ⟨(Nat.le_of_ble_eq_true rfl), (Nat.le_of_ble_eq_true rfl)⟩) (hw_preV (ci := 12) hE hR rfl (by decide) (hw_q_of ht186)) rfl rfl hl.sz rfl (lv_room (hw_sm (List.forall_mem_cons.mpr ⟨rfl, (List.forall_mem_cons.mpr ⟨(hw_vr_cat _ _), (fun _ h => absurd h List.not_mem_nil)⟩)⟩) (Nat.le_of_ble_eq_true rfl))) dX12_goesThrough_186 ⟨(Nat.le_of_ble_eq_true rfl), (Nat.le_of_ble_eq_true rfl)⟩) ?_
  obtain ⟨σ189, e189, hm⟩ := hw_bs hm
  refine hw_iast hx hb hK hR hS e189 dX12_goesThrough_189 (fun _ _ hR hS => ?_)
  refine hw_aload_n hx hb dX12_goesThrough_190 rfl (hl.at 1 rfl) ?_
  obtain ⟨v191, e191, hm⟩ := hw_bs hm
  refine hw_getP hx hb hw_cf12 hts hown hK hR e191 (by decide) rfl (hts _ hw_m81) (fun _ h9 => h9) dX12_goesThrough_191 ?_
  refine lv_iload hx hb dX12_goesThrough_194 (hl.at 5 rfl) ?_
  obtain ⟨v196, e196, hm⟩ := hw_bs hm
  refine hw_iald hx hb hK hR e196 dX12_goesThrough_196 ?_
  refine lv_if_ne (tgt := 207) hx hb dX12_goesThrough_197 (by decide) (fun c197 => ?_) (fun c197 => ?_)
  · have hm := hw_in hm c197
    refine hw_aload_n hx hb dX12_goesThrough_207 rfl (hl.at 1 rfl) ?_
    obtain ⟨v208, e208, hm⟩ := hw_bs hm
    refine hw_getP hx hb hw_cf12 hts hown hK hR e208 (by decide) rfl (hts _ hw_m81) (fun _ h9 => h9) dX12_goesThrough_208 ?_
    refine lv_iload hx hb dX12_goesThrough_211 (hl.at 5 rfl) ?_
    obtain ⟨v213, e213, hm⟩ := hw_bs hm
    refine hw_iald hx hb hK hR e213 dX12_goesThrough_213 ?_
    refine lv_iconst (v := 4) hx hb dX12_goesThrough_214 (by decide) ?_
    refine lv_icmp_ne (tgt := 222) hx hb dX12_goesThrough_215 (by decide) (fun c215 => ?_) (fun c215 => ?_)
    · have hm := hw_in hm c215
      refine lv_iload_n hx hb dX12_goesThrough_222 rfl (hl.at 4 rfl) ?_
      exact w12_goesThrough_b223 C0 hk15 hm hR hS (hl.sub [1, 2, 3, 5] rfl)
    · have hm := hw_ip hm c215
      refine lv_iconst (v := 0) hx hb dX12_goesThrough_218 (by decide) ?_
      refine lv_goto (tgt := 223) hx hb dX12_goesThrough_219 (by decide) ?_
      exact w12_goesThrough_b223 C0 hk15 hm hR hS (hl.sub [1, 2, 3, 5] rfl)
  · have hm := hw_ip hm c197
    refine lv_iload_n hx hb dX12_goesThrough_200 rfl (hl.at 4 rfl) ?_
    refine lv_iload hx hb dX12_goesThrough_201 (hl.at 7 rfl) ?_
    refine lv_iadd hx hb dX12_goesThrough_203 ?_
    refine lv_goto (tgt := 223) hx hb dX12_goesThrough_204 (by decide) ?_
    exact w12_goesThrough_b223 C0 hk15 hm hR hS (hl.sub [1, 2, 3, 5] rfl)
def m12_goesThrough_b15 : Nat → Nat → Int32 → Int32 → Int32 → Int32 → hw_S → Option hw_S
  | 0, _, _, _, _, _, _ => none
  | n + 1, x0, l1, l2, l3, l4, σ =>
  (hw_gP (hw_q 12) 1 (some x0) σ).bind fun v18 =>
  (hw_aI 0 v18 (3 : Int32) σ).bind fun v22 =>
  (if v22 ≤ l4 then
  some σ
  else
  (hw_gP (hw_q 12) 1 (some x0) σ).bind fun v27 =>
  (hw_aI 0 v27 ((1332 : Int32) + l4) σ).bind fun v36 =>
  (hw_dv v36 (10000 : Int32)).bind fun v44 =>
  (hw_dv v36 (100 : Int32)).bind fun v51 =>
  (hw_rm v51 (100 : Int32)).bind fun v54 =>
  (hw_rm v36 (100 : Int32)).bind fun v61 =>
  (hw_rv (hw_q 12) (some x0) σ).bind fun a69 =>
  (m12_becomesHigh x0 l1 v44 σ).bind fun v69 =>
  (hw_tf v69).bind fun _ =>
  (hw_pI (hw_q 12) 15 (some x0) v69 σ).bind fun σ72 =>
  (hw_gP (hw_q 12) 1 (some x0) σ72).bind fun v76 =>
  (hw_aI 0 v76 ((130 : Int32) + l2) σ72).bind fun v84 =>
  (hw_gP (hw_q 12) 1 (some x0) σ72).bind fun v86 =>
  (hw_aI 0 v86 ((164 : Int32) + l1) σ72).bind fun v94 =>
  (hw_gP (hw_q 12) 1 (some x0) σ72).bind fun v102 =>
  (hw_aI 0 v102 ((140 : Int32) + l1) σ72).bind fun v110 =>
  (if v110 = (5 : Int32) then
  (if (v84 + (v94 * l4)) ≤ (99 : Int32) then
  m12_goesThrough_b142 (m12_goesThrough_b15 n) x0 l1 l2 l3 l4 v44 v54 v61 (v84 + (v94 * l4)) σ72
  else
  m12_goesThrough_b142 (m12_goesThrough_b15 n) x0 l1 l2 l3 l4 v44 v54 v61 (99 : Int32) σ72)
  else
  (hw_gP (hw_q 12) 1 (some x0) σ72).bind fun v116 =>
  (hw_aI 0 v116 ((130 : Int32) + l2) σ72).bind fun v124 =>
  m12_goesThrough_b142 (m12_goesThrough_b15 n) x0 l1 l2 l3 l4 v44 v54 v61 v124 σ72))
set_option maxRecDepth 100000 in
theorem w12_goesThrough_b15 {p : Program} {l : Launch} {e : Env} {s : State} {m : MethodId} {args : Array Value} {below : List Frame} {meth : Method} {c : Code} {D : hw_D} {b : Nat} {τ : hw_S} (C0 : hw_C p s m args meth c D yX12_goesThrough cX12_goesThrough 10 none) : ∀ (n : Nat) {x0 : Nat} {l1 : Int32} {l2 : Int32} {l3 : Int32} {l4 : Int32} {σ : hw_S} {H : Heap} {locs : List Loc} {ls : Array Slot}, m12_goesThrough_b15 n x0 l1 l2 l3 l4 σ = some τ → hw_R D b σ H → va_S (fun q => b ≤ q) s.heap H locs → hw_L ls 10 255 [(0, hw_vr b (some x0)), (1, .int l1), (2, .int l2), (3, .int l3), (4, .int l4)] → W p l e rm12_goesThrough s m args below meth c H locs 0 0 (MQ below (hw_QV D b τ) args s 0 0 (fun q => b ≤ q)) (F0 m 15 ls []) := by
  obtain ⟨hx, hb, hml, hr, hown, hts, hlk, hE, hnm⟩ := id C0
  have hown : s.vm.findClass RX12 = some m.cls := hown
  have hK := hE.1
  intro n
  induction n with
  | zero => intro _ _ _ _ _ _ _ _ _ hm; cases hm
  | succ n ih =>
    intro x0 l1 l2 l3 l4 σ H locs ls hm hR hS hl
    rw [m12_goesThrough_b15] at hm
    refine lv_iload hx hb dX12_goesThrough_15 (hl.at 4 rfl) ?_
    refine hw_aload_n hx hb dX12_goesThrough_17 rfl (hl.at 0 rfl) ?_
    obtain ⟨v18, e18, hm⟩ := hw_bs hm
    refine hw_getP hx hb hw_cf12 hts hown hK hR e18 (by decide) rfl (hts _ hw_m76) (fun _ h9 => h9) dX12_goesThrough_18 ?_
    refine lv_iconst (v := 3) hx hb dX12_goesThrough_21 (by decide) ?_
    obtain ⟨v22, e22, hm⟩ := hw_bs hm
    refine hw_iald hx hb hK hR e22 dX12_goesThrough_22 ?_
    refine lv_icmp_ge (tgt := 286) hx hb dX12_goesThrough_23 (by decide) (fun c23 => ?_) (fun c23 => ?_)
    · have hm := hw_ip hm c23
      exact hw_rWV hx hb hr hlk hR hS hm dX12_goesThrough_286
    · have hm := hw_in hm c23
      refine hw_aload_n hx hb dX12_goesThrough_26 rfl (hl.at 0 rfl) ?_
      obtain ⟨v27, e27, hm⟩ := hw_bs hm
      refine hw_getP hx hb hw_cf12 hts hown hK hR e27 (by decide) rfl (hts _ hw_m76) (fun _ h9 => h9) dX12_goesThrough_27 ?_
      refine lv_sipush (v := 1332) hx hb dX12_goesThrough_30 (by decide) ?_
      refine lv_iload hx hb dX12_goesThrough_33 (hl.at 4 rfl) ?_
      refine lv_iadd hx hb dX12_goesThrough_35 ?_
      obtain ⟨v36, e36, hm⟩ := hw_bs hm
      refine hw_iald hx hb hK hR e36 dX12_goesThrough_36 ?_
      refine hw_istore (lv' := [(5, .int v36), (0, hw_vr b (some x0)), (1, .int l1), (2, .int l2), (3, .int l3), (4, .int l4)]) hx hb dX12_goesThrough_37 hl (by decide) (by decide) rfl (fun ls hl => ?_)
      refine lv_iload hx hb dX12_goesThrough_39 (hl.at 0 rfl) ?_
      refine lv_sipush (v := 10000) hx hb dX12_goesThrough_41 (by decide) ?_
      obtain ⟨v44, e44, hm⟩ := hw_bs hm
      refine hw_idiv hx hb e44 dX12_goesThrough_44 ?_
      refine hw_istore (lv' := [(6, .int v44), (5, .int v36), (0, hw_vr b (some x0)), (1, .int l1), (2, .int l2), (3, .int l3), (4, .int l4)]) hx hb dX12_goesThrough_45 hl (by decide) (by decide) rfl (fun ls hl => ?_)
      refine lv_iload hx hb dX12_goesThrough_47 (hl.at 1 rfl) ?_
      refine lv_bipush (v := 100) hx hb dX12_goesThrough_49 (by decide) ?_
      obtain ⟨v51, e51, hm⟩ := hw_bs hm
      refine hw_idiv hx hb e51 dX12_goesThrough_51 ?_
      refine lv_bipush (v := 100) hx hb dX12_goesThrough_52 (by decide) ?_
      obtain ⟨v54, e54, hm⟩ := hw_bs hm
      refine hw_irem hx hb e54 dX12_goesThrough_54 ?_
      refine hw_istore (lv' := [(7, .int v54), (6, .int v44), (5, .int v36), (0, hw_vr b (some x0)), (1, .int l1), (2, .int l2), (3, .int l3), (4, .int l4)]) hx hb dX12_goesThrough_55 hl (by decide) (by decide) rfl (fun ls hl => ?_)
      refine lv_iload hx hb dX12_goesThrough_57 (hl.at 2 rfl) ?_
      refine lv_bipush (v := 100) hx hb dX12_goesThrough_59 (by decide) ?_
      obtain ⟨v61, e61, hm⟩ := hw_bs hm
      refine hw_irem hx hb e61 dX12_goesThrough_61 ?_
      refine hw_istore (lv' := [(8, .int v61), (7, .int v54), (6, .int v44), (5, .int v36), (0, hw_vr b (some x0)), (1, .int l1), (2, .int l2), (3, .int l3), (4, .int l4)]) hx hb dX12_goesThrough_62 hl (by decide) (by decide) rfl (fun ls hl => ?_)
      refine hw_aload_n hx hb dX12_goesThrough_64 rfl (hl.at 4 rfl) ?_
      refine hw_aload_n hx hb dX12_goesThrough_65 rfl (hl.at 4 rfl) ?_
      refine lv_iload_n hx hb dX12_goesThrough_66 rfl (hl.at 5 rfl) ?_
      refine lv_iload hx hb dX12_goesThrough_67 (hl.at 2 rfl) ?_
      obtain ⟨a69, g69, hm⟩ := hw_bs hm
      obtain ⟨rfl, ht69⟩ := hw_rv_th g69
      obtain ⟨v69, e69, hm⟩ := hw_bs hm
      refine hw_cRI (va_runV (As := [.int l1, .int v44]) (rest := [hw_vr b (some x0)]) ⟨hx, hb, hml, hown, hts⟩ (c12_becomesHigh l D b e69) (cwV 2 hts (hw_gV hw_m676 hw_m677 hw_m678 hw_m5 hw_m679) rfl rfl rfl (by decide +kernel) ⟨(Nat.le_of_ble_eq_true rfl), (Nat.le_of_ble_eq_true rfl)⟩) (hw_preV (ci := 12) hE hR rfl (by decide) (hw_q_of ht69)) rfl rfl hl.sz rfl (lv_room (hw_sm (List.forall_mem_cons.mpr ⟨(hw_vr_cat _ _), (fun _ h => absurd h List.not_mem_nil)⟩) (Nat.le_of_ble_eq_true rfl))) dX12_goesThrough_69 ⟨(Nat.le_of_ble_eq_true rfl), (Nat.le_of_ble_eq_true rfl)⟩) ?_
      obtain ⟨_, z72, hm⟩ := hw_bs hm
      obtain ⟨σ72, e72, hm⟩ := hw_bs hm
      refine hw_putZ hx hb hw_cf12 hts hown hK hR hS z72 e72 (by decide) rfl rfl (hts _ hw_m675) (fun _ h9 => h9) (Or.inl rfl) dX12_goesThrough_72 (fun _ _ hR hS => ?_)
      refine hw_aload_n hx hb dX12_goesThrough_75 rfl (hl.at 4 rfl) ?_
      obtain ⟨v76, e76, hm⟩ := hw_bs hm
      refine hw_getP hx hb hw_cf12 hts hown hK hR e76 (by decide) rfl (hts _ hw_m76) (fun _ h9 => h9) dX12_goesThrough_76 ?_
      refine lv_sipush (v := 130) hx hb dX12_goesThrough_79 (by decide) ?_
      refine lv_iload_n hx hb dX12_goesThrough_82 rfl (hl.at 6 rfl) ?_
      refine lv_iadd hx hb dX12_goesThrough_83 ?_
      obtain ⟨v84, e84, hm⟩ := hw_bs hm
      refine hw_iald hx hb hK hR e84 dX12_goesThrough_84 ?_
      refine hw_aload_n hx hb dX12_goesThrough_85 rfl (hl.at 4 rfl) ?_
      obtain ⟨v86, e86, hm⟩ := hw_bs hm
      refine hw_getP hx hb hw_cf12 hts hown hK hR e86 (by decide) rfl (hts _ hw_m76) (fun _ h9 => h9) dX12_goesThrough_86 ?_
      refine lv_sipush (v := 164) hx hb dX12_goesThrough_89 (by decide) ?_
      refine lv_iload_n hx hb dX12_goesThrough_92 rfl (hl.at 5 rfl) ?_
      refine lv_iadd hx hb dX12_goesThrough_93 ?_
      obtain ⟨v94, e94, hm⟩ := hw_bs hm
      refine hw_iald hx hb hK hR e94 dX12_goesThrough_94 ?_
      refine lv_iload hx hb dX12_goesThrough_95 (hl.at 8 rfl) ?_
      refine lv_imul hx hb dX12_goesThrough_97 ?_
      refine lv_iadd hx hb dX12_goesThrough_98 ?_
      refine hw_istore (lv' := [(9, .int (v84 + (v94 * l4))), (8, .int v61), (7, .int v54), (6, .int v44), (5, .int v36), (0, hw_vr b (some x0)), (1, .int l1), (2, .int l2), (3, .int l3), (4, .int l4)]) hx hb dX12_goesThrough_99 hl (by decide) (by decide) rfl (fun ls hl => ?_)
      refine hw_aload_n hx hb dX12_goesThrough_101 rfl (hl.at 5 rfl) ?_
      obtain ⟨v102, e102, hm⟩ := hw_bs hm
      refine hw_getP hx hb hw_cf12 hts hown hK hR e102 (by decide) rfl (hts _ hw_m76) (fun _ h9 => h9) dX12_goesThrough_102 ?_
      refine lv_sipush (v := 140) hx hb dX12_goesThrough_105 (by decide) ?_
      refine lv_iload_n hx hb dX12_goesThrough_108 rfl (hl.at 6 rfl) ?_
      refine lv_iadd hx hb dX12_goesThrough_109 ?_
      obtain ⟨v110, e110, hm⟩ := hw_bs hm
      refine hw_iald hx hb hK hR e110 dX12_goesThrough_110 ?_
      refine lv_iconst (v := 5) hx hb dX12_goesThrough_111 (by decide) ?_
      refine lv_icmp_eq (tgt := 128) hx hb dX12_goesThrough_112 (by decide) (fun c112 => ?_) (fun c112 => ?_)
      · have hm := hw_ip hm c112
        refine lv_iload hx hb dX12_goesThrough_128 (hl.at 0 rfl) ?_
        refine lv_bipush (v := 99) hx hb dX12_goesThrough_130 (by decide) ?_
        refine lv_icmp_le (tgt := 140) hx hb dX12_goesThrough_132 (by decide) (fun c132 => ?_) (fun c132 => ?_)
        · have hm := hw_ip hm c132
          refine lv_iload hx hb dX12_goesThrough_140 (hl.at 0 rfl) ?_
          exact w12_goesThrough_b142 C0 ih hm hR hS (hl.sub [5, 6, 7, 8, 9, 3, 2, 1] rfl)
        · have hm := hw_in hm c132
          refine lv_bipush (v := 99) hx hb dX12_goesThrough_135 (by decide) ?_
          refine lv_goto (tgt := 142) hx hb dX12_goesThrough_137 (by decide) ?_
          exact w12_goesThrough_b142 C0 ih hm hR hS (hl.sub [5, 6, 7, 8, 9, 3, 2, 1] rfl)
      · have hm := hw_in hm c112
        refine hw_aload_n hx hb dX12_goesThrough_115 rfl (hl.at 5 rfl) ?_
        obtain ⟨v116, e116, hm⟩ := hw_bs hm
        refine hw_getP hx hb hw_cf12 hts hown hK hR e116 (by decide) rfl (hts _ hw_m76) (fun _ h9 => h9) dX12_goesThrough_116 ?_
        refine lv_sipush (v := 130) hx hb dX12_goesThrough_119 (by decide) ?_
        refine lv_iload_n hx hb dX12_goesThrough_122 rfl (hl.at 7 rfl) ?_
        refine lv_iadd hx hb dX12_goesThrough_123 ?_
        obtain ⟨v124, e124, hm⟩ := hw_bs hm
        refine hw_iald hx hb hK hR e124 dX12_goesThrough_124 ?_
        refine lv_goto (tgt := 142) hx hb dX12_goesThrough_125 (by decide) ?_
        exact w12_goesThrough_b142 C0 ih hm hR hS (hl.sub [5, 6, 7, 8, 9, 3, 2, 1] rfl)
def m12_goesThrough (x0 : Nat) (l1 : Int32) (l2 : Int32) (σ : hw_S) : Option hw_S :=
  (hw_tf (0 : Int32)).bind fun _ =>
  (hw_pI (hw_q 12) 15 (some x0) (0 : Int32) σ).bind fun σ2 =>
  (hw_pI (hw_q 12) 14 (some x0) (0 : Int32) σ2).bind fun σ7 =>
  m12_goesThrough_b15 hw_fu x0 l1 l2 (0 : Int32) (0 : Int32) σ7
set_option maxRecDepth 100000 in
theorem w12_goesThrough_s {p : Program} {l : Launch} {e : Env} {s : State} {m : MethodId} {args : Array Value} {below : List Frame} {meth : Method} {c : Code} {D : hw_D} {b : Nat} {x0 : Nat} {l1 : Int32} {l2 : Int32} {σ : hw_S} {τ : hw_S} {H : Heap} {locs : List Loc} (hm : m12_goesThrough x0 l1 l2 σ = some τ) (C0 : hw_C p s m args meth c D yX12_goesThrough cX12_goesThrough 10 none) (hR : hw_R D b σ H) (hS : va_S (fun q => b ≤ q) s.heap H locs) {ls : Array Slot} (hl : hw_L ls 10 255 [(0, hw_vr b (some x0)), (1, .int l1), (2, .int l2)]) : W p l e rm12_goesThrough s m args below meth c H locs 0 0 (MQ below (hw_QV D b τ) args s 0 0 (fun q => b ≤ q)) (F0 m 0 ls []) := by
  obtain ⟨hx, hb, hml, hr, hown, hts, hlk, hE, hnm⟩ := id C0
  have hown : s.vm.findClass RX12 = some m.cls := hown
  have hK := hE.1
  unfold m12_goesThrough at hm
  refine hw_aload_n hx hb dX12_goesThrough_0 rfl (hl.at 0 rfl) ?_
  refine lv_iconst (v := 0) hx hb dX12_goesThrough_1 (by decide) ?_
  obtain ⟨_, z2, hm⟩ := hw_bs hm
  obtain ⟨σ2, e2, hm⟩ := hw_bs hm
  refine hw_putZ hx hb hw_cf12 hts hown hK hR hS z2 e2 (by decide) rfl rfl (hts _ hw_m675) (fun _ h9 => h9) (Or.inl rfl) dX12_goesThrough_2 (fun _ _ hR hS => ?_)
  refine hw_aload_n hx hb dX12_goesThrough_5 rfl (hl.at 0 rfl) ?_
  refine lv_iconst (v := 0) hx hb dX12_goesThrough_6 (by decide) ?_
  obtain ⟨σ7, e7, hm⟩ := hw_bs hm
  refine hw_putI hx hb hw_cf12 hts hown hK hR hS e7 (by decide) rfl rfl (hts _ hw_m670) (fun _ h9 => h9) (Or.inl rfl) dX12_goesThrough_7 (fun _ _ hR hS => ?_)
  refine lv_iconst (v := 0) hx hb dX12_goesThrough_10 (by decide) ?_
  refine hw_istore_n (lv' := [(3, .int (0 : Int32)), (0, hw_vr b (some x0)), (1, .int l1), (2, .int l2)]) hx hb dX12_goesThrough_11 rfl hl (by decide) (by decide) rfl (fun ls hl => ?_)
  refine lv_iconst (v := 0) hx hb dX12_goesThrough_12 (by decide) ?_
  refine hw_istore (lv' := [(4, .int (0 : Int32)), (3, .int (0 : Int32)), (0, hw_vr b (some x0)), (1, .int l1), (2, .int l2)]) hx hb dX12_goesThrough_13 hl (by decide) (by decide) rfl (fun ls hl => ?_)
  exact w12_goesThrough_b15 C0 hw_fu hm hR hS (hl.sub [2, 3, 4, 1, 0] rfl)
set_option maxRecDepth 100000 in
theorem c12_goesThrough (l : Launch) (D : hw_D) (b : Nat) {x0 : Nat} {l1 : Int32} {l2 : Int32} {σ : hw_S} {τ : hw_S} (hm : m12_goesThrough x0 l1 l2 σ = some τ) : Met l yX12_goesThrough (Cond.code yX12_goesThrough cX12_goesThrough 10 none :: wsL_law) rm12_goesThrough (hw_P1 D b σ [hw_vr b (some x0), .int l1, .int l2]) (hw_QV D b τ) 0 0 (fun q => b ≤ q) := by
  refine hw_start1 (by decide +kernel) (by exact Nat.le_of_ble_eq_true rfl) ?_
  intro p e s m below meth c ls C0 hR hS hl
  have hl : lv_has ls 10 [(0, hw_vr b (some x0)), (1, .int l1), (2, .int l2)] := by exact hl
  exact w12_goesThrough_s hm C0 hR hS ⟨hl, (List.forall_mem_cons.mpr ⟨(fun h => by rw [show (hw_vr b (some x0) : Value).category = 1 from (hw_vr_cat _ _)] at h; cases h), (List.forall_mem_cons.mpr ⟨(fun h => absurd (show (1 : Nat) = 2 from h) (by decide)), (List.forall_mem_cons.mpr ⟨(fun h => absurd (show (1 : Nat) = 2 from h) (by decide)), (fun _ h => absurd h List.not_mem_nil)⟩)⟩)⟩)⟩

abbrev rm12_run : Room := { frames := 4, cells := 0, slots := 0, locals := 114 }
def m12_run_b93 (x0 : Nat) (σ : hw_S) : Option (Int32 × hw_S) :=
  some (((-1) : Int32), σ)
set_option maxRecDepth 100000 in
theorem w12_run_b93 {p : Program} {l : Launch} {e : Env} {s : State} {m : MethodId} {args : Array Value} {below : List Frame} {meth : Method} {c : Code} {D : hw_D} {b : Nat} {r : Int32} {τ : hw_S} (C0 : hw_C p s m args meth c D yX12_run cX12_run 9 (some .int)) {x0 : Nat} {σ : hw_S} {H : Heap} {locs : List Loc} (hm : m12_run_b93 x0 σ = some (r, τ)) (hR : hw_R D b σ H) (hS : va_S (fun q => b ≤ q) s.heap H locs) {ls : Array Slot} (hl : hw_L ls 9 255 [(0, hw_vr b (some x0))]) : W p l e rm12_run s m args below meth c H locs 0 0 (MQ below (hw_QI D b τ r) args s 0 0 (fun q => b ≤ q)) (F0 m 93 ls []) := by
  obtain ⟨hx, hb, hml, hr, hown, hts, hlk, hE, hnm⟩ := id C0
  have hown : s.vm.findClass RX12 = some m.cls := hown
  have hK := hE.1
  unfold m12_run_b93 at hm
  refine lv_iconst (v := (-1)) hx hb dX12_run_93 (by decide) ?_
  exact hw_rWI hx hb hr hlk hR hS hm dX12_run_94
def m12_run_b248 (x0 : Nat) (t0 : Int32) (σ : hw_S) : Option (Int32 × hw_S) :=
  some (t0, σ)
set_option maxRecDepth 100000 in
theorem w12_run_b248 {p : Program} {l : Launch} {e : Env} {s : State} {m : MethodId} {args : Array Value} {below : List Frame} {meth : Method} {c : Code} {D : hw_D} {b : Nat} {r : Int32} {τ : hw_S} (C0 : hw_C p s m args meth c D yX12_run cX12_run 9 (some .int)) {x0 : Nat} {t0 : Int32} {σ : hw_S} {H : Heap} {locs : List Loc} (hm : m12_run_b248 x0 t0 σ = some (r, τ)) (hR : hw_R D b σ H) (hS : va_S (fun q => b ≤ q) s.heap H locs) {ls : Array Slot} (hl : hw_L ls 9 255 [(0, hw_vr b (some x0))]) : W p l e rm12_run s m args below meth c H locs 0 0 (MQ below (hw_QI D b τ r) args s 0 0 (fun q => b ≤ q)) (F0 m 248 ls [.int t0]) := by
  obtain ⟨hx, hb, hml, hr, hown, hts, hlk, hE, hnm⟩ := id C0
  have hown : s.vm.findClass RX12 = some m.cls := hown
  have hK := hE.1
  unfold m12_run_b248 at hm
  exact hw_rWI hx hb hr hlk hR hS hm dX12_run_248
def m12_run_b216 (k166 : Nat → Int32 → Int32 → Int32 → Int32 → Int32 → hw_S → Option (Int32 × hw_S)) (x0 : Nat) (l3 : Int32) (l4 : Int32) (l6 : Int32) (l8 : Int32) (t0 : Int32) (t1 : Int32) (σ : hw_S) : Option (Int32 × hw_S) :=
  k166 x0 l3 l4 l6 (t0 + t1) (l8 + 1) σ
set_option maxRecDepth 100000 in
theorem w12_run_b216 {p : Program} {l : Launch} {e : Env} {s : State} {m : MethodId} {args : Array Value} {below : List Frame} {meth : Method} {c : Code} {D : hw_D} {b : Nat} {k166 : Nat → Int32 → Int32 → Int32 → Int32 → Int32 → hw_S → Option (Int32 × hw_S)} {r : Int32} {τ : hw_S} (C0 : hw_C p s m args meth c D yX12_run cX12_run 9 (some .int)) (hk166 : ∀ {x0 : Nat} {l3 : Int32} {l4 : Int32} {l6 : Int32} {l7 : Int32} {l8 : Int32} {σ : hw_S} {H : Heap} {locs : List Loc} {ls : Array Slot}, k166 x0 l3 l4 l6 l7 l8 σ = some (r, τ) → hw_R D b σ H → va_S (fun q => b ≤ q) s.heap H locs → hw_L ls 9 255 [(0, hw_vr b (some x0)), (3, .int l3), (4, .int l4), (6, .int l6), (7, .int l7), (8, .int l8)] → W p l e rm12_run s m args below meth c H locs 0 0 (MQ below (hw_QI D b τ r) args s 0 0 (fun q => b ≤ q)) (F0 m 166 ls [])) {x0 : Nat} {l3 : Int32} {l4 : Int32} {l6 : Int32} {l8 : Int32} {t0 : Int32} {t1 : Int32} {σ : hw_S} {H : Heap} {locs : List Loc} (hm : m12_run_b216 k166 x0 l3 l4 l6 l8 t0 t1 σ = some (r, τ)) (hR : hw_R D b σ H) (hS : va_S (fun q => b ≤ q) s.heap H locs) {ls : Array Slot} (hl : hw_L ls 9 255 [(0, hw_vr b (some x0)), (3, .int l3), (4, .int l4), (6, .int l6), (8, .int l8)]) : W p l e rm12_run s m args below meth c H locs 0 0 (MQ below (hw_QI D b τ r) args s 0 0 (fun q => b ≤ q)) (F0 m 216 ls [.int t1, .int t0]) := by
  obtain ⟨hx, hb, hml, hr, hown, hts, hlk, hE, hnm⟩ := id C0
  have hown : s.vm.findClass RX12 = some m.cls := hown
  have hK := hE.1
  unfold m12_run_b216 at hm
  refine lv_iadd hx hb dX12_run_216 ?_
  refine hw_istore (lv' := [(7, .int (t0 + t1)), (0, hw_vr b (some x0)), (3, .int l3), (4, .int l4), (6, .int l6), (8, .int l8)]) hx hb dX12_run_217 hl (by decide) (by decide) rfl (fun ls hl => ?_)
  refine hw_iinc (v := (l8 + 1)) (lv' := [(8, .int (l8 + 1)), (7, .int (t0 + t1)), (0, hw_vr b (some x0)), (3, .int l3), (4, .int l4), (6, .int l6)]) hx hb dX12_run_219 hl (k := 5) rfl rfl (by decide) (by decide) rfl (fun ls hl => ?_)
  refine lv_goto (tgt := 166) hx hb dX12_run_222 (by decide) ?_
  exact hk166 hm hR hS (hl.sub [2, 3, 4, 5, 1, 0] rfl)
def m12_run_b215 (k166 : Nat → Int32 → Int32 → Int32 → Int32 → Int32 → hw_S → Option (Int32 × hw_S)) (x0 : Nat) (l3 : Int32) (l4 : Int32) (l6 : Int32) (l8 : Int32) (t0 : Int32) (σ : hw_S) : Option (Int32 × hw_S) :=
  m12_run_b216 k166 x0 l3 l4 l6 l8 t0 (0 : Int32) σ
set_option maxRecDepth 100000 in
theorem w12_run_b215 {p : Program} {l : Launch} {e : Env} {s : State} {m : MethodId} {args : Array Value} {below : List Frame} {meth : Method} {c : Code} {D : hw_D} {b : Nat} {k166 : Nat → Int32 → Int32 → Int32 → Int32 → Int32 → hw_S → Option (Int32 × hw_S)} {r : Int32} {τ : hw_S} (C0 : hw_C p s m args meth c D yX12_run cX12_run 9 (some .int)) (hk166 : ∀ {x0 : Nat} {l3 : Int32} {l4 : Int32} {l6 : Int32} {l7 : Int32} {l8 : Int32} {σ : hw_S} {H : Heap} {locs : List Loc} {ls : Array Slot}, k166 x0 l3 l4 l6 l7 l8 σ = some (r, τ) → hw_R D b σ H → va_S (fun q => b ≤ q) s.heap H locs → hw_L ls 9 255 [(0, hw_vr b (some x0)), (3, .int l3), (4, .int l4), (6, .int l6), (7, .int l7), (8, .int l8)] → W p l e rm12_run s m args below meth c H locs 0 0 (MQ below (hw_QI D b τ r) args s 0 0 (fun q => b ≤ q)) (F0 m 166 ls [])) {x0 : Nat} {l3 : Int32} {l4 : Int32} {l6 : Int32} {l8 : Int32} {t0 : Int32} {σ : hw_S} {H : Heap} {locs : List Loc} (hm : m12_run_b215 k166 x0 l3 l4 l6 l8 t0 σ = some (r, τ)) (hR : hw_R D b σ H) (hS : va_S (fun q => b ≤ q) s.heap H locs) {ls : Array Slot} (hl : hw_L ls 9 255 [(0, hw_vr b (some x0)), (3, .int l3), (4, .int l4), (6, .int l6), (8, .int l8)]) : W p l e rm12_run s m args below meth c H locs 0 0 (MQ below (hw_QI D b τ r) args s 0 0 (fun q => b ≤ q)) (F0 m 215 ls [.int t0]) := by
  obtain ⟨hx, hb, hml, hr, hown, hts, hlk, hE, hnm⟩ := id C0
  have hown : s.vm.findClass RX12 = some m.cls := hown
  have hK := hE.1
  unfold m12_run_b215 at hm
  refine lv_iconst (v := 0) hx hb dX12_run_215 (by decide) ?_
  exact w12_run_b216 C0 hk166 hm hR hS (hl.sub [0, 1, 2, 3, 4] rfl)
def m12_run_b166 : Nat → Nat → Int32 → Int32 → Int32 → Int32 → Int32 → hw_S → Option (Int32 × hw_S)
  | 0, _, _, _, _, _, _, _ => none
  | n + 1, x0, l3, l4, l6, l7, l8, σ =>
  (if l4 < l8 then
  (if l3 = 0 then
  (hw_gI (hw_q 12) 14 (some x0) σ).bind fun v230 =>
  m12_run_b248 x0 v230 σ
  else
  (if l3 = (1 : Int32) then
  m12_run_b248 x0 l6 σ
  else
  m12_run_b248 x0 l7 σ))
  else
  (hw_gP (hw_q 12) 12 (some x0) σ).bind fun v176 =>
  (hw_aI 0 v176 l8 σ).bind fun v181 =>
  (if l8 ≤ 0 then
  m12_run_b215 (m12_run_b166 n) x0 l3 l4 (l6 + v181) l8 l7 σ
  else
  (hw_gP (hw_q 12) 11 (some x0) σ).bind fun v193 =>
  (hw_aI 0 v193 l8 σ).bind fun v198 =>
  (hw_gP (hw_q 12) 11 (some x0) σ).bind fun v200 =>
  (hw_aI 0 v200 (l8 - (1 : Int32)) σ).bind fun v207 =>
  (if v198 = v207 then
  m12_run_b215 (m12_run_b166 n) x0 l3 l4 (l6 + v181) l8 l7 σ
  else
  m12_run_b216 (m12_run_b166 n) x0 l3 l4 (l6 + v181) l8 l7 (1 : Int32) σ)))
set_option maxRecDepth 100000 in
theorem w12_run_b166 {p : Program} {l : Launch} {e : Env} {s : State} {m : MethodId} {args : Array Value} {below : List Frame} {meth : Method} {c : Code} {D : hw_D} {b : Nat} {r : Int32} {τ : hw_S} (C0 : hw_C p s m args meth c D yX12_run cX12_run 9 (some .int)) : ∀ (n : Nat) {x0 : Nat} {l3 : Int32} {l4 : Int32} {l6 : Int32} {l7 : Int32} {l8 : Int32} {σ : hw_S} {H : Heap} {locs : List Loc} {ls : Array Slot}, m12_run_b166 n x0 l3 l4 l6 l7 l8 σ = some (r, τ) → hw_R D b σ H → va_S (fun q => b ≤ q) s.heap H locs → hw_L ls 9 255 [(0, hw_vr b (some x0)), (3, .int l3), (4, .int l4), (6, .int l6), (7, .int l7), (8, .int l8)] → W p l e rm12_run s m args below meth c H locs 0 0 (MQ below (hw_QI D b τ r) args s 0 0 (fun q => b ≤ q)) (F0 m 166 ls []) := by
  obtain ⟨hx, hb, hml, hr, hown, hts, hlk, hE, hnm⟩ := id C0
  have hown : s.vm.findClass RX12 = some m.cls := hown
  have hK := hE.1
  intro n
  induction n with
  | zero => intro _ _ _ _ _ _ _ _ _ _ hm; cases hm
  | succ n ih =>
    intro x0 l3 l4 l6 l7 l8 σ H locs ls hm hR hS hl
    rw [m12_run_b166] at hm
    refine lv_iload hx hb dX12_run_166 (hl.at 5 rfl) ?_
    refine lv_iload hx hb dX12_run_168 (hl.at 2 rfl) ?_
    refine lv_icmp_gt (tgt := 225) hx hb dX12_run_170 (by decide) (fun c170 => ?_) (fun c170 => ?_)
    · have hm := hw_ip hm c170
      refine lv_iload_n hx hb dX12_run_225 rfl (hl.at 1 rfl) ?_
      refine lv_if_ne (tgt := 236) hx hb dX12_run_226 (by decide) (fun c226 => ?_) (fun c226 => ?_)
      · have hm := hw_in hm c226
        refine lv_iload_n hx hb dX12_run_236 rfl (hl.at 1 rfl) ?_
        refine lv_iconst (v := 1) hx hb dX12_run_237 (by decide) ?_
        refine lv_icmp_ne (tgt := 246) hx hb dX12_run_238 (by decide) (fun c238 => ?_) (fun c238 => ?_)
        · have hm := hw_in hm c238
          refine lv_iload hx hb dX12_run_246 (hl.at 4 rfl) ?_
          exact w12_run_b248 C0 hm hR hS (hl.sub [0] rfl)
        · have hm := hw_ip hm c238
          refine lv_iload hx hb dX12_run_241 (hl.at 3 rfl) ?_
          refine lv_goto (tgt := 248) hx hb dX12_run_243 (by decide) ?_
          exact w12_run_b248 C0 hm hR hS (hl.sub [0] rfl)
      · have hm := hw_ip hm c226
        refine hw_aload_n hx hb dX12_run_229 rfl (hl.at 0 rfl) ?_
        obtain ⟨v230, e230, hm⟩ := hw_bs hm
        refine hw_getI hx hb hw_cf12 hts hown hK hR e230 (by decide) rfl (hts _ hw_m670) (fun _ h9 => h9) dX12_run_230 ?_
        refine lv_goto (tgt := 248) hx hb dX12_run_233 (by decide) ?_
        exact w12_run_b248 C0 hm hR hS (hl.sub [0] rfl)
    · have hm := hw_in hm c170
      refine lv_iload hx hb dX12_run_173 (hl.at 3 rfl) ?_
      refine hw_aload_n hx hb dX12_run_175 rfl (hl.at 0 rfl) ?_
      obtain ⟨v176, e176, hm⟩ := hw_bs hm
      refine hw_getP hx hb hw_cf12 hts hown hK hR e176 (by decide) rfl (hts _ hw_m82) (fun _ h9 => h9) dX12_run_176 ?_
      refine lv_iload hx hb dX12_run_179 (hl.at 5 rfl) ?_
      obtain ⟨v181, e181, hm⟩ := hw_bs hm
      refine hw_iald hx hb hK hR e181 dX12_run_181 ?_
      refine lv_iadd hx hb dX12_run_182 ?_
      refine hw_istore (lv' := [(6, .int (l6 + v181)), (0, hw_vr b (some x0)), (3, .int l3), (4, .int l4), (7, .int l7), (8, .int l8)]) hx hb dX12_run_183 hl (by decide) (by decide) rfl (fun ls hl => ?_)
      refine lv_iload hx hb dX12_run_185 (hl.at 4 rfl) ?_
      refine lv_iload hx hb dX12_run_187 (hl.at 5 rfl) ?_
      refine lv_if_le (tgt := 215) hx hb dX12_run_189 (by decide) (fun c189 => ?_) (fun c189 => ?_)
      · have hm := hw_ip hm c189
        exact w12_run_b215 C0 ih hm hR hS (hl.sub [1, 2, 3, 0, 5] rfl)
      · have hm := hw_in hm c189
        refine hw_aload_n hx hb dX12_run_192 rfl (hl.at 1 rfl) ?_
        obtain ⟨v193, e193, hm⟩ := hw_bs hm
        refine hw_getP hx hb hw_cf12 hts hown hK hR e193 (by decide) rfl (hts _ hw_m81) (fun _ h9 => h9) dX12_run_193 ?_
        refine lv_iload hx hb dX12_run_196 (hl.at 5 rfl) ?_
        obtain ⟨v198, e198, hm⟩ := hw_bs hm
        refine hw_iald hx hb hK hR e198 dX12_run_198 ?_
        refine hw_aload_n hx hb dX12_run_199 rfl (hl.at 1 rfl) ?_
        obtain ⟨v200, e200, hm⟩ := hw_bs hm
        refine hw_getP hx hb hw_cf12 hts hown hK hR e200 (by decide) rfl (hts _ hw_m81) (fun _ h9 => h9) dX12_run_200 ?_
        refine lv_iload hx hb dX12_run_203 (hl.at 5 rfl) ?_
        refine lv_iconst (v := 1) hx hb dX12_run_205 (by decide) ?_
        refine lv_isub hx hb dX12_run_206 ?_
        obtain ⟨v207, e207, hm⟩ := hw_bs hm
        refine hw_iald hx hb hK hR e207 dX12_run_207 ?_
        refine lv_icmp_eq (tgt := 215) hx hb dX12_run_208 (by decide) (fun c208 => ?_) (fun c208 => ?_)
        · have hm := hw_ip hm c208
          exact w12_run_b215 C0 ih hm hR hS (hl.sub [1, 2, 3, 0, 5] rfl)
        · have hm := hw_in hm c208
          refine lv_iconst (v := 1) hx hb dX12_run_211 (by decide) ?_
          refine lv_goto (tgt := 216) hx hb dX12_run_212 (by decide) ?_
          exact w12_run_b216 C0 ih hm hR hS (hl.sub [1, 2, 3, 0, 5] rfl)
def m12_run_b156 (x0 : Nat) (t0 : Int32) (σ : hw_S) : Option (Int32 × hw_S) :=
  some (t0, σ)
set_option maxRecDepth 100000 in
theorem w12_run_b156 {p : Program} {l : Launch} {e : Env} {s : State} {m : MethodId} {args : Array Value} {below : List Frame} {meth : Method} {c : Code} {D : hw_D} {b : Nat} {r : Int32} {τ : hw_S} (C0 : hw_C p s m args meth c D yX12_run cX12_run 9 (some .int)) {x0 : Nat} {t0 : Int32} {σ : hw_S} {H : Heap} {locs : List Loc} (hm : m12_run_b156 x0 t0 σ = some (r, τ)) (hR : hw_R D b σ H) (hS : va_S (fun q => b ≤ q) s.heap H locs) {ls : Array Slot} (hl : hw_L ls 9 255 [(0, hw_vr b (some x0))]) : W p l e rm12_run s m args below meth c H locs 0 0 (MQ below (hw_QI D b τ r) args s 0 0 (fun q => b ≤ q)) (F0 m 156 ls [.int t0]) := by
  obtain ⟨hx, hb, hml, hr, hown, hts, hlk, hE, hnm⟩ := id C0
  have hown : s.vm.findClass RX12 = some m.cls := hown
  have hK := hE.1
  unfold m12_run_b156 at hm
  exact hw_rWI hx hb hr hlk hR hS hm dX12_run_156
def m12_run_b70 (x0 : Nat) (l1 : Int32) (l2 : Int32) (l3 : Int32) (l4 : Int32) (t0 : Int32) (σ : hw_S) : Option (Int32 × hw_S) :=
  (hw_rv (hw_q 12) (some x0) σ).bind fun a74 =>
  (m12_isLaw x0 l1 σ).bind fun v74 =>
  (if v74 = 0 then
  m12_run_b93 x0 σ
  else
  (hw_rv (hw_q 12) (some x0) σ).bind fun a82 =>
  (m12_isStuff x0 l2 σ).bind fun v82 =>
  (if v82 = 0 then
  m12_run_b93 x0 σ
  else
  (if t0 = 0 then
  m12_run_b93 x0 σ
  else
  (hw_rv (hw_q 12) (some x0) σ).bind fun a98 =>
  (m12_goesThrough x0 l1 l2 σ).bind fun σ98 =>
  (if l3 < (100 : Int32) then
  m12_run_b166 hw_fu x0 l3 l4 (0 : Int32) (0 : Int32) (0 : Int32) σ98
  else
  (if (200 : Int32) ≤ l3 then
  (if (300 : Int32) ≤ l3 then
  (hw_gP (hw_q 12) 13 (some x0) σ98).bind fun v147 =>
  (hw_aI 0 v147 (l3 - (300 : Int32)) σ98).bind fun v155 =>
  m12_run_b156 x0 v155 σ98
  else
  (hw_gP (hw_q 12) 12 (some x0) σ98).bind fun v134 =>
  (hw_aI 0 v134 (l3 - (200 : Int32)) σ98).bind fun v142 =>
  m12_run_b156 x0 v142 σ98)
  else
  (hw_gP (hw_q 12) 11 (some x0) σ98).bind fun v115 =>
  (hw_aI 0 v115 (l3 - (100 : Int32)) σ98).bind fun v122 =>
  m12_run_b156 x0 v122 σ98)))))
set_option maxRecDepth 100000 in
theorem w12_run_b70 {p : Program} {l : Launch} {e : Env} {s : State} {m : MethodId} {args : Array Value} {below : List Frame} {meth : Method} {c : Code} {D : hw_D} {b : Nat} {r : Int32} {τ : hw_S} (C0 : hw_C p s m args meth c D yX12_run cX12_run 9 (some .int)) {x0 : Nat} {l1 : Int32} {l2 : Int32} {l3 : Int32} {l4 : Int32} {t0 : Int32} {σ : hw_S} {H : Heap} {locs : List Loc} (hm : m12_run_b70 x0 l1 l2 l3 l4 t0 σ = some (r, τ)) (hR : hw_R D b σ H) (hS : va_S (fun q => b ≤ q) s.heap H locs) {ls : Array Slot} (hl : hw_L ls 9 255 [(0, hw_vr b (some x0)), (1, .int l1), (2, .int l2), (3, .int l3), (4, .int l4)]) : W p l e rm12_run s m args below meth c H locs 0 0 (MQ below (hw_QI D b τ r) args s 0 0 (fun q => b ≤ q)) (F0 m 70 ls [.int t0]) := by
  obtain ⟨hx, hb, hml, hr, hown, hts, hlk, hE, hnm⟩ := id C0
  have hown : s.vm.findClass RX12 = some m.cls := hown
  have hK := hE.1
  unfold m12_run_b70 at hm
  refine hw_istore (lv' := [(5, .int t0), (0, hw_vr b (some x0)), (1, .int l1), (2, .int l2), (3, .int l3), (4, .int l4)]) hx hb dX12_run_70 hl (by decide) (by decide) rfl (fun ls hl => ?_)
  refine hw_aload_n hx hb dX12_run_72 rfl (hl.at 1 rfl) ?_
  refine lv_iload_n hx hb dX12_run_73 rfl (hl.at 2 rfl) ?_
  obtain ⟨a74, g74, hm⟩ := hw_bs hm
  obtain ⟨rfl, ht74⟩ := hw_rv_th g74
  obtain ⟨v74, e74, hm⟩ := hw_bs hm
  refine hw_cRI (va_runV (As := [.int l1]) (rest := []) ⟨hx, hb, hml, hown, hts⟩ (c12_isLaw l D b e74) (cwV 1 hts (hw_gV hw_m434 hw_m435 hw_m436 hw_m5 hw_m437) rfl rfl rfl (by decide +kernel) ⟨(Nat.le_of_ble_eq_true rfl), (Nat.le_of_ble_eq_true rfl)⟩) (hw_preV (ci := 12) hE hR rfl (by decide) (hw_q_of ht74)) rfl rfl hl.sz rfl (lv_room (Nat.le_of_ble_eq_true rfl)) dX12_run_74 ⟨(Nat.le_of_ble_eq_true rfl), (Nat.le_of_ble_eq_true rfl)⟩) ?_
  refine lv_if_eq (tgt := 93) hx hb dX12_run_77 (by decide) (fun c77 => ?_) (fun c77 => ?_)
  · have hm := hw_ip hm c77
    exact w12_run_b93 C0 hm hR hS (hl.sub [1] rfl)
  · have hm := hw_in hm c77
    refine hw_aload_n hx hb dX12_run_80 rfl (hl.at 1 rfl) ?_
    refine lv_iload_n hx hb dX12_run_81 rfl (hl.at 3 rfl) ?_
    obtain ⟨a82, g82, hm⟩ := hw_bs hm
    obtain ⟨rfl, ht82⟩ := hw_rv_th g82
    obtain ⟨v82, e82, hm⟩ := hw_bs hm
    refine hw_cRI (va_runV (As := [.int l2]) (rest := []) ⟨hx, hb, hml, hown, hts⟩ (c12_isStuff l D b e82) (cwV 1 hts (hw_gV hw_m129 hw_m130 hw_m131 hw_m5 hw_m132) rfl rfl rfl (by decide +kernel) ⟨(Nat.le_of_ble_eq_true rfl), (Nat.le_of_ble_eq_true rfl)⟩) (hw_preV (ci := 12) hE hR rfl (by decide) (hw_q_of ht82)) rfl rfl hl.sz rfl (lv_room (Nat.le_of_ble_eq_true rfl)) dX12_run_82 ⟨(Nat.le_of_ble_eq_true rfl), (Nat.le_of_ble_eq_true rfl)⟩) ?_
    refine lv_if_eq (tgt := 93) hx hb dX12_run_85 (by decide) (fun c85 => ?_) (fun c85 => ?_)
    · have hm := hw_ip hm c85
      exact w12_run_b93 C0 hm hR hS (hl.sub [1] rfl)
    · have hm := hw_in hm c85
      refine lv_iload hx hb dX12_run_88 (hl.at 0 rfl) ?_
      refine lv_if_ne (tgt := 95) hx hb dX12_run_90 (by decide) (fun c90 => ?_) (fun c90 => ?_)
      · have hm := hw_in hm c90
        refine hw_aload_n hx hb dX12_run_95 rfl (hl.at 1 rfl) ?_
        refine lv_iload_n hx hb dX12_run_96 rfl (hl.at 2 rfl) ?_
        refine lv_iload_n hx hb dX12_run_97 rfl (hl.at 3 rfl) ?_
        obtain ⟨a98, g98, hm⟩ := hw_bs hm
        obtain ⟨rfl, ht98⟩ := hw_rv_th g98
        obtain ⟨σ98, e98, hm⟩ := hw_bs hm
        refine hw_cWV (va_runV (As := [.int l1, .int l2]) (rest := []) ⟨hx, hb, hml, hown, hts⟩ (c12_goesThrough l D b e98) (cwV 2 hts (hw_gV hw_m671 hw_m672 hw_m673 hw_m5 hw_m674) rfl rfl rfl (by decide +kernel) ⟨(Nat.le_of_ble_eq_true rfl), (Nat.le_of_ble_eq_true rfl)⟩) (hw_preV (ci := 12) hE hR rfl (by decide) (hw_q_of ht98)) rfl rfl hl.sz rfl (lv_room (Nat.le_of_ble_eq_true rfl)) dX12_run_98 ⟨(Nat.le_of_ble_eq_true rfl), (Nat.le_of_ble_eq_true rfl)⟩) hS (fun _ _ hR hS => ?_)
        refine lv_iload_n hx hb dX12_run_101 rfl (hl.at 4 rfl) ?_
        refine lv_bipush (v := 100) hx hb dX12_run_102 (by decide) ?_
        refine lv_icmp_lt (tgt := 157) hx hb dX12_run_104 (by decide) (fun c104 => ?_) (fun c104 => ?_)
        · have hm := hw_ip hm c104
          refine lv_iconst (v := 0) hx hb dX12_run_157 (by decide) ?_
          refine hw_istore (lv' := [(6, .int (0 : Int32)), (5, .int t0), (0, hw_vr b (some x0)), (1, .int l1), (2, .int l2), (3, .int l3), (4, .int l4)]) hx hb dX12_run_158 hl (by decide) (by decide) rfl (fun ls hl => ?_)
          refine lv_iconst (v := 0) hx hb dX12_run_160 (by decide) ?_
          refine hw_istore (lv' := [(7, .int (0 : Int32)), (6, .int (0 : Int32)), (5, .int t0), (0, hw_vr b (some x0)), (1, .int l1), (2, .int l2), (3, .int l3), (4, .int l4)]) hx hb dX12_run_161 hl (by decide) (by decide) rfl (fun ls hl => ?_)
          refine lv_iconst (v := 0) hx hb dX12_run_163 (by decide) ?_
          refine hw_istore (lv' := [(8, .int (0 : Int32)), (7, .int (0 : Int32)), (6, .int (0 : Int32)), (5, .int t0), (0, hw_vr b (some x0)), (1, .int l1), (2, .int l2), (3, .int l3), (4, .int l4)]) hx hb dX12_run_164 hl (by decide) (by decide) rfl (fun ls hl => ?_)
          exact w12_run_b166 C0 hw_fu hm hR hS (hl.sub [4, 7, 8, 2, 1, 0] rfl)
        · have hm := hw_in hm c104
          refine lv_iload_n hx hb dX12_run_107 rfl (hl.at 4 rfl) ?_
          refine lv_sipush (v := 200) hx hb dX12_run_108 (by decide) ?_
          refine lv_icmp_ge (tgt := 126) hx hb dX12_run_111 (by decide) (fun c111 => ?_) (fun c111 => ?_)
          · have hm := hw_ip hm c111
            refine lv_iload_n hx hb dX12_run_126 rfl (hl.at 4 rfl) ?_
            refine lv_sipush (v := 300) hx hb dX12_run_127 (by decide) ?_
            refine lv_icmp_ge (tgt := 146) hx hb dX12_run_130 (by decide) (fun c130 => ?_) (fun c130 => ?_)
            · have hm := hw_ip hm c130
              refine hw_aload_n hx hb dX12_run_146 rfl (hl.at 1 rfl) ?_
              obtain ⟨v147, e147, hm⟩ := hw_bs hm
              refine hw_getP hx hb hw_cf12 hts hown hK hR e147 (by decide) rfl (hts _ hw_m83) (fun _ h9 => h9) dX12_run_147 ?_
              refine lv_iload_n hx hb dX12_run_150 rfl (hl.at 4 rfl) ?_
              refine lv_sipush (v := 300) hx hb dX12_run_151 (by decide) ?_
              refine lv_isub hx hb dX12_run_154 ?_
              obtain ⟨v155, e155, hm⟩ := hw_bs hm
              refine hw_iald hx hb hK hR e155 dX12_run_155 ?_
              exact w12_run_b156 C0 hm hR hS (hl.sub [1] rfl)
            · have hm := hw_in hm c130
              refine hw_aload_n hx hb dX12_run_133 rfl (hl.at 1 rfl) ?_
              obtain ⟨v134, e134, hm⟩ := hw_bs hm
              refine hw_getP hx hb hw_cf12 hts hown hK hR e134 (by decide) rfl (hts _ hw_m82) (fun _ h9 => h9) dX12_run_134 ?_
              refine lv_iload_n hx hb dX12_run_137 rfl (hl.at 4 rfl) ?_
              refine lv_sipush (v := 200) hx hb dX12_run_138 (by decide) ?_
              refine lv_isub hx hb dX12_run_141 ?_
              obtain ⟨v142, e142, hm⟩ := hw_bs hm
              refine hw_iald hx hb hK hR e142 dX12_run_142 ?_
              refine lv_goto (tgt := 156) hx hb dX12_run_143 (by decide) ?_
              exact w12_run_b156 C0 hm hR hS (hl.sub [1] rfl)
          · have hm := hw_in hm c111
            refine hw_aload_n hx hb dX12_run_114 rfl (hl.at 1 rfl) ?_
            obtain ⟨v115, e115, hm⟩ := hw_bs hm
            refine hw_getP hx hb hw_cf12 hts hown hK hR e115 (by decide) rfl (hts _ hw_m81) (fun _ h9 => h9) dX12_run_115 ?_
            refine lv_iload_n hx hb dX12_run_118 rfl (hl.at 4 rfl) ?_
            refine lv_bipush (v := 100) hx hb dX12_run_119 (by decide) ?_
            refine lv_isub hx hb dX12_run_121 ?_
            obtain ⟨v122, e122, hm⟩ := hw_bs hm
            refine hw_iald hx hb hK hR e122 dX12_run_122 ?_
            refine lv_goto (tgt := 156) hx hb dX12_run_123 (by decide) ?_
            exact w12_run_b156 C0 hm hR hS (hl.sub [1] rfl)
      · have hm := hw_ip hm c90
        exact w12_run_b93 C0 hm hR hS (hl.sub [1] rfl)
def m12_run_b65 (x0 : Nat) (l1 : Int32) (l2 : Int32) (l3 : Int32) (l4 : Int32) (σ : hw_S) : Option (Int32 × hw_S) :=
  m12_run_b70 x0 l1 l2 l3 l4 (1 : Int32) σ
set_option maxRecDepth 100000 in
theorem w12_run_b65 {p : Program} {l : Launch} {e : Env} {s : State} {m : MethodId} {args : Array Value} {below : List Frame} {meth : Method} {c : Code} {D : hw_D} {b : Nat} {r : Int32} {τ : hw_S} (C0 : hw_C p s m args meth c D yX12_run cX12_run 9 (some .int)) {x0 : Nat} {l1 : Int32} {l2 : Int32} {l3 : Int32} {l4 : Int32} {σ : hw_S} {H : Heap} {locs : List Loc} (hm : m12_run_b65 x0 l1 l2 l3 l4 σ = some (r, τ)) (hR : hw_R D b σ H) (hS : va_S (fun q => b ≤ q) s.heap H locs) {ls : Array Slot} (hl : hw_L ls 9 255 [(0, hw_vr b (some x0)), (1, .int l1), (2, .int l2), (3, .int l3), (4, .int l4)]) : W p l e rm12_run s m args below meth c H locs 0 0 (MQ below (hw_QI D b τ r) args s 0 0 (fun q => b ≤ q)) (F0 m 65 ls []) := by
  obtain ⟨hx, hb, hml, hr, hown, hts, hlk, hE, hnm⟩ := id C0
  have hown : s.vm.findClass RX12 = some m.cls := hown
  have hK := hE.1
  unfold m12_run_b65 at hm
  refine lv_iconst (v := 1) hx hb dX12_run_65 (by decide) ?_
  refine lv_goto (tgt := 70) hx hb dX12_run_66 (by decide) ?_
  exact w12_run_b70 C0 hm hR hS (hl.sub [0, 1, 2, 3, 4] rfl)
def m12_run (x0 : Nat) (l1 : Int32) (l2 : Int32) (l3 : Int32) (σ : hw_S) : Option (Int32 × hw_S) :=
  (hw_gP (hw_q 12) 1 (some x0) σ).bind fun v1 =>
  (hw_aI 0 v1 (3 : Int32) σ).bind fun v5 =>
  (m12_in l3 (0 : Int32) (2 : Int32)).bind fun v13 =>
  (if v13 = 0 then
  (m12_in l3 (100 : Int32) ((100 : Int32) + (v5 - (1 : Int32)))).bind fun v27 =>
  (if v27 = 0 then
  (m12_in l3 (200 : Int32) ((200 : Int32) + (v5 - (1 : Int32)))).bind fun v43 =>
  (if v43 = 0 then
  (m12_in l3 (300 : Int32) ((300 : Int32) + (v5 - (1 : Int32)))).bind fun v59 =>
  (if v59 = 0 then
  m12_run_b70 x0 l1 l2 l3 (v5 - (1 : Int32)) (0 : Int32) σ
  else
  m12_run_b65 x0 l1 l2 l3 (v5 - (1 : Int32)) σ)
  else
  m12_run_b65 x0 l1 l2 l3 (v5 - (1 : Int32)) σ)
  else
  m12_run_b65 x0 l1 l2 l3 (v5 - (1 : Int32)) σ)
  else
  m12_run_b65 x0 l1 l2 l3 (v5 - (1 : Int32)) σ)
set_option maxRecDepth 100000 in
theorem w12_run_s {p : Program} {l : Launch} {e : Env} {s : State} {m : MethodId} {args : Array Value} {below : List Frame} {meth : Method} {c : Code} {D : hw_D} {b : Nat} {x0 : Nat} {l1 : Int32} {l2 : Int32} {l3 : Int32} {σ : hw_S} {r : Int32} {τ : hw_S} {H : Heap} {locs : List Loc} (hm : m12_run x0 l1 l2 l3 σ = some (r, τ)) (C0 : hw_C p s m args meth c D yX12_run cX12_run 9 (some .int)) (hR : hw_R D b σ H) (hS : va_S (fun q => b ≤ q) s.heap H locs) {ls : Array Slot} (hl : hw_L ls 9 255 [(0, hw_vr b (some x0)), (1, .int l1), (2, .int l2), (3, .int l3)]) : W p l e rm12_run s m args below meth c H locs 0 0 (MQ below (hw_QI D b τ r) args s 0 0 (fun q => b ≤ q)) (F0 m 0 ls []) := by
  obtain ⟨hx, hb, hml, hr, hown, hts, hlk, hE, hnm⟩ := id C0
  have hown : s.vm.findClass RX12 = some m.cls := hown
  have hK := hE.1
  unfold m12_run at hm
  refine hw_aload_n hx hb dX12_run_0 rfl (hl.at 0 rfl) ?_
  obtain ⟨v1, e1, hm⟩ := hw_bs hm
  refine hw_getP hx hb hw_cf12 hts hown hK hR e1 (by decide) rfl (hts _ hw_m76) (fun _ h9 => h9) dX12_run_1 ?_
  refine lv_iconst (v := 3) hx hb dX12_run_4 (by decide) ?_
  obtain ⟨v5, e5, hm⟩ := hw_bs hm
  refine hw_iald hx hb hK hR e5 dX12_run_5 ?_
  refine lv_iconst (v := 1) hx hb dX12_run_6 (by decide) ?_
  refine lv_isub hx hb dX12_run_7 ?_
  refine hw_istore (lv' := [(4, .int (v5 - (1 : Int32))), (0, hw_vr b (some x0)), (1, .int l1), (2, .int l2), (3, .int l3)]) hx hb dX12_run_8 hl (by decide) (by decide) rfl (fun ls hl => ?_)
  refine lv_iload_n hx hb dX12_run_10 rfl (hl.at 4 rfl) ?_
  refine lv_iconst (v := 0) hx hb dX12_run_11 (by decide) ?_
  refine lv_iconst (v := 2) hx hb dX12_run_12 (by decide) ?_
  obtain ⟨v13, e13, hm⟩ := hw_bs hm
  refine hw_cRI (va_runS (As := [.int l3, .int (0 : Int32), .int (2 : Int32)]) (rest := []) ⟨hx, hb, hml, hown, hts⟩ (c12_in l D e13) (cwS 3 hts (hw_gS hw_m112 hw_m113 hw_m5 hw_m114) rfl rfl rfl (by decide +kernel) ⟨(Nat.le_of_ble_eq_true rfl), (Nat.le_of_ble_eq_true rfl)⟩) (hw_pre0 hE) rfl rfl hl.sz rfl (lv_room (Nat.le_of_ble_eq_true rfl)) dX12_run_13 ⟨(Nat.le_of_ble_eq_true rfl), (Nat.le_of_ble_eq_true rfl)⟩) ?_
  refine lv_if_ne (tgt := 65) hx hb dX12_run_16 (by decide) (fun c16 => ?_) (fun c16 => ?_)
  · have hm := hw_in hm c16
    exact w12_run_b65 C0 hm hR hS (hl.sub [1, 2, 3, 4, 0] rfl)
  · have hm := hw_ip hm c16
    refine lv_iload_n hx hb dX12_run_19 rfl (hl.at 4 rfl) ?_
    refine lv_bipush (v := 100) hx hb dX12_run_20 (by decide) ?_
    refine lv_bipush (v := 100) hx hb dX12_run_22 (by decide) ?_
    refine lv_iload hx hb dX12_run_24 (hl.at 0 rfl) ?_
    refine lv_iadd hx hb dX12_run_26 ?_
    obtain ⟨v27, e27, hm⟩ := hw_bs hm
    refine hw_cRI (va_runS (As := [.int l3, .int (100 : Int32), .int ((100 : Int32) + (v5 - (1 : Int32)))]) (rest := []) ⟨hx, hb, hml, hown, hts⟩ (c12_in l D e27) (cwS 3 hts (hw_gS hw_m112 hw_m113 hw_m5 hw_m114) rfl rfl rfl (by decide +kernel) ⟨(Nat.le_of_ble_eq_true rfl), (Nat.le_of_ble_eq_true rfl)⟩) (hw_pre0 hE) rfl rfl hl.sz rfl (lv_room (Nat.le_of_ble_eq_true rfl)) dX12_run_27 ⟨(Nat.le_of_ble_eq_true rfl), (Nat.le_of_ble_eq_true rfl)⟩) ?_
    refine lv_if_ne (tgt := 65) hx hb dX12_run_30 (by decide) (fun c30 => ?_) (fun c30 => ?_)
    · have hm := hw_in hm c30
      exact w12_run_b65 C0 hm hR hS (hl.sub [1, 2, 3, 4, 0] rfl)
    · have hm := hw_ip hm c30
      refine lv_iload_n hx hb dX12_run_33 rfl (hl.at 4 rfl) ?_
      refine lv_sipush (v := 200) hx hb dX12_run_34 (by decide) ?_
      refine lv_sipush (v := 200) hx hb dX12_run_37 (by decide) ?_
      refine lv_iload hx hb dX12_run_40 (hl.at 0 rfl) ?_
      refine lv_iadd hx hb dX12_run_42 ?_
      obtain ⟨v43, e43, hm⟩ := hw_bs hm
      refine hw_cRI (va_runS (As := [.int l3, .int (200 : Int32), .int ((200 : Int32) + (v5 - (1 : Int32)))]) (rest := []) ⟨hx, hb, hml, hown, hts⟩ (c12_in l D e43) (cwS 3 hts (hw_gS hw_m112 hw_m113 hw_m5 hw_m114) rfl rfl rfl (by decide +kernel) ⟨(Nat.le_of_ble_eq_true rfl), (Nat.le_of_ble_eq_true rfl)⟩) (hw_pre0 hE) rfl rfl hl.sz rfl (lv_room (Nat.le_of_ble_eq_true rfl)) dX12_run_43 ⟨(Nat.le_of_ble_eq_true rfl), (Nat.le_of_ble_eq_true rfl)⟩) ?_
      refine lv_if_ne (tgt := 65) hx hb dX12_run_46 (by decide) (fun c46 => ?_) (fun c46 => ?_)
      · have hm := hw_in hm c46
        exact w12_run_b65 C0 hm hR hS (hl.sub [1, 2, 3, 4, 0] rfl)
      · have hm := hw_ip hm c46
        refine lv_iload_n hx hb dX12_run_49 rfl (hl.at 4 rfl) ?_
        refine lv_sipush (v := 300) hx hb dX12_run_50 (by decide) ?_
        refine lv_sipush (v := 300) hx hb dX12_run_53 (by decide) ?_
        refine lv_iload hx hb dX12_run_56 (hl.at 0 rfl) ?_
        refine lv_iadd hx hb dX12_run_58 ?_
        obtain ⟨v59, e59, hm⟩ := hw_bs hm
        refine hw_cRI (va_runS (As := [.int l3, .int (300 : Int32), .int ((300 : Int32) + (v5 - (1 : Int32)))]) (rest := []) ⟨hx, hb, hml, hown, hts⟩ (c12_in l D e59) (cwS 3 hts (hw_gS hw_m112 hw_m113 hw_m5 hw_m114) rfl rfl rfl (by decide +kernel) ⟨(Nat.le_of_ble_eq_true rfl), (Nat.le_of_ble_eq_true rfl)⟩) (hw_pre0 hE) rfl rfl hl.sz rfl (lv_room (Nat.le_of_ble_eq_true rfl)) dX12_run_59 ⟨(Nat.le_of_ble_eq_true rfl), (Nat.le_of_ble_eq_true rfl)⟩) ?_
        refine lv_if_eq (tgt := 69) hx hb dX12_run_62 (by decide) (fun c62 => ?_) (fun c62 => ?_)
        · have hm := hw_ip hm c62
          refine lv_iconst (v := 0) hx hb dX12_run_69 (by decide) ?_
          exact w12_run_b70 C0 hm hR hS (hl.sub [1, 2, 3, 4, 0] rfl)
        · have hm := hw_in hm c62
          exact w12_run_b65 C0 hm hR hS (hl.sub [1, 2, 3, 4, 0] rfl)
set_option maxRecDepth 100000 in
theorem c12_run (l : Launch) (D : hw_D) (b : Nat) {x0 : Nat} {l1 : Int32} {l2 : Int32} {l3 : Int32} {σ : hw_S} {r : Int32} {τ : hw_S} (hm : m12_run x0 l1 l2 l3 σ = some (r, τ)) : Met l yX12_run (Cond.code yX12_run cX12_run 9 (some .int) :: wsL_law) rm12_run (hw_P1 D b σ [hw_vr b (some x0), .int l1, .int l2, .int l3]) (hw_QI D b τ r) 0 0 (fun q => b ≤ q) := by
  refine hw_start1 (by decide +kernel) (by exact Nat.le_of_ble_eq_true rfl) ?_
  intro p e s m below meth c ls C0 hR hS hl
  have hl : lv_has ls 9 [(0, hw_vr b (some x0)), (1, .int l1), (2, .int l2), (3, .int l3)] := by exact hl
  exact w12_run_s hm C0 hR hS ⟨hl, (List.forall_mem_cons.mpr ⟨(fun h => by rw [show (hw_vr b (some x0) : Value).category = 1 from (hw_vr_cat _ _)] at h; cases h), (List.forall_mem_cons.mpr ⟨(fun h => absurd (show (1 : Nat) = 2 from h) (by decide)), (List.forall_mem_cons.mpr ⟨(fun h => absurd (show (1 : Nat) = 2 from h) (by decide)), (List.forall_mem_cons.mpr ⟨(fun h => absurd (show (1 : Nat) = 2 from h) (by decide)), (fun _ h => absurd h List.not_mem_nil)⟩)⟩)⟩)⟩)⟩

abbrev rm11_doingOf : Room := { frames := 0, cells := 0, slots := 0, locals := 0 }
def m11_doingOf (l0 : Int32) (l1 : Int32) : Option Int32 :=
  some ((l0 * (10000 : Int32)) + (l1 * (100 : Int32)))
set_option maxRecDepth 100000 in
theorem w11_doingOf_s {p : Program} {l : Launch} {e : Env} {s : State} {m : MethodId} {args : Array Value} {below : List Frame} {meth : Method} {c : Code} {D : hw_D} {l0 : Int32} {l1 : Int32} {r : Int32} (hm : m11_doingOf l0 l1 = some r) (C0 : hw_C p s m args meth c D yX11_doingOf cX11_doingOf 2 (some .int)) {ls : Array Slot} (hl : hw_L ls 2 255 [(0, .int l0), (1, .int l1)]) : W p l e rm11_doingOf s m args below meth c s.heap [] 0 0 (MQ below (hw_RI r) args s 0 0 hw_nof) (F0 m 0 ls []) := by
  obtain ⟨hx, hb, hml, hr, hown, hts, hlk, hE, hnm⟩ := id C0
  have hown : s.vm.findClass RX11 = some m.cls := hown
  unfold m11_doingOf at hm
  refine lv_iload_n hx hb dX11_doingOf_0 rfl (hl.at 0 rfl) ?_
  refine lv_sipush (v := 10000) hx hb dX11_doingOf_1 (by decide) ?_
  refine lv_imul hx hb dX11_doingOf_4 ?_
  refine lv_iload_n hx hb dX11_doingOf_5 rfl (hl.at 1 rfl) ?_
  refine lv_bipush (v := 100) hx hb dX11_doingOf_6 (by decide) ?_
  refine lv_imul hx hb dX11_doingOf_8 ?_
  refine lv_iadd hx hb dX11_doingOf_9 ?_
  exact hw_rRI hx hb hr hlk hm dX11_doingOf_10
set_option maxRecDepth 100000 in
theorem c11_doingOf (l : Launch) (D : hw_D) {l0 : Int32} {l1 : Int32} {r : Int32} (hm : m11_doingOf l0 l1 = some r) : Met l yX11_doingOf (Cond.code yX11_doingOf cX11_doingOf 2 (some .int) :: wsL_law) rm11_doingOf (hw_P0 D [.int l0, .int l1]) (hw_RI r) 0 0 hw_nof := by
  refine hw_start0 (by decide +kernel) (by exact Nat.le_of_ble_eq_true rfl) ?_
  intro p e s m below meth c ls C0 hl
  have hl : lv_has ls 2 [(0, .int l0), (1, .int l1)] := by exact hl
  exact w11_doingOf_s hm C0 ⟨hl, (List.forall_mem_cons.mpr ⟨(fun h => absurd (show (1 : Nat) = 2 from h) (by decide)), (List.forall_mem_cons.mpr ⟨(fun h => absurd (show (1 : Nat) = 2 from h) (by decide)), (fun _ h => absurd h List.not_mem_nil)⟩)⟩)⟩

abbrev rm11_goUp : Room := { frames := 4, cells := 0, slots := 0, locals := 95 }
def m11_goUp_b6 : Nat → Nat → Option Nat → Option Nat → Int32 → Int32 → Int32 → hw_S → Option hw_S
  | 0, _, _, _, _, _, _, _ => none
  | n + 1, x0, l1, l2, l3, l4, l5, σ =>
  (if (60 : Int32) < l5 then
  some σ
  else
  (hw_rv hw_qL l1 σ).bind fun a18 =>
  (m3_isHighAfter a18 l4 l5 σ).bind fun v18 =>
  (hw_gP (hw_q 11) 8 (some x0) σ).bind fun v24 =>
  (hw_gI (hw_q 9) 0 l2 σ).bind fun v32 =>
  (m11_doingOf l5 l3).bind fun v38 =>
  (hw_rv hw_qL l1 σ).bind fun a43 =>
  (m3_turnsIn a43 l2 v32 v38 v18 σ).bind fun v43 =>
  (hw_sI v24 l5 v43 σ).bind fun σ46 =>
  m11_goUp_b6 n x0 l1 l2 l3 v18 (l5 + 1) σ46)
set_option maxRecDepth 100000 in
theorem w11_goUp_b6 {p : Program} {l : Launch} {e : Env} {s : State} {m : MethodId} {args : Array Value} {below : List Frame} {meth : Method} {c : Code} {D : hw_D} {b : Nat} {τ : hw_S} (C0 : hw_C p s m args meth c D yX11_goUp cX11_goUp 6 none) : ∀ (n : Nat) {x0 : Nat} {l1 : Option Nat} {l2 : Option Nat} {l3 : Int32} {l4 : Int32} {l5 : Int32} {σ : hw_S} {H : Heap} {locs : List Loc} {ls : Array Slot}, m11_goUp_b6 n x0 l1 l2 l3 l4 l5 σ = some τ → hw_R D b σ H → va_S (fun q => b ≤ q) s.heap H locs → hw_L ls 6 255 [(0, hw_vr b (some x0)), (1, hw_vr b l1), (2, hw_vr b l2), (3, .int l3), (4, .int l4), (5, .int l5)] → W p l e rm11_goUp s m args below meth c H locs 0 0 (MQ below (hw_QV D b τ) args s 0 0 (fun q => b ≤ q)) (F0 m 6 ls []) := by
  obtain ⟨hx, hb, hml, hr, hown, hts, hlk, hE, hnm⟩ := id C0
  have hown : s.vm.findClass RX11 = some m.cls := hown
  have hK := hE.1
  intro n
  induction n with
  | zero => intro _ _ _ _ _ _ _ _ _ _ hm; cases hm
  | succ n ih =>
    intro x0 l1 l2 l3 l4 l5 σ H locs ls hm hR hS hl
    rw [m11_goUp_b6] at hm
    refine lv_iload hx hb dX11_goUp_6 (hl.at 5 rfl) ?_
    refine lv_bipush (v := 60) hx hb dX11_goUp_8 (by decide) ?_
    refine lv_icmp_gt (tgt := 53) hx hb dX11_goUp_10 (by decide) (fun c10 => ?_) (fun c10 => ?_)
    · have hm := hw_ip hm c10
      exact hw_rWV hx hb hr hlk hR hS hm dX11_goUp_53
    · have hm := hw_in hm c10
      refine hw_aload_n hx hb dX11_goUp_13 rfl (hl.at 1 rfl) ?_
      refine lv_iload hx hb dX11_goUp_14 (hl.at 4 rfl) ?_
      refine lv_iload hx hb dX11_goUp_16 (hl.at 5 rfl) ?_
      obtain ⟨a18, g18, hm⟩ := hw_bs hm
      obtain ⟨h18, ht18⟩ := hw_rv_of g18
      rw [h18]
      obtain ⟨ci18, C18, f18_1, f18_2, f18_3, f18_4⟩ := hw_sel7 (y := fun _ => yX3_isHighAfter) ht18 hw_m624 hw_m629 hw_m630 hw_m632 hw_m633 hw_m634 hw_m635
      obtain ⟨v18, e18, hm⟩ := hw_bs hm
      refine hw_cRI (va_runU (C := C18) (owner := RX3) (As := [.int l4, .int l5]) (rest := []) ⟨hx, hb, hml, hown, hts⟩ (c3_isHighAfter l D b e18) (va_cwU 2 hts (hw_gU hw_m622 hw_m623 f18_4 hw_m625 hw_m285 hw_m626) rfl rfl rfl rfl (by decide +kernel) ⟨(Nat.le_of_ble_eq_true rfl), (Nat.le_of_ble_eq_true rfl)⟩) (hw_preV hE hR f18_3 f18_2 f18_1) rfl rfl hl.sz rfl (lv_room (Nat.le_of_ble_eq_true rfl)) dX11_goUp_18 ⟨(Nat.le_of_ble_eq_true rfl), (Nat.le_of_ble_eq_true rfl)⟩) ?_
      refine hw_istore (lv' := [(4, .int v18), (0, hw_vr b (some x0)), (1, hw_vr b l1), (2, hw_vr b l2), (3, .int l3), (5, .int l5)]) hx hb dX11_goUp_21 hl (by decide) (by decide) rfl (fun ls hl => ?_)
      refine hw_aload_n hx hb dX11_goUp_23 rfl (hl.at 1 rfl) ?_
      obtain ⟨v24, e24, hm⟩ := hw_bs hm
      refine hw_getP hx hb hw_cf11 hts hown hK hR e24 (by decide) rfl (hts _ hw_m31) (fun _ h9 => h9) dX11_goUp_24 ?_
      refine lv_iload hx hb dX11_goUp_27 (hl.at 5 rfl) ?_
      refine hw_aload_n hx hb dX11_goUp_29 rfl (hl.at 2 rfl) ?_
      refine hw_aload_n hx hb dX11_goUp_30 rfl (hl.at 3 rfl) ?_
      refine hw_aload_n hx hb dX11_goUp_31 rfl (hl.at 3 rfl) ?_
      obtain ⟨v32, e32, hm⟩ := hw_bs hm
      refine hw_getI hx hb hw_cf9 hts hown hK hR e32 (by decide) rfl (hts _ hw_m119) (fun _ h9 => h9) dX11_goUp_32 ?_
      refine lv_iload hx hb dX11_goUp_35 (hl.at 5 rfl) ?_
      refine lv_iload_n hx hb dX11_goUp_37 rfl (hl.at 4 rfl) ?_
      obtain ⟨v38, e38, hm⟩ := hw_bs hm
      refine hw_cRI (va_runS (As := [.int l5, .int l3]) (rest := [.int v32, hw_vr b l2, hw_vr b l1, .int l5, hw_vr b v24]) ⟨hx, hb, hml, hown, hts⟩ (c11_doingOf l D e38) (cwS 2 hts (hw_gS hw_m688 hw_m689 hw_m2 hw_m690) rfl rfl rfl (by decide +kernel) ⟨(Nat.le_of_ble_eq_true rfl), (Nat.le_of_ble_eq_true rfl)⟩) (hw_pre0 hE) rfl rfl hl.sz rfl (lv_room (hw_sm (List.forall_mem_cons.mpr ⟨rfl, (List.forall_mem_cons.mpr ⟨(hw_vr_cat _ _), (List.forall_mem_cons.mpr ⟨(hw_vr_cat _ _), (List.forall_mem_cons.mpr ⟨rfl, (List.forall_mem_cons.mpr ⟨(hw_vr_cat _ _), (fun _ h => absurd h List.not_mem_nil)⟩)⟩)⟩)⟩)⟩) (Nat.le_of_ble_eq_true rfl))) dX11_goUp_38 ⟨(Nat.le_of_ble_eq_true rfl), (Nat.le_of_ble_eq_true rfl)⟩) ?_
      refine lv_iload hx hb dX11_goUp_41 (hl.at 0 rfl) ?_
      obtain ⟨a43, g43, hm⟩ := hw_bs hm
      obtain ⟨h43, ht43⟩ := hw_rv_of g43
      rw [h43]
      obtain ⟨ci43, C43, f43_1, f43_2, f43_3, f43_4⟩ := hw_sel7 (y := fun _ => yX3_turnsIn) ht43 hw_m499 hw_m545 hw_m546 hw_m548 hw_m549 hw_m550 hw_m551
      obtain ⟨v43, e43, hm⟩ := hw_bs hm
      refine hw_cRI (va_runU (C := C43) (owner := RX3) (As := [hw_vr b l2, .int v32, .int v38, .int v18]) (rest := [.int l5, hw_vr b v24]) ⟨hx, hb, hml, hown, hts⟩ (c3_turnsIn l D b e43) (va_cwU 4 hts (hw_gU hw_m497 hw_m498 f43_4 hw_m500 hw_m285 hw_m501) rfl rfl rfl rfl (by decide +kernel) ⟨(Nat.le_of_ble_eq_true rfl), (Nat.le_of_ble_eq_true rfl)⟩) (hw_preV hE hR f43_3 f43_2 f43_1) rfl rfl hl.sz rfl (lv_room (hw_sm (List.forall_mem_cons.mpr ⟨rfl, (List.forall_mem_cons.mpr ⟨(hw_vr_cat _ _), (fun _ h => absurd h List.not_mem_nil)⟩)⟩) (Nat.le_of_ble_eq_true rfl))) dX11_goUp_43 ⟨(Nat.le_of_ble_eq_true rfl), (Nat.le_of_ble_eq_true rfl)⟩) ?_
      obtain ⟨σ46, e46, hm⟩ := hw_bs hm
      refine hw_iast hx hb hK hR hS e46 dX11_goUp_46 (fun _ _ hR hS => ?_)
      refine hw_iinc (v := (l5 + 1)) (lv' := [(5, .int (l5 + 1)), (4, .int v18), (0, hw_vr b (some x0)), (1, hw_vr b l1), (2, hw_vr b l2), (3, .int l3)]) hx hb dX11_goUp_47 hl (k := 5) rfl rfl (by decide) (by decide) rfl (fun ls hl => ?_)
      refine lv_goto (tgt := 6) hx hb dX11_goUp_50 (by decide) ?_
      exact ih hm hR hS (hl.sub [2, 3, 4, 5, 1, 0] rfl)
def m11_goUp (x0 : Nat) (l1 : Option Nat) (l2 : Option Nat) (l3 : Int32) (σ : hw_S) : Option hw_S :=
  m11_goUp_b6 hw_fu x0 l1 l2 l3 (0 : Int32) (1 : Int32) σ
set_option maxRecDepth 100000 in
theorem w11_goUp_s {p : Program} {l : Launch} {e : Env} {s : State} {m : MethodId} {args : Array Value} {below : List Frame} {meth : Method} {c : Code} {D : hw_D} {b : Nat} {x0 : Nat} {l1 : Option Nat} {l2 : Option Nat} {l3 : Int32} {σ : hw_S} {τ : hw_S} {H : Heap} {locs : List Loc} (hm : m11_goUp x0 l1 l2 l3 σ = some τ) (C0 : hw_C p s m args meth c D yX11_goUp cX11_goUp 6 none) (hR : hw_R D b σ H) (hS : va_S (fun q => b ≤ q) s.heap H locs) {ls : Array Slot} (hl : hw_L ls 6 255 [(0, hw_vr b (some x0)), (1, hw_vr b l1), (2, hw_vr b l2), (3, .int l3)]) : W p l e rm11_goUp s m args below meth c H locs 0 0 (MQ below (hw_QV D b τ) args s 0 0 (fun q => b ≤ q)) (F0 m 0 ls []) := by
  obtain ⟨hx, hb, hml, hr, hown, hts, hlk, hE, hnm⟩ := id C0
  have hown : s.vm.findClass RX11 = some m.cls := hown
  have hK := hE.1
  unfold m11_goUp at hm
  refine lv_iconst (v := 0) hx hb dX11_goUp_0 (by decide) ?_
  refine hw_istore (lv' := [(4, .int (0 : Int32)), (0, hw_vr b (some x0)), (1, hw_vr b l1), (2, hw_vr b l2), (3, .int l3)]) hx hb dX11_goUp_1 hl (by decide) (by decide) rfl (fun ls hl => ?_)
  refine lv_iconst (v := 1) hx hb dX11_goUp_3 (by decide) ?_
  refine hw_istore (lv' := [(5, .int (1 : Int32)), (4, .int (0 : Int32)), (0, hw_vr b (some x0)), (1, hw_vr b l1), (2, hw_vr b l2), (3, .int l3)]) hx hb dX11_goUp_4 hl (by decide) (by decide) rfl (fun ls hl => ?_)
  exact w11_goUp_b6 C0 hw_fu hm hR hS (hl.sub [2, 3, 4, 5, 1, 0] rfl)
set_option maxRecDepth 100000 in
theorem c11_goUp (l : Launch) (D : hw_D) (b : Nat) {x0 : Nat} {l1 : Option Nat} {l2 : Option Nat} {l3 : Int32} {σ : hw_S} {τ : hw_S} (hm : m11_goUp x0 l1 l2 l3 σ = some τ) : Met l yX11_goUp (Cond.code yX11_goUp cX11_goUp 6 none :: wsL_law) rm11_goUp (hw_P1 D b σ [hw_vr b (some x0), hw_vr b l1, hw_vr b l2, .int l3]) (hw_QV D b τ) 0 0 (fun q => b ≤ q) := by
  refine hw_start1 (by decide +kernel) (by cases l1 <;> cases l2 <;> exact Nat.le_of_ble_eq_true rfl) ?_
  intro p e s m below meth c ls C0 hR hS hl
  have hl : lv_has ls 6 [(0, hw_vr b (some x0)), (1, hw_vr b l1), (2, hw_vr b l2), (3, .int l3)] := by cases l1 <;> cases l2 <;> exact hl
  exact w11_goUp_s hm C0 hR hS ⟨hl, (List.forall_mem_cons.mpr ⟨(fun h => by rw [show (hw_vr b (some x0) : Value).category = 1 from (hw_vr_cat _ _)] at h; cases h), (List.forall_mem_cons.mpr ⟨(fun h => by rw [show (hw_vr b l1 : Value).category = 1 from (hw_vr_cat _ _)] at h; cases h), (List.forall_mem_cons.mpr ⟨(fun h => by rw [show (hw_vr b l2 : Value).category = 1 from (hw_vr_cat _ _)] at h; cases h), (List.forall_mem_cons.mpr ⟨(fun h => absurd (show (1 : Nat) = 2 from h) (by decide)), (fun _ h => absurd h List.not_mem_nil)⟩)⟩)⟩)⟩)⟩

abbrev rm11_goDown : Room := { frames := 4, cells := 0, slots := 0, locals := 95 }
def m11_goDown_b7 : Nat → Nat → Option Nat → Option Nat → Int32 → Int32 → Int32 → hw_S → Option hw_S
  | 0, _, _, _, _, _, _, _ => none
  | n + 1, x0, l1, l2, l3, l4, l5, σ =>
  (if l5 < (1 : Int32) then
  some σ
  else
  (hw_rv hw_qL l1 σ).bind fun a18 =>
  (m3_isHighAfter a18 l4 l5 σ).bind fun v18 =>
  (hw_gP (hw_q 11) 9 (some x0) σ).bind fun v24 =>
  (hw_gI (hw_q 9) 0 l2 σ).bind fun v32 =>
  (m11_doingOf l5 l3).bind fun v38 =>
  (hw_rv hw_qL l1 σ).bind fun a43 =>
  (m3_turnsIn a43 l2 v32 v38 v18 σ).bind fun v43 =>
  (hw_sI v24 l5 v43 σ).bind fun σ46 =>
  m11_goDown_b7 n x0 l1 l2 l3 v18 (l5 + (-1)) σ46)
set_option maxRecDepth 100000 in
theorem w11_goDown_b7 {p : Program} {l : Launch} {e : Env} {s : State} {m : MethodId} {args : Array Value} {below : List Frame} {meth : Method} {c : Code} {D : hw_D} {b : Nat} {τ : hw_S} (C0 : hw_C p s m args meth c D yX11_goDown cX11_goDown 6 none) : ∀ (n : Nat) {x0 : Nat} {l1 : Option Nat} {l2 : Option Nat} {l3 : Int32} {l4 : Int32} {l5 : Int32} {σ : hw_S} {H : Heap} {locs : List Loc} {ls : Array Slot}, m11_goDown_b7 n x0 l1 l2 l3 l4 l5 σ = some τ → hw_R D b σ H → va_S (fun q => b ≤ q) s.heap H locs → hw_L ls 6 255 [(0, hw_vr b (some x0)), (1, hw_vr b l1), (2, hw_vr b l2), (3, .int l3), (4, .int l4), (5, .int l5)] → W p l e rm11_goDown s m args below meth c H locs 0 0 (MQ below (hw_QV D b τ) args s 0 0 (fun q => b ≤ q)) (F0 m 7 ls []) := by
  obtain ⟨hx, hb, hml, hr, hown, hts, hlk, hE, hnm⟩ := id C0
  have hown : s.vm.findClass RX11 = some m.cls := hown
  have hK := hE.1
  intro n
  induction n with
  | zero => intro _ _ _ _ _ _ _ _ _ _ hm; cases hm
  | succ n ih =>
    intro x0 l1 l2 l3 l4 l5 σ H locs ls hm hR hS hl
    rw [m11_goDown_b7] at hm
    refine lv_iload hx hb dX11_goDown_7 (hl.at 5 rfl) ?_
    refine lv_iconst (v := 1) hx hb dX11_goDown_9 (by decide) ?_
    refine lv_icmp_lt (tgt := 53) hx hb dX11_goDown_10 (by decide) (fun c10 => ?_) (fun c10 => ?_)
    · have hm := hw_ip hm c10
      exact hw_rWV hx hb hr hlk hR hS hm dX11_goDown_53
    · have hm := hw_in hm c10
      refine hw_aload_n hx hb dX11_goDown_13 rfl (hl.at 1 rfl) ?_
      refine lv_iload hx hb dX11_goDown_14 (hl.at 4 rfl) ?_
      refine lv_iload hx hb dX11_goDown_16 (hl.at 5 rfl) ?_
      obtain ⟨a18, g18, hm⟩ := hw_bs hm
      obtain ⟨h18, ht18⟩ := hw_rv_of g18
      rw [h18]
      obtain ⟨ci18, C18, f18_1, f18_2, f18_3, f18_4⟩ := hw_sel7 (y := fun _ => yX3_isHighAfter) ht18 hw_m624 hw_m629 hw_m630 hw_m632 hw_m633 hw_m634 hw_m635
      obtain ⟨v18, e18, hm⟩ := hw_bs hm
      refine hw_cRI (va_runU (C := C18) (owner := RX3) (As := [.int l4, .int l5]) (rest := []) ⟨hx, hb, hml, hown, hts⟩ (c3_isHighAfter l D b e18) (va_cwU 2 hts (hw_gU hw_m622 hw_m623 f18_4 hw_m625 hw_m285 hw_m626) rfl rfl rfl rfl (by decide +kernel) ⟨(Nat.le_of_ble_eq_true rfl), (Nat.le_of_ble_eq_true rfl)⟩) (hw_preV hE hR f18_3 f18_2 f18_1) rfl rfl hl.sz rfl (lv_room (Nat.le_of_ble_eq_true rfl)) dX11_goDown_18 ⟨(Nat.le_of_ble_eq_true rfl), (Nat.le_of_ble_eq_true rfl)⟩) ?_
      refine hw_istore (lv' := [(4, .int v18), (0, hw_vr b (some x0)), (1, hw_vr b l1), (2, hw_vr b l2), (3, .int l3), (5, .int l5)]) hx hb dX11_goDown_21 hl (by decide) (by decide) rfl (fun ls hl => ?_)
      refine hw_aload_n hx hb dX11_goDown_23 rfl (hl.at 1 rfl) ?_
      obtain ⟨v24, e24, hm⟩ := hw_bs hm
      refine hw_getP hx hb hw_cf11 hts hown hK hR e24 (by decide) rfl (hts _ hw_m32) (fun _ h9 => h9) dX11_goDown_24 ?_
      refine lv_iload hx hb dX11_goDown_27 (hl.at 5 rfl) ?_
      refine hw_aload_n hx hb dX11_goDown_29 rfl (hl.at 2 rfl) ?_
      refine hw_aload_n hx hb dX11_goDown_30 rfl (hl.at 3 rfl) ?_
      refine hw_aload_n hx hb dX11_goDown_31 rfl (hl.at 3 rfl) ?_
      obtain ⟨v32, e32, hm⟩ := hw_bs hm
      refine hw_getI hx hb hw_cf9 hts hown hK hR e32 (by decide) rfl (hts _ hw_m119) (fun _ h9 => h9) dX11_goDown_32 ?_
      refine lv_iload hx hb dX11_goDown_35 (hl.at 5 rfl) ?_
      refine lv_iload_n hx hb dX11_goDown_37 rfl (hl.at 4 rfl) ?_
      obtain ⟨v38, e38, hm⟩ := hw_bs hm
      refine hw_cRI (va_runS (As := [.int l5, .int l3]) (rest := [.int v32, hw_vr b l2, hw_vr b l1, .int l5, hw_vr b v24]) ⟨hx, hb, hml, hown, hts⟩ (c11_doingOf l D e38) (cwS 2 hts (hw_gS hw_m688 hw_m689 hw_m2 hw_m690) rfl rfl rfl (by decide +kernel) ⟨(Nat.le_of_ble_eq_true rfl), (Nat.le_of_ble_eq_true rfl)⟩) (hw_pre0 hE) rfl rfl hl.sz rfl (lv_room (hw_sm (List.forall_mem_cons.mpr ⟨rfl, (List.forall_mem_cons.mpr ⟨(hw_vr_cat _ _), (List.forall_mem_cons.mpr ⟨(hw_vr_cat _ _), (List.forall_mem_cons.mpr ⟨rfl, (List.forall_mem_cons.mpr ⟨(hw_vr_cat _ _), (fun _ h => absurd h List.not_mem_nil)⟩)⟩)⟩)⟩)⟩) (Nat.le_of_ble_eq_true rfl))) dX11_goDown_38 ⟨(Nat.le_of_ble_eq_true rfl), (Nat.le_of_ble_eq_true rfl)⟩) ?_
      refine lv_iload hx hb dX11_goDown_41 (hl.at 0 rfl) ?_
      obtain ⟨a43, g43, hm⟩ := hw_bs hm
      obtain ⟨h43, ht43⟩ := hw_rv_of g43
      rw [h43]
      obtain ⟨ci43, C43, f43_1, f43_2, f43_3, f43_4⟩ := hw_sel7 (y := fun _ => yX3_turnsIn) ht43 hw_m499 hw_m545 hw_m546 hw_m548 hw_m549 hw_m550 hw_m551
      obtain ⟨v43, e43, hm⟩ := hw_bs hm
      refine hw_cRI (va_runU (C := C43) (owner := RX3) (As := [hw_vr b l2, .int v32, .int v38, .int v18]) (rest := [.int l5, hw_vr b v24]) ⟨hx, hb, hml, hown, hts⟩ (c3_turnsIn l D b e43) (va_cwU 4 hts (hw_gU hw_m497 hw_m498 f43_4 hw_m500 hw_m285 hw_m501) rfl rfl rfl rfl (by decide +kernel) ⟨(Nat.le_of_ble_eq_true rfl), (Nat.le_of_ble_eq_true rfl)⟩) (hw_preV hE hR f43_3 f43_2 f43_1) rfl rfl hl.sz rfl (lv_room (hw_sm (List.forall_mem_cons.mpr ⟨rfl, (List.forall_mem_cons.mpr ⟨(hw_vr_cat _ _), (fun _ h => absurd h List.not_mem_nil)⟩)⟩) (Nat.le_of_ble_eq_true rfl))) dX11_goDown_43 ⟨(Nat.le_of_ble_eq_true rfl), (Nat.le_of_ble_eq_true rfl)⟩) ?_
      obtain ⟨σ46, e46, hm⟩ := hw_bs hm
      refine hw_iast hx hb hK hR hS e46 dX11_goDown_46 (fun _ _ hR hS => ?_)
      refine hw_iinc (v := (l5 + (-1))) (lv' := [(5, .int (l5 + (-1))), (4, .int v18), (0, hw_vr b (some x0)), (1, hw_vr b l1), (2, hw_vr b l2), (3, .int l3)]) hx hb dX11_goDown_47 hl (k := 5) rfl rfl (by decide) (by decide) rfl (fun ls hl => ?_)
      refine lv_goto (tgt := 7) hx hb dX11_goDown_50 (by decide) ?_
      exact ih hm hR hS (hl.sub [2, 3, 4, 5, 1, 0] rfl)
def m11_goDown (x0 : Nat) (l1 : Option Nat) (l2 : Option Nat) (l3 : Int32) (σ : hw_S) : Option hw_S :=
  m11_goDown_b7 hw_fu x0 l1 l2 l3 (1 : Int32) (60 : Int32) σ
set_option maxRecDepth 100000 in
theorem w11_goDown_s {p : Program} {l : Launch} {e : Env} {s : State} {m : MethodId} {args : Array Value} {below : List Frame} {meth : Method} {c : Code} {D : hw_D} {b : Nat} {x0 : Nat} {l1 : Option Nat} {l2 : Option Nat} {l3 : Int32} {σ : hw_S} {τ : hw_S} {H : Heap} {locs : List Loc} (hm : m11_goDown x0 l1 l2 l3 σ = some τ) (C0 : hw_C p s m args meth c D yX11_goDown cX11_goDown 6 none) (hR : hw_R D b σ H) (hS : va_S (fun q => b ≤ q) s.heap H locs) {ls : Array Slot} (hl : hw_L ls 6 255 [(0, hw_vr b (some x0)), (1, hw_vr b l1), (2, hw_vr b l2), (3, .int l3)]) : W p l e rm11_goDown s m args below meth c H locs 0 0 (MQ below (hw_QV D b τ) args s 0 0 (fun q => b ≤ q)) (F0 m 0 ls []) := by
  obtain ⟨hx, hb, hml, hr, hown, hts, hlk, hE, hnm⟩ := id C0
  have hown : s.vm.findClass RX11 = some m.cls := hown
  have hK := hE.1
  unfold m11_goDown at hm
  refine lv_iconst (v := 1) hx hb dX11_goDown_0 (by decide) ?_
  refine hw_istore (lv' := [(4, .int (1 : Int32)), (0, hw_vr b (some x0)), (1, hw_vr b l1), (2, hw_vr b l2), (3, .int l3)]) hx hb dX11_goDown_1 hl (by decide) (by decide) rfl (fun ls hl => ?_)
  refine lv_bipush (v := 60) hx hb dX11_goDown_3 (by decide) ?_
  refine hw_istore (lv' := [(5, .int (60 : Int32)), (4, .int (1 : Int32)), (0, hw_vr b (some x0)), (1, hw_vr b l1), (2, hw_vr b l2), (3, .int l3)]) hx hb dX11_goDown_5 hl (by decide) (by decide) rfl (fun ls hl => ?_)
  exact w11_goDown_b7 C0 hw_fu hm hR hS (hl.sub [2, 3, 4, 5, 1, 0] rfl)
set_option maxRecDepth 100000 in
theorem c11_goDown (l : Launch) (D : hw_D) (b : Nat) {x0 : Nat} {l1 : Option Nat} {l2 : Option Nat} {l3 : Int32} {σ : hw_S} {τ : hw_S} (hm : m11_goDown x0 l1 l2 l3 σ = some τ) : Met l yX11_goDown (Cond.code yX11_goDown cX11_goDown 6 none :: wsL_law) rm11_goDown (hw_P1 D b σ [hw_vr b (some x0), hw_vr b l1, hw_vr b l2, .int l3]) (hw_QV D b τ) 0 0 (fun q => b ≤ q) := by
  refine hw_start1 (by decide +kernel) (by cases l1 <;> cases l2 <;> exact Nat.le_of_ble_eq_true rfl) ?_
  intro p e s m below meth c ls C0 hR hS hl
  have hl : lv_has ls 6 [(0, hw_vr b (some x0)), (1, hw_vr b l1), (2, hw_vr b l2), (3, .int l3)] := by cases l1 <;> cases l2 <;> exact hl
  exact w11_goDown_s hm C0 hR hS ⟨hl, (List.forall_mem_cons.mpr ⟨(fun h => by rw [show (hw_vr b (some x0) : Value).category = 1 from (hw_vr_cat _ _)] at h; cases h), (List.forall_mem_cons.mpr ⟨(fun h => by rw [show (hw_vr b l1 : Value).category = 1 from (hw_vr_cat _ _)] at h; cases h), (List.forall_mem_cons.mpr ⟨(fun h => by rw [show (hw_vr b l2 : Value).category = 1 from (hw_vr_cat _ _)] at h; cases h), (List.forall_mem_cons.mpr ⟨(fun h => absurd (show (1 : Nat) = 2 from h) (by decide)), (fun _ h => absurd h List.not_mem_nil)⟩)⟩)⟩)⟩)⟩

abbrev rm11_curve : Room := { frames := 5, cells := 0, slots := 0, locals := 120 }
def m11_curve_b24 (x0 : Nat) (σ : hw_S) : Option (Int32 × hw_S) :=
  some (((-1) : Int32), σ)
set_option maxRecDepth 100000 in
theorem w11_curve_b24 {p : Program} {l : Launch} {e : Env} {s : State} {m : MethodId} {args : Array Value} {below : List Frame} {meth : Method} {c : Code} {D : hw_D} {b : Nat} {r : Int32} {τ : hw_S} (C0 : hw_C p s m args meth c D yX11_curve cX11_curve 8 (some .int)) {x0 : Nat} {σ : hw_S} {H : Heap} {locs : List Loc} (hm : m11_curve_b24 x0 σ = some (r, τ)) (hR : hw_R D b σ H) (hS : va_S (fun q => b ≤ q) s.heap H locs) {ls : Array Slot} (hl : hw_L ls 8 255 [(0, hw_vr b (some x0))]) : W p l e rm11_curve s m args below meth c H locs 0 0 (MQ below (hw_QI D b τ r) args s 0 0 (fun q => b ≤ q)) (F0 m 24 ls []) := by
  obtain ⟨hx, hb, hml, hr, hown, hts, hlk, hE, hnm⟩ := id C0
  have hown : s.vm.findClass RX11 = some m.cls := hown
  have hK := hE.1
  unfold m11_curve_b24 at hm
  refine lv_iconst (v := (-1)) hx hb dX11_curve_24 (by decide) ?_
  exact hw_rWI hx hb hr hlk hR hS hm dX11_curve_25
def m11_curve_b41 (x0 : Nat) (σ : hw_S) : Option (Int32 × hw_S) :=
  some (((-2) : Int32), σ)
set_option maxRecDepth 100000 in
theorem w11_curve_b41 {p : Program} {l : Launch} {e : Env} {s : State} {m : MethodId} {args : Array Value} {below : List Frame} {meth : Method} {c : Code} {D : hw_D} {b : Nat} {r : Int32} {τ : hw_S} (C0 : hw_C p s m args meth c D yX11_curve cX11_curve 8 (some .int)) {x0 : Nat} {σ : hw_S} {H : Heap} {locs : List Loc} (hm : m11_curve_b41 x0 σ = some (r, τ)) (hR : hw_R D b σ H) (hS : va_S (fun q => b ≤ q) s.heap H locs) {ls : Array Slot} (hl : hw_L ls 8 255 [(0, hw_vr b (some x0))]) : W p l e rm11_curve s m args below meth c H locs 0 0 (MQ below (hw_QI D b τ r) args s 0 0 (fun q => b ≤ q)) (F0 m 41 ls []) := by
  obtain ⟨hx, hb, hml, hr, hown, hts, hlk, hE, hnm⟩ := id C0
  have hown : s.vm.findClass RX11 = some m.cls := hown
  have hK := hE.1
  unfold m11_curve_b41 at hm
  refine lv_bipush (v := (-2)) hx hb dX11_curve_41 (by decide) ?_
  exact hw_rWI hx hb hr hlk hR hS hm dX11_curve_43
def m11_curve (x0 : Nat) (l1 : Int32) (l2 : Int32) (l3 : Int32) (l4 : Int32) (l5 : Int32) (σ : hw_S) : Option (Int32 × hw_S) :=
  (hw_rv (hw_q 11) (some x0) σ).bind fun a2 =>
  (m11_lawAt x0 l1 σ).bind fun v2 =>
  (hw_rv (hw_q 11) (some x0) σ).bind fun a9 =>
  (m11_stuffAt x0 l2 σ).bind fun v9 =>
  (if v2 = none then
  m11_curve_b24 x0 σ
  else
  (if v9 = none then
  m11_curve_b24 x0 σ
  else
  (m11_isFlow l3).bind fun v27 =>
  (if v27 = 0 then
  m11_curve_b41 x0 σ
  else
  (m11_isHeight l4).bind fun v35 =>
  (if v35 = 0 then
  m11_curve_b41 x0 σ
  else
  (if l5 = 0 then
  (hw_rv (hw_q 11) (some x0) σ).bind fun a72 =>
  (m11_goDown x0 v2 v9 l3 σ).bind fun σ72 =>
  (hw_gP (hw_q 11) 9 (some x0) σ72).bind fun v76 =>
  (hw_aI 0 v76 l4 σ72).bind fun v81 =>
  some (v81, σ72)
  else
  (hw_rv (hw_q 11) (some x0) σ).bind fun a55 =>
  (m11_goUp x0 v2 v9 l3 σ).bind fun σ55 =>
  (hw_gP (hw_q 11) 8 (some x0) σ55).bind fun v59 =>
  (hw_aI 0 v59 l4 σ55).bind fun v64 =>
  some (v64, σ55))))))
set_option maxRecDepth 100000 in
theorem w11_curve_s {p : Program} {l : Launch} {e : Env} {s : State} {m : MethodId} {args : Array Value} {below : List Frame} {meth : Method} {c : Code} {D : hw_D} {b : Nat} {x0 : Nat} {l1 : Int32} {l2 : Int32} {l3 : Int32} {l4 : Int32} {l5 : Int32} {σ : hw_S} {r : Int32} {τ : hw_S} {H : Heap} {locs : List Loc} (hm : m11_curve x0 l1 l2 l3 l4 l5 σ = some (r, τ)) (C0 : hw_C p s m args meth c D yX11_curve cX11_curve 8 (some .int)) (hR : hw_R D b σ H) (hS : va_S (fun q => b ≤ q) s.heap H locs) {ls : Array Slot} (hl : hw_L ls 8 255 [(0, hw_vr b (some x0)), (1, .int l1), (2, .int l2), (3, .int l3), (4, .int l4), (5, .int l5)]) : W p l e rm11_curve s m args below meth c H locs 0 0 (MQ below (hw_QI D b τ r) args s 0 0 (fun q => b ≤ q)) (F0 m 0 ls []) := by
  obtain ⟨hx, hb, hml, hr, hown, hts, hlk, hE, hnm⟩ := id C0
  have hown : s.vm.findClass RX11 = some m.cls := hown
  have hK := hE.1
  unfold m11_curve at hm
  refine hw_aload_n hx hb dX11_curve_0 rfl (hl.at 0 rfl) ?_
  refine lv_iload_n hx hb dX11_curve_1 rfl (hl.at 1 rfl) ?_
  obtain ⟨a2, g2, hm⟩ := hw_bs hm
  obtain ⟨rfl, ht2⟩ := hw_rv_th g2
  obtain ⟨v2, e2, hm⟩ := hw_bs hm
  refine hw_cRP (va_runV (As := [.int l1]) (rest := []) ⟨hx, hb, hml, hown, hts⟩ (c11_lawAt l D b e2) (cwV 1 hts (hw_gV hw_m426 hw_m427 hw_m428 hw_m2 hw_m429) rfl rfl rfl (by decide +kernel) ⟨(Nat.le_of_ble_eq_true rfl), (Nat.le_of_ble_eq_true rfl)⟩) (hw_preV (ci := 11) hE hR rfl (by decide) (hw_q_of ht2)) rfl rfl hl.sz rfl (lv_room (Nat.le_of_ble_eq_true rfl)) dX11_curve_2 ⟨(Nat.le_of_ble_eq_true rfl), (Nat.le_of_ble_eq_true rfl)⟩) ?_
  refine hw_asto (lv' := [(6, hw_vr b v2), (0, hw_vr b (some x0)), (1, .int l1), (2, .int l2), (3, .int l3), (4, .int l4), (5, .int l5)]) hx hb dX11_curve_5 hl (by decide) (by decide) rfl (fun ls hl => ?_)
  refine hw_aload_n hx hb dX11_curve_7 rfl (hl.at 1 rfl) ?_
  refine lv_iload_n hx hb dX11_curve_8 rfl (hl.at 3 rfl) ?_
  obtain ⟨a9, g9, hm⟩ := hw_bs hm
  obtain ⟨rfl, ht9⟩ := hw_rv_th g9
  obtain ⟨v9, e9, hm⟩ := hw_bs hm
  refine hw_cRP (va_runV (As := [.int l2]) (rest := []) ⟨hx, hb, hml, hown, hts⟩ (c11_stuffAt l D b e9) (cwV 1 hts (hw_gV hw_m121 hw_m122 hw_m123 hw_m2 hw_m124) rfl rfl rfl (by decide +kernel) ⟨(Nat.le_of_ble_eq_true rfl), (Nat.le_of_ble_eq_true rfl)⟩) (hw_preV (ci := 11) hE hR rfl (by decide) (hw_q_of ht9)) rfl rfl hl.sz rfl (lv_room (Nat.le_of_ble_eq_true rfl)) dX11_curve_9 ⟨(Nat.le_of_ble_eq_true rfl), (Nat.le_of_ble_eq_true rfl)⟩) ?_
  refine hw_asto (lv' := [(7, hw_vr b v9), (6, hw_vr b v2), (0, hw_vr b (some x0)), (1, .int l1), (2, .int l2), (3, .int l3), (4, .int l4), (5, .int l5)]) hx hb dX11_curve_12 hl (by decide) (by decide) rfl (fun ls hl => ?_)
  refine hw_aload hx hb dX11_curve_14 (hl.at 1 rfl) ?_
  refine hw_ifnull (tgt := 24) hx hb dX11_curve_16 (by decide) (fun c16 => ?_) (fun c16 => ?_)
  · have hm := hw_ip hm c16
    exact w11_curve_b24 C0 hm hR hS (hl.sub [2] rfl)
  · have hm := hw_in hm c16
    refine hw_aload hx hb dX11_curve_19 (hl.at 0 rfl) ?_
    refine hw_ifnonnull (tgt := 26) hx hb dX11_curve_21 (by decide) (fun c21 => ?_) (fun c21 => ?_)
    · have hm := hw_in hm c21
      refine lv_iload_n hx hb dX11_curve_26 rfl (hl.at 5 rfl) ?_
      obtain ⟨v27, e27, hm⟩ := hw_bs hm
      refine hw_cRI (va_runS (As := [.int l3]) (rest := []) ⟨hx, hb, hml, hown, hts⟩ (c11_isFlow l D e27) (cwS 1 hts (hw_gS hw_m454 hw_m455 hw_m2 hw_m456) rfl rfl rfl (by decide +kernel) ⟨(Nat.le_of_ble_eq_true rfl), (Nat.le_of_ble_eq_true rfl)⟩) (hw_pre0 hE) rfl rfl hl.sz rfl (lv_room (Nat.le_of_ble_eq_true rfl)) dX11_curve_27 ⟨(Nat.le_of_ble_eq_true rfl), (Nat.le_of_ble_eq_true rfl)⟩) ?_
      refine lv_if_eq (tgt := 41) hx hb dX11_curve_30 (by decide) (fun c30 => ?_) (fun c30 => ?_)
      · have hm := hw_ip hm c30
        exact w11_curve_b41 C0 hm hR hS (hl.sub [2] rfl)
      · have hm := hw_in hm c30
        refine lv_iload hx hb dX11_curve_33 (hl.at 6 rfl) ?_
        obtain ⟨v35, e35, hm⟩ := hw_bs hm
        refine hw_cRI (va_runS (As := [.int l4]) (rest := []) ⟨hx, hb, hml, hown, hts⟩ (c11_isHeight l D e35) (cwS 1 hts (hw_gS hw_m448 hw_m449 hw_m2 hw_m450) rfl rfl rfl (by decide +kernel) ⟨(Nat.le_of_ble_eq_true rfl), (Nat.le_of_ble_eq_true rfl)⟩) (hw_pre0 hE) rfl rfl hl.sz rfl (lv_room (Nat.le_of_ble_eq_true rfl)) dX11_curve_35 ⟨(Nat.le_of_ble_eq_true rfl), (Nat.le_of_ble_eq_true rfl)⟩) ?_
        refine lv_if_ne (tgt := 44) hx hb dX11_curve_38 (by decide) (fun c38 => ?_) (fun c38 => ?_)
        · have hm := hw_in hm c38
          refine lv_iload hx hb dX11_curve_44 (hl.at 7 rfl) ?_
          refine lv_if_eq (tgt := 66) hx hb dX11_curve_46 (by decide) (fun c46 => ?_) (fun c46 => ?_)
          · have hm := hw_ip hm c46
            refine hw_aload_n hx hb dX11_curve_66 rfl (hl.at 2 rfl) ?_
            refine hw_aload hx hb dX11_curve_67 (hl.at 1 rfl) ?_
            refine hw_aload hx hb dX11_curve_69 (hl.at 0 rfl) ?_
            refine lv_iload_n hx hb dX11_curve_71 rfl (hl.at 5 rfl) ?_
            obtain ⟨a72, g72, hm⟩ := hw_bs hm
            obtain ⟨rfl, ht72⟩ := hw_rv_th g72
            obtain ⟨σ72, e72, hm⟩ := hw_bs hm
            refine hw_cWV (va_runV (As := [hw_vr b v2, hw_vr b v9, .int l3]) (rest := []) ⟨hx, hb, hml, hown, hts⟩ (c11_goDown l D b e72) (cwV 3 hts (hw_gV hw_m691 hw_m692 hw_m693 hw_m2 hw_m694) rfl rfl rfl (by decide +kernel) ⟨(Nat.le_of_ble_eq_true rfl), (Nat.le_of_ble_eq_true rfl)⟩) (hw_preV (ci := 11) hE hR rfl (by decide) (hw_q_of ht72)) rfl rfl hl.sz rfl (lv_room (Nat.le_of_ble_eq_true rfl)) dX11_curve_72 ⟨(Nat.le_of_ble_eq_true rfl), (Nat.le_of_ble_eq_true rfl)⟩) hS (fun _ _ hR hS => ?_)
            refine hw_aload_n hx hb dX11_curve_75 rfl (hl.at 2 rfl) ?_
            obtain ⟨v76, e76, hm⟩ := hw_bs hm
            refine hw_getP hx hb hw_cf11 hts hown hK hR e76 (by decide) rfl (hts _ hw_m32) (fun _ h9 => h9) dX11_curve_76 ?_
            refine lv_iload hx hb dX11_curve_79 (hl.at 6 rfl) ?_
            obtain ⟨v81, e81, hm⟩ := hw_bs hm
            refine hw_iald hx hb hK hR e81 dX11_curve_81 ?_
            exact hw_rWI hx hb hr hlk hR hS hm dX11_curve_82
          · have hm := hw_in hm c46
            refine hw_aload_n hx hb dX11_curve_49 rfl (hl.at 2 rfl) ?_
            refine hw_aload hx hb dX11_curve_50 (hl.at 1 rfl) ?_
            refine hw_aload hx hb dX11_curve_52 (hl.at 0 rfl) ?_
            refine lv_iload_n hx hb dX11_curve_54 rfl (hl.at 5 rfl) ?_
            obtain ⟨a55, g55, hm⟩ := hw_bs hm
            obtain ⟨rfl, ht55⟩ := hw_rv_th g55
            obtain ⟨σ55, e55, hm⟩ := hw_bs hm
            refine hw_cWV (va_runV (As := [hw_vr b v2, hw_vr b v9, .int l3]) (rest := []) ⟨hx, hb, hml, hown, hts⟩ (c11_goUp l D b e55) (cwV 3 hts (hw_gV hw_m684 hw_m685 hw_m686 hw_m2 hw_m687) rfl rfl rfl (by decide +kernel) ⟨(Nat.le_of_ble_eq_true rfl), (Nat.le_of_ble_eq_true rfl)⟩) (hw_preV (ci := 11) hE hR rfl (by decide) (hw_q_of ht55)) rfl rfl hl.sz rfl (lv_room (Nat.le_of_ble_eq_true rfl)) dX11_curve_55 ⟨(Nat.le_of_ble_eq_true rfl), (Nat.le_of_ble_eq_true rfl)⟩) hS (fun _ _ hR hS => ?_)
            refine hw_aload_n hx hb dX11_curve_58 rfl (hl.at 2 rfl) ?_
            obtain ⟨v59, e59, hm⟩ := hw_bs hm
            refine hw_getP hx hb hw_cf11 hts hown hK hR e59 (by decide) rfl (hts _ hw_m31) (fun _ h9 => h9) dX11_curve_59 ?_
            refine lv_iload hx hb dX11_curve_62 (hl.at 6 rfl) ?_
            obtain ⟨v64, e64, hm⟩ := hw_bs hm
            refine hw_iald hx hb hK hR e64 dX11_curve_64 ?_
            exact hw_rWI hx hb hr hlk hR hS hm dX11_curve_65
        · have hm := hw_ip hm c38
          exact w11_curve_b41 C0 hm hR hS (hl.sub [2] rfl)
    · have hm := hw_ip hm c21
      exact w11_curve_b24 C0 hm hR hS (hl.sub [2] rfl)
set_option maxRecDepth 100000 in
theorem c11_curve (l : Launch) (D : hw_D) (b : Nat) {x0 : Nat} {l1 : Int32} {l2 : Int32} {l3 : Int32} {l4 : Int32} {l5 : Int32} {σ : hw_S} {r : Int32} {τ : hw_S} (hm : m11_curve x0 l1 l2 l3 l4 l5 σ = some (r, τ)) : Met l yX11_curve (Cond.code yX11_curve cX11_curve 8 (some .int) :: wsL_law) rm11_curve (hw_P1 D b σ [hw_vr b (some x0), .int l1, .int l2, .int l3, .int l4, .int l5]) (hw_QI D b τ r) 0 0 (fun q => b ≤ q) := by
  refine hw_start1 (by decide +kernel) (by exact Nat.le_of_ble_eq_true rfl) ?_
  intro p e s m below meth c ls C0 hR hS hl
  have hl : lv_has ls 8 [(0, hw_vr b (some x0)), (1, .int l1), (2, .int l2), (3, .int l3), (4, .int l4), (5, .int l5)] := by exact hl
  exact w11_curve_s hm C0 hR hS ⟨hl, (List.forall_mem_cons.mpr ⟨(fun h => by rw [show (hw_vr b (some x0) : Value).category = 1 from (hw_vr_cat _ _)] at h; cases h), (List.forall_mem_cons.mpr ⟨(fun h => absurd (show (1 : Nat) = 2 from h) (by decide)), (List.forall_mem_cons.mpr ⟨(fun h => absurd (show (1 : Nat) = 2 from h) (by decide)), (List.forall_mem_cons.mpr ⟨(fun h => absurd (show (1 : Nat) = 2 from h) (by decide)), (List.forall_mem_cons.mpr ⟨(fun h => absurd (show (1 : Nat) = 2 from h) (by decide)), (List.forall_mem_cons.mpr ⟨(fun h => absurd (show (1 : Nat) = 2 from h) (by decide)), (fun _ h => absurd h List.not_mem_nil)⟩)⟩)⟩)⟩)⟩)⟩)⟩

abbrev rm12_isFlow : Room := { frames := 1, cells := 0, slots := 0, locals := 22 }
def m12_isFlow (l0 : Int32) : Option Int32 :=
  (m12_in l0 (1 : Int32) (20 : Int32)).bind fun v4 =>
  (hw_tf v4).bind fun _ =>
  some v4
set_option maxRecDepth 100000 in
theorem w12_isFlow_s {p : Program} {l : Launch} {e : Env} {s : State} {m : MethodId} {args : Array Value} {below : List Frame} {meth : Method} {c : Code} {D : hw_D} {l0 : Int32} {r : Int32} (hm : m12_isFlow l0 = some r) (C0 : hw_C p s m args meth c D yX12_isFlow cX12_isFlow 1 (some .boolean)) {ls : Array Slot} (hl : hw_L ls 1 255 [(0, .int l0)]) : W p l e rm12_isFlow s m args below meth c s.heap [] 0 0 (MQ below (hw_RI r) args s 0 0 hw_nof) (F0 m 0 ls []) := by
  obtain ⟨hx, hb, hml, hr, hown, hts, hlk, hE, hnm⟩ := id C0
  have hown : s.vm.findClass RX12 = some m.cls := hown
  unfold m12_isFlow at hm
  refine lv_iload_n hx hb dX12_isFlow_0 rfl (hl.at 0 rfl) ?_
  refine lv_iconst (v := 1) hx hb dX12_isFlow_1 (by decide) ?_
  refine lv_bipush (v := 20) hx hb dX12_isFlow_2 (by decide) ?_
  obtain ⟨v4, e4, hm⟩ := hw_bs hm
  refine hw_cRI (va_runS (As := [.int l0, .int (1 : Int32), .int (20 : Int32)]) (rest := []) ⟨hx, hb, hml, hown, hts⟩ (c12_in l D e4) (cwS 3 hts (hw_gS hw_m112 hw_m113 hw_m5 hw_m114) rfl rfl rfl (by decide +kernel) ⟨(Nat.le_of_ble_eq_true rfl), (Nat.le_of_ble_eq_true rfl)⟩) (hw_pre0 hE) rfl rfl hl.sz rfl (lv_room (Nat.le_of_ble_eq_true rfl)) dX12_isFlow_4 ⟨(Nat.le_of_ble_eq_true rfl), (Nat.le_of_ble_eq_true rfl)⟩) ?_
  obtain ⟨_, z7, hm⟩ := hw_bs hm
  exact hw_rRZ hx hb hr hlk z7 hm dX12_isFlow_7
set_option maxRecDepth 100000 in
theorem c12_isFlow (l : Launch) (D : hw_D) {l0 : Int32} {r : Int32} (hm : m12_isFlow l0 = some r) : Met l yX12_isFlow (Cond.code yX12_isFlow cX12_isFlow 1 (some .boolean) :: wsL_law) rm12_isFlow (hw_P0 D [.int l0]) (hw_RI r) 0 0 hw_nof := by
  refine hw_start0 (by decide +kernel) (by exact Nat.le_of_ble_eq_true rfl) ?_
  intro p e s m below meth c ls C0 hl
  have hl : lv_has ls 1 [(0, .int l0)] := by exact hl
  exact w12_isFlow_s hm C0 ⟨hl, (List.forall_mem_cons.mpr ⟨(fun h => absurd (show (1 : Nat) = 2 from h) (by decide)), (fun _ h => absurd h List.not_mem_nil)⟩)⟩

abbrev rm12_curves : Room := { frames := 3, cells := 0, slots := 0, locals := 85 }
def m12_curves_b72 : Nat → Nat → Int32 → Int32 → Int32 → Int32 → hw_S → Option hw_S
  | 0, _, _, _, _, _, _ => none
  | n + 1, x0, l1, l2, l3, l4, σ =>
  (if l4 < (1 : Int32) then
  some σ
  else
  (hw_rv (hw_q 12) (some x0) σ).bind fun a83 =>
  (m12_becomesHigh x0 l1 l4 σ).bind fun v83 =>
  (hw_tf v83).bind fun _ =>
  (hw_pI (hw_q 12) 15 (some x0) v83 σ).bind fun σ86 =>
  (hw_gP (hw_q 12) 17 (some x0) σ86).bind fun v90 =>
  (hw_gI (hw_q 12) 15 (some x0) σ86).bind fun v103 =>
  (hw_gP (hw_q 12) 1 (some x0) σ86).bind fun v107 =>
  (hw_aI 0 v107 ((130 : Int32) + l2) σ86).bind fun v115 =>
  (hw_rv (hw_q 12) (some x0) σ86).bind fun a116 =>
  hw_b2 (m12_turnsAs x0 l1 l2 l4 l3 (0 : Int32) v103 v115 σ86) fun v116 σ116 =>
  (hw_sI v90 l4 v116 σ116).bind fun σ119 =>
  m12_curves_b72 n x0 l1 l2 l3 (l4 + (-1)) σ119)
set_option maxRecDepth 100000 in
theorem w12_curves_b72 {p : Program} {l : Launch} {e : Env} {s : State} {m : MethodId} {args : Array Value} {below : List Frame} {meth : Method} {c : Code} {D : hw_D} {b : Nat} {τ : hw_S} (C0 : hw_C p s m args meth c D yX12_curves cX12_curves 5 none) : ∀ (n : Nat) {x0 : Nat} {l1 : Int32} {l2 : Int32} {l3 : Int32} {l4 : Int32} {σ : hw_S} {H : Heap} {locs : List Loc} {ls : Array Slot}, m12_curves_b72 n x0 l1 l2 l3 l4 σ = some τ → hw_R D b σ H → va_S (fun q => b ≤ q) s.heap H locs → hw_L ls 5 255 [(0, hw_vr b (some x0)), (1, .int l1), (2, .int l2), (3, .int l3), (4, .int l4)] → W p l e rm12_curves s m args below meth c H locs 0 0 (MQ below (hw_QV D b τ) args s 0 0 (fun q => b ≤ q)) (F0 m 72 ls []) := by
  obtain ⟨hx, hb, hml, hr, hown, hts, hlk, hE, hnm⟩ := id C0
  have hown : s.vm.findClass RX12 = some m.cls := hown
  have hK := hE.1
  intro n
  induction n with
  | zero => intro _ _ _ _ _ _ _ _ _ hm; cases hm
  | succ n ih =>
    intro x0 l1 l2 l3 l4 σ H locs ls hm hR hS hl
    rw [m12_curves_b72] at hm
    refine lv_iload hx hb dX12_curves_72 (hl.at 4 rfl) ?_
    refine lv_iconst (v := 1) hx hb dX12_curves_74 (by decide) ?_
    refine lv_icmp_lt (tgt := 126) hx hb dX12_curves_75 (by decide) (fun c75 => ?_) (fun c75 => ?_)
    · have hm := hw_ip hm c75
      exact hw_rWV hx hb hr hlk hR hS hm dX12_curves_126
    · have hm := hw_in hm c75
      refine hw_aload_n hx hb dX12_curves_78 rfl (hl.at 0 rfl) ?_
      refine hw_aload_n hx hb dX12_curves_79 rfl (hl.at 0 rfl) ?_
      refine lv_iload_n hx hb dX12_curves_80 rfl (hl.at 1 rfl) ?_
      refine lv_iload hx hb dX12_curves_81 (hl.at 4 rfl) ?_
      obtain ⟨a83, g83, hm⟩ := hw_bs hm
      obtain ⟨rfl, ht83⟩ := hw_rv_th g83
      obtain ⟨v83, e83, hm⟩ := hw_bs hm
      refine hw_cRI (va_runV (As := [.int l1, .int l4]) (rest := [hw_vr b (some x0)]) ⟨hx, hb, hml, hown, hts⟩ (c12_becomesHigh l D b e83) (cwV 2 hts (hw_gV hw_m676 hw_m677 hw_m678 hw_m5 hw_m679) rfl rfl rfl (by decide +kernel) ⟨(Nat.le_of_ble_eq_true rfl), (Nat.le_of_ble_eq_true rfl)⟩) (hw_preV (ci := 12) hE hR rfl (by decide) (hw_q_of ht83)) rfl rfl hl.sz rfl (lv_room (hw_sm (List.forall_mem_cons.mpr ⟨(hw_vr_cat _ _), (fun _ h => absurd h List.not_mem_nil)⟩) (Nat.le_of_ble_eq_true rfl))) dX12_curves_83 ⟨(Nat.le_of_ble_eq_true rfl), (Nat.le_of_ble_eq_true rfl)⟩) ?_
      obtain ⟨_, z86, hm⟩ := hw_bs hm
      obtain ⟨σ86, e86, hm⟩ := hw_bs hm
      refine hw_putZ hx hb hw_cf12 hts hown hK hR hS z86 e86 (by decide) rfl rfl (hts _ hw_m675) (fun _ h9 => h9) (Or.inl rfl) dX12_curves_86 (fun _ _ hR hS => ?_)
      refine hw_aload_n hx hb dX12_curves_89 rfl (hl.at 0 rfl) ?_
      obtain ⟨v90, e90, hm⟩ := hw_bs hm
      refine hw_getP hx hb hw_cf12 hts hown hK hR e90 (by decide) rfl (hts _ hw_m85) (fun _ h9 => h9) dX12_curves_90 ?_
      refine lv_iload hx hb dX12_curves_93 (hl.at 4 rfl) ?_
      refine hw_aload_n hx hb dX12_curves_95 rfl (hl.at 0 rfl) ?_
      refine lv_iload_n hx hb dX12_curves_96 rfl (hl.at 1 rfl) ?_
      refine lv_iload_n hx hb dX12_curves_97 rfl (hl.at 2 rfl) ?_
      refine lv_iload hx hb dX12_curves_98 (hl.at 4 rfl) ?_
      refine lv_iload_n hx hb dX12_curves_100 rfl (hl.at 3 rfl) ?_
      refine lv_iconst (v := 0) hx hb dX12_curves_101 (by decide) ?_
      refine hw_aload_n hx hb dX12_curves_102 rfl (hl.at 0 rfl) ?_
      obtain ⟨v103, e103, hm⟩ := hw_bs hm
      refine hw_getI hx hb hw_cf12 hts hown hK hR e103 (by decide) rfl (hts _ hw_m675) (fun _ h9 => h9) dX12_curves_103 ?_
      refine hw_aload_n hx hb dX12_curves_106 rfl (hl.at 0 rfl) ?_
      obtain ⟨v107, e107, hm⟩ := hw_bs hm
      refine hw_getP hx hb hw_cf12 hts hown hK hR e107 (by decide) rfl (hts _ hw_m76) (fun _ h9 => h9) dX12_curves_107 ?_
      refine lv_sipush (v := 130) hx hb dX12_curves_110 (by decide) ?_
      refine lv_iload_n hx hb dX12_curves_113 rfl (hl.at 2 rfl) ?_
      refine lv_iadd hx hb dX12_curves_114 ?_
      obtain ⟨v115, e115, hm⟩ := hw_bs hm
      refine hw_iald hx hb hK hR e115 dX12_curves_115 ?_
      obtain ⟨a116, g116, hm⟩ := hw_bs hm
      obtain ⟨rfl, ht116⟩ := hw_rv_th g116
      obtain ⟨v116, σ116, e116, hm⟩ := hw_bs2 hm
      refine hw_cWI (va_runV (As := [.int l1, .int l2, .int l4, .int l3, .int (0 : Int32), .int v103, .int v115]) (rest := [.int l4, hw_vr b v90]) ⟨hx, hb, hml, hown, hts⟩ (c12_turnsAs l D b e116) (cwV 7 hts (hw_gV hw_m588 hw_m589 hw_m590 hw_m5 hw_m591) rfl rfl rfl (by decide +kernel) ⟨(Nat.le_of_ble_eq_true rfl), (Nat.le_of_ble_eq_true rfl)⟩) (hw_preV (ci := 12) hE hR rfl (by decide) (hw_q_of ht116)) rfl rfl hl.sz rfl (lv_room (hw_sm (List.forall_mem_cons.mpr ⟨rfl, (List.forall_mem_cons.mpr ⟨(hw_vr_cat _ _), (fun _ h => absurd h List.not_mem_nil)⟩)⟩) (Nat.le_of_ble_eq_true rfl))) dX12_curves_116 ⟨(Nat.le_of_ble_eq_true rfl), (Nat.le_of_ble_eq_true rfl)⟩) hS (fun _ _ hR hS => ?_)
      obtain ⟨σ119, e119, hm⟩ := hw_bs hm
      refine hw_iast hx hb hK hR hS e119 dX12_curves_119 (fun _ _ hR hS => ?_)
      refine hw_iinc (v := (l4 + (-1))) (lv' := [(4, .int (l4 + (-1))), (0, hw_vr b (some x0)), (1, .int l1), (2, .int l2), (3, .int l3)]) hx hb dX12_curves_120 hl (k := 4) rfl rfl (by decide) (by decide) rfl (fun ls hl => ?_)
      refine lv_goto (tgt := 72) hx hb dX12_curves_123 (by decide) ?_
      exact ih hm hR hS (hl.sub [1, 2, 3, 4, 0] rfl)
def m12_curves_b8 : Nat → Nat → Int32 → Int32 → Int32 → Int32 → hw_S → Option hw_S
  | 0, _, _, _, _, _, _ => none
  | n + 1, x0, l1, l2, l3, l4, σ =>
  (if (60 : Int32) < l4 then
  (hw_tf (1 : Int32)).bind fun _ =>
  (hw_pI (hw_q 12) 15 (some x0) (1 : Int32) σ).bind fun σ65 =>
  m12_curves_b72 hw_fu x0 l1 l2 l3 (60 : Int32) σ65
  else
  (hw_rv (hw_q 12) (some x0) σ).bind fun a20 =>
  (m12_becomesHigh x0 l1 l4 σ).bind fun v20 =>
  (hw_tf v20).bind fun _ =>
  (hw_pI (hw_q 12) 15 (some x0) v20 σ).bind fun σ23 =>
  (hw_gP (hw_q 12) 16 (some x0) σ23).bind fun v27 =>
  (hw_gI (hw_q 12) 15 (some x0) σ23).bind fun v40 =>
  (hw_gP (hw_q 12) 1 (some x0) σ23).bind fun v44 =>
  (hw_aI 0 v44 ((130 : Int32) + l2) σ23).bind fun v52 =>
  (hw_rv (hw_q 12) (some x0) σ23).bind fun a53 =>
  hw_b2 (m12_turnsAs x0 l1 l2 l4 l3 (0 : Int32) v40 v52 σ23) fun v53 σ53 =>
  (hw_sI v27 l4 v53 σ53).bind fun σ56 =>
  m12_curves_b8 n x0 l1 l2 l3 (l4 + 1) σ56)
set_option maxRecDepth 100000 in
theorem w12_curves_b8 {p : Program} {l : Launch} {e : Env} {s : State} {m : MethodId} {args : Array Value} {below : List Frame} {meth : Method} {c : Code} {D : hw_D} {b : Nat} {τ : hw_S} (C0 : hw_C p s m args meth c D yX12_curves cX12_curves 5 none) : ∀ (n : Nat) {x0 : Nat} {l1 : Int32} {l2 : Int32} {l3 : Int32} {l4 : Int32} {σ : hw_S} {H : Heap} {locs : List Loc} {ls : Array Slot}, m12_curves_b8 n x0 l1 l2 l3 l4 σ = some τ → hw_R D b σ H → va_S (fun q => b ≤ q) s.heap H locs → hw_L ls 5 255 [(0, hw_vr b (some x0)), (1, .int l1), (2, .int l2), (3, .int l3), (4, .int l4)] → W p l e rm12_curves s m args below meth c H locs 0 0 (MQ below (hw_QV D b τ) args s 0 0 (fun q => b ≤ q)) (F0 m 8 ls []) := by
  obtain ⟨hx, hb, hml, hr, hown, hts, hlk, hE, hnm⟩ := id C0
  have hown : s.vm.findClass RX12 = some m.cls := hown
  have hK := hE.1
  intro n
  induction n with
  | zero => intro _ _ _ _ _ _ _ _ _ hm; cases hm
  | succ n ih =>
    intro x0 l1 l2 l3 l4 σ H locs ls hm hR hS hl
    rw [m12_curves_b8] at hm
    refine lv_iload hx hb dX12_curves_8 (hl.at 4 rfl) ?_
    refine lv_bipush (v := 60) hx hb dX12_curves_10 (by decide) ?_
    refine lv_icmp_gt (tgt := 63) hx hb dX12_curves_12 (by decide) (fun c12 => ?_) (fun c12 => ?_)
    · have hm := hw_ip hm c12
      refine hw_aload_n hx hb dX12_curves_63 rfl (hl.at 0 rfl) ?_
      refine lv_iconst (v := 1) hx hb dX12_curves_64 (by decide) ?_
      obtain ⟨_, z65, hm⟩ := hw_bs hm
      obtain ⟨σ65, e65, hm⟩ := hw_bs hm
      refine hw_putZ hx hb hw_cf12 hts hown hK hR hS z65 e65 (by decide) rfl rfl (hts _ hw_m675) (fun _ h9 => h9) (Or.inl rfl) dX12_curves_65 (fun _ _ hR hS => ?_)
      refine lv_bipush (v := 60) hx hb dX12_curves_68 (by decide) ?_
      refine hw_istore (lv' := [(4, .int (60 : Int32)), (0, hw_vr b (some x0)), (1, .int l1), (2, .int l2), (3, .int l3)]) hx hb dX12_curves_70 hl (by decide) (by decide) rfl (fun ls hl => ?_)
      exact w12_curves_b72 C0 hw_fu hm hR hS (hl.sub [1, 2, 3, 4, 0] rfl)
    · have hm := hw_in hm c12
      refine hw_aload_n hx hb dX12_curves_15 rfl (hl.at 0 rfl) ?_
      refine hw_aload_n hx hb dX12_curves_16 rfl (hl.at 0 rfl) ?_
      refine lv_iload_n hx hb dX12_curves_17 rfl (hl.at 1 rfl) ?_
      refine lv_iload hx hb dX12_curves_18 (hl.at 4 rfl) ?_
      obtain ⟨a20, g20, hm⟩ := hw_bs hm
      obtain ⟨rfl, ht20⟩ := hw_rv_th g20
      obtain ⟨v20, e20, hm⟩ := hw_bs hm
      refine hw_cRI (va_runV (As := [.int l1, .int l4]) (rest := [hw_vr b (some x0)]) ⟨hx, hb, hml, hown, hts⟩ (c12_becomesHigh l D b e20) (cwV 2 hts (hw_gV hw_m676 hw_m677 hw_m678 hw_m5 hw_m679) rfl rfl rfl (by decide +kernel) ⟨(Nat.le_of_ble_eq_true rfl), (Nat.le_of_ble_eq_true rfl)⟩) (hw_preV (ci := 12) hE hR rfl (by decide) (hw_q_of ht20)) rfl rfl hl.sz rfl (lv_room (hw_sm (List.forall_mem_cons.mpr ⟨(hw_vr_cat _ _), (fun _ h => absurd h List.not_mem_nil)⟩) (Nat.le_of_ble_eq_true rfl))) dX12_curves_20 ⟨(Nat.le_of_ble_eq_true rfl), (Nat.le_of_ble_eq_true rfl)⟩) ?_
      obtain ⟨_, z23, hm⟩ := hw_bs hm
      obtain ⟨σ23, e23, hm⟩ := hw_bs hm
      refine hw_putZ hx hb hw_cf12 hts hown hK hR hS z23 e23 (by decide) rfl rfl (hts _ hw_m675) (fun _ h9 => h9) (Or.inl rfl) dX12_curves_23 (fun _ _ hR hS => ?_)
      refine hw_aload_n hx hb dX12_curves_26 rfl (hl.at 0 rfl) ?_
      obtain ⟨v27, e27, hm⟩ := hw_bs hm
      refine hw_getP hx hb hw_cf12 hts hown hK hR e27 (by decide) rfl (hts _ hw_m84) (fun _ h9 => h9) dX12_curves_27 ?_
      refine lv_iload hx hb dX12_curves_30 (hl.at 4 rfl) ?_
      refine hw_aload_n hx hb dX12_curves_32 rfl (hl.at 0 rfl) ?_
      refine lv_iload_n hx hb dX12_curves_33 rfl (hl.at 1 rfl) ?_
      refine lv_iload_n hx hb dX12_curves_34 rfl (hl.at 2 rfl) ?_
      refine lv_iload hx hb dX12_curves_35 (hl.at 4 rfl) ?_
      refine lv_iload_n hx hb dX12_curves_37 rfl (hl.at 3 rfl) ?_
      refine lv_iconst (v := 0) hx hb dX12_curves_38 (by decide) ?_
      refine hw_aload_n hx hb dX12_curves_39 rfl (hl.at 0 rfl) ?_
      obtain ⟨v40, e40, hm⟩ := hw_bs hm
      refine hw_getI hx hb hw_cf12 hts hown hK hR e40 (by decide) rfl (hts _ hw_m675) (fun _ h9 => h9) dX12_curves_40 ?_
      refine hw_aload_n hx hb dX12_curves_43 rfl (hl.at 0 rfl) ?_
      obtain ⟨v44, e44, hm⟩ := hw_bs hm
      refine hw_getP hx hb hw_cf12 hts hown hK hR e44 (by decide) rfl (hts _ hw_m76) (fun _ h9 => h9) dX12_curves_44 ?_
      refine lv_sipush (v := 130) hx hb dX12_curves_47 (by decide) ?_
      refine lv_iload_n hx hb dX12_curves_50 rfl (hl.at 2 rfl) ?_
      refine lv_iadd hx hb dX12_curves_51 ?_
      obtain ⟨v52, e52, hm⟩ := hw_bs hm
      refine hw_iald hx hb hK hR e52 dX12_curves_52 ?_
      obtain ⟨a53, g53, hm⟩ := hw_bs hm
      obtain ⟨rfl, ht53⟩ := hw_rv_th g53
      obtain ⟨v53, σ53, e53, hm⟩ := hw_bs2 hm
      refine hw_cWI (va_runV (As := [.int l1, .int l2, .int l4, .int l3, .int (0 : Int32), .int v40, .int v52]) (rest := [.int l4, hw_vr b v27]) ⟨hx, hb, hml, hown, hts⟩ (c12_turnsAs l D b e53) (cwV 7 hts (hw_gV hw_m588 hw_m589 hw_m590 hw_m5 hw_m591) rfl rfl rfl (by decide +kernel) ⟨(Nat.le_of_ble_eq_true rfl), (Nat.le_of_ble_eq_true rfl)⟩) (hw_preV (ci := 12) hE hR rfl (by decide) (hw_q_of ht53)) rfl rfl hl.sz rfl (lv_room (hw_sm (List.forall_mem_cons.mpr ⟨rfl, (List.forall_mem_cons.mpr ⟨(hw_vr_cat _ _), (fun _ h => absurd h List.not_mem_nil)⟩)⟩) (Nat.le_of_ble_eq_true rfl))) dX12_curves_53 ⟨(Nat.le_of_ble_eq_true rfl), (Nat.le_of_ble_eq_true rfl)⟩) hS (fun _ _ hR hS => ?_)
      obtain ⟨σ56, e56, hm⟩ := hw_bs hm
      refine hw_iast hx hb hK hR hS e56 dX12_curves_56 (fun _ _ hR hS => ?_)
      refine hw_iinc (v := (l4 + 1)) (lv' := [(4, .int (l4 + 1)), (0, hw_vr b (some x0)), (1, .int l1), (2, .int l2), (3, .int l3)]) hx hb dX12_curves_57 hl (k := 4) rfl rfl (by decide) (by decide) rfl (fun ls hl => ?_)
      refine lv_goto (tgt := 8) hx hb dX12_curves_60 (by decide) ?_
      exact ih hm hR hS (hl.sub [1, 2, 3, 4, 0] rfl)
def m12_curves (x0 : Nat) (l1 : Int32) (l2 : Int32) (l3 : Int32) (σ : hw_S) : Option hw_S :=
  (hw_tf (0 : Int32)).bind fun _ =>
  (hw_pI (hw_q 12) 15 (some x0) (0 : Int32) σ).bind fun σ2 =>
  m12_curves_b8 hw_fu x0 l1 l2 l3 (1 : Int32) σ2
set_option maxRecDepth 100000 in
theorem w12_curves_s {p : Program} {l : Launch} {e : Env} {s : State} {m : MethodId} {args : Array Value} {below : List Frame} {meth : Method} {c : Code} {D : hw_D} {b : Nat} {x0 : Nat} {l1 : Int32} {l2 : Int32} {l3 : Int32} {σ : hw_S} {τ : hw_S} {H : Heap} {locs : List Loc} (hm : m12_curves x0 l1 l2 l3 σ = some τ) (C0 : hw_C p s m args meth c D yX12_curves cX12_curves 5 none) (hR : hw_R D b σ H) (hS : va_S (fun q => b ≤ q) s.heap H locs) {ls : Array Slot} (hl : hw_L ls 5 255 [(0, hw_vr b (some x0)), (1, .int l1), (2, .int l2), (3, .int l3)]) : W p l e rm12_curves s m args below meth c H locs 0 0 (MQ below (hw_QV D b τ) args s 0 0 (fun q => b ≤ q)) (F0 m 0 ls []) := by
  obtain ⟨hx, hb, hml, hr, hown, hts, hlk, hE, hnm⟩ := id C0
  have hown : s.vm.findClass RX12 = some m.cls := hown
  have hK := hE.1
  unfold m12_curves at hm
  refine hw_aload_n hx hb dX12_curves_0 rfl (hl.at 0 rfl) ?_
  refine lv_iconst (v := 0) hx hb dX12_curves_1 (by decide) ?_
  obtain ⟨_, z2, hm⟩ := hw_bs hm
  obtain ⟨σ2, e2, hm⟩ := hw_bs hm
  refine hw_putZ hx hb hw_cf12 hts hown hK hR hS z2 e2 (by decide) rfl rfl (hts _ hw_m675) (fun _ h9 => h9) (Or.inl rfl) dX12_curves_2 (fun _ _ hR hS => ?_)
  refine lv_iconst (v := 1) hx hb dX12_curves_5 (by decide) ?_
  refine hw_istore (lv' := [(4, .int (1 : Int32)), (0, hw_vr b (some x0)), (1, .int l1), (2, .int l2), (3, .int l3)]) hx hb dX12_curves_6 hl (by decide) (by decide) rfl (fun ls hl => ?_)
  exact w12_curves_b8 C0 hw_fu hm hR hS (hl.sub [1, 2, 3, 4, 0] rfl)
set_option maxRecDepth 100000 in
theorem c12_curves (l : Launch) (D : hw_D) (b : Nat) {x0 : Nat} {l1 : Int32} {l2 : Int32} {l3 : Int32} {σ : hw_S} {τ : hw_S} (hm : m12_curves x0 l1 l2 l3 σ = some τ) : Met l yX12_curves (Cond.code yX12_curves cX12_curves 5 none :: wsL_law) rm12_curves (hw_P1 D b σ [hw_vr b (some x0), .int l1, .int l2, .int l3]) (hw_QV D b τ) 0 0 (fun q => b ≤ q) := by
  refine hw_start1 (by decide +kernel) (by exact Nat.le_of_ble_eq_true rfl) ?_
  intro p e s m below meth c ls C0 hR hS hl
  have hl : lv_has ls 5 [(0, hw_vr b (some x0)), (1, .int l1), (2, .int l2), (3, .int l3)] := by exact hl
  exact w12_curves_s hm C0 hR hS ⟨hl, (List.forall_mem_cons.mpr ⟨(fun h => by rw [show (hw_vr b (some x0) : Value).category = 1 from (hw_vr_cat _ _)] at h; cases h), (List.forall_mem_cons.mpr ⟨(fun h => absurd (show (1 : Nat) = 2 from h) (by decide)), (List.forall_mem_cons.mpr ⟨(fun h => absurd (show (1 : Nat) = 2 from h) (by decide)), (List.forall_mem_cons.mpr ⟨(fun h => absurd (show (1 : Nat) = 2 from h) (by decide)), (fun _ h => absurd h List.not_mem_nil)⟩)⟩)⟩)⟩)⟩

abbrev rm12_curve : Room := { frames := 4, cells := 0, slots := 0, locals := 109 }
def m12_curve_b16 (x0 : Nat) (σ : hw_S) : Option (Int32 × hw_S) :=
  some (((-1) : Int32), σ)
set_option maxRecDepth 100000 in
theorem w12_curve_b16 {p : Program} {l : Launch} {e : Env} {s : State} {m : MethodId} {args : Array Value} {below : List Frame} {meth : Method} {c : Code} {D : hw_D} {b : Nat} {r : Int32} {τ : hw_S} (C0 : hw_C p s m args meth c D yX12_curve cX12_curve 6 (some .int)) {x0 : Nat} {σ : hw_S} {H : Heap} {locs : List Loc} (hm : m12_curve_b16 x0 σ = some (r, τ)) (hR : hw_R D b σ H) (hS : va_S (fun q => b ≤ q) s.heap H locs) {ls : Array Slot} (hl : hw_L ls 6 255 [(0, hw_vr b (some x0))]) : W p l e rm12_curve s m args below meth c H locs 0 0 (MQ below (hw_QI D b τ r) args s 0 0 (fun q => b ≤ q)) (F0 m 16 ls []) := by
  obtain ⟨hx, hb, hml, hr, hown, hts, hlk, hE, hnm⟩ := id C0
  have hown : s.vm.findClass RX12 = some m.cls := hown
  have hK := hE.1
  unfold m12_curve_b16 at hm
  refine lv_iconst (v := (-1)) hx hb dX12_curve_16 (by decide) ?_
  exact hw_rWI hx hb hr hlk hR hS hm dX12_curve_17
def m12_curve_b36 (x0 : Nat) (σ : hw_S) : Option (Int32 × hw_S) :=
  some (((-2) : Int32), σ)
set_option maxRecDepth 100000 in
theorem w12_curve_b36 {p : Program} {l : Launch} {e : Env} {s : State} {m : MethodId} {args : Array Value} {below : List Frame} {meth : Method} {c : Code} {D : hw_D} {b : Nat} {r : Int32} {τ : hw_S} (C0 : hw_C p s m args meth c D yX12_curve cX12_curve 6 (some .int)) {x0 : Nat} {σ : hw_S} {H : Heap} {locs : List Loc} (hm : m12_curve_b36 x0 σ = some (r, τ)) (hR : hw_R D b σ H) (hS : va_S (fun q => b ≤ q) s.heap H locs) {ls : Array Slot} (hl : hw_L ls 6 255 [(0, hw_vr b (some x0))]) : W p l e rm12_curve s m args below meth c H locs 0 0 (MQ below (hw_QI D b τ r) args s 0 0 (fun q => b ≤ q)) (F0 m 36 ls []) := by
  obtain ⟨hx, hb, hml, hr, hown, hts, hlk, hE, hnm⟩ := id C0
  have hown : s.vm.findClass RX12 = some m.cls := hown
  have hK := hE.1
  unfold m12_curve_b36 at hm
  refine lv_bipush (v := (-2)) hx hb dX12_curve_36 (by decide) ?_
  exact hw_rWI hx hb hr hlk hR hS hm dX12_curve_38
def m12_curve_b68 (x0 : Nat) (t0 : Int32) (σ : hw_S) : Option (Int32 × hw_S) :=
  some (t0, σ)
set_option maxRecDepth 100000 in
theorem w12_curve_b68 {p : Program} {l : Launch} {e : Env} {s : State} {m : MethodId} {args : Array Value} {below : List Frame} {meth : Method} {c : Code} {D : hw_D} {b : Nat} {r : Int32} {τ : hw_S} (C0 : hw_C p s m args meth c D yX12_curve cX12_curve 6 (some .int)) {x0 : Nat} {t0 : Int32} {σ : hw_S} {H : Heap} {locs : List Loc} (hm : m12_curve_b68 x0 t0 σ = some (r, τ)) (hR : hw_R D b σ H) (hS : va_S (fun q => b ≤ q) s.heap H locs) {ls : Array Slot} (hl : hw_L ls 6 255 [(0, hw_vr b (some x0))]) : W p l e rm12_curve s m args below meth c H locs 0 0 (MQ below (hw_QI D b τ r) args s 0 0 (fun q => b ≤ q)) (F0 m 68 ls [.int t0]) := by
  obtain ⟨hx, hb, hml, hr, hown, hts, hlk, hE, hnm⟩ := id C0
  have hown : s.vm.findClass RX12 = some m.cls := hown
  have hK := hE.1
  unfold m12_curve_b68 at hm
  exact hw_rWI hx hb hr hlk hR hS hm dX12_curve_68
def m12_curve (x0 : Nat) (l1 : Int32) (l2 : Int32) (l3 : Int32) (l4 : Int32) (l5 : Int32) (σ : hw_S) : Option (Int32 × hw_S) :=
  (hw_rv (hw_q 12) (some x0) σ).bind fun a2 =>
  (m12_isLaw x0 l1 σ).bind fun v2 =>
  (if v2 = 0 then
  m12_curve_b16 x0 σ
  else
  (hw_rv (hw_q 12) (some x0) σ).bind fun a10 =>
  (m12_isStuff x0 l2 σ).bind fun v10 =>
  (if v10 = 0 then
  m12_curve_b16 x0 σ
  else
  (m12_isFlow l3).bind fun v19 =>
  (if v19 = 0 then
  m12_curve_b36 x0 σ
  else
  (m12_in l4 (1 : Int32) (60 : Int32)).bind fun v30 =>
  (if v30 = 0 then
  m12_curve_b36 x0 σ
  else
  (hw_rv (hw_q 12) (some x0) σ).bind fun a43 =>
  (m12_curves x0 l1 l2 l3 σ).bind fun σ43 =>
  (if l5 = 0 then
  (hw_gP (hw_q 12) 17 (some x0) σ43).bind fun v62 =>
  (hw_aI 0 v62 l4 σ43).bind fun v67 =>
  m12_curve_b68 x0 v67 σ43
  else
  (hw_gP (hw_q 12) 16 (some x0) σ43).bind fun v52 =>
  (hw_aI 0 v52 l4 σ43).bind fun v57 =>
  m12_curve_b68 x0 v57 σ43)))))
set_option maxRecDepth 100000 in
theorem w12_curve_s {p : Program} {l : Launch} {e : Env} {s : State} {m : MethodId} {args : Array Value} {below : List Frame} {meth : Method} {c : Code} {D : hw_D} {b : Nat} {x0 : Nat} {l1 : Int32} {l2 : Int32} {l3 : Int32} {l4 : Int32} {l5 : Int32} {σ : hw_S} {r : Int32} {τ : hw_S} {H : Heap} {locs : List Loc} (hm : m12_curve x0 l1 l2 l3 l4 l5 σ = some (r, τ)) (C0 : hw_C p s m args meth c D yX12_curve cX12_curve 6 (some .int)) (hR : hw_R D b σ H) (hS : va_S (fun q => b ≤ q) s.heap H locs) {ls : Array Slot} (hl : hw_L ls 6 255 [(0, hw_vr b (some x0)), (1, .int l1), (2, .int l2), (3, .int l3), (4, .int l4), (5, .int l5)]) : W p l e rm12_curve s m args below meth c H locs 0 0 (MQ below (hw_QI D b τ r) args s 0 0 (fun q => b ≤ q)) (F0 m 0 ls []) := by
  obtain ⟨hx, hb, hml, hr, hown, hts, hlk, hE, hnm⟩ := id C0
  have hown : s.vm.findClass RX12 = some m.cls := hown
  have hK := hE.1
  unfold m12_curve at hm
  refine hw_aload_n hx hb dX12_curve_0 rfl (hl.at 0 rfl) ?_
  refine lv_iload_n hx hb dX12_curve_1 rfl (hl.at 1 rfl) ?_
  obtain ⟨a2, g2, hm⟩ := hw_bs hm
  obtain ⟨rfl, ht2⟩ := hw_rv_th g2
  obtain ⟨v2, e2, hm⟩ := hw_bs hm
  refine hw_cRI (va_runV (As := [.int l1]) (rest := []) ⟨hx, hb, hml, hown, hts⟩ (c12_isLaw l D b e2) (cwV 1 hts (hw_gV hw_m434 hw_m435 hw_m436 hw_m5 hw_m437) rfl rfl rfl (by decide +kernel) ⟨(Nat.le_of_ble_eq_true rfl), (Nat.le_of_ble_eq_true rfl)⟩) (hw_preV (ci := 12) hE hR rfl (by decide) (hw_q_of ht2)) rfl rfl hl.sz rfl (lv_room (Nat.le_of_ble_eq_true rfl)) dX12_curve_2 ⟨(Nat.le_of_ble_eq_true rfl), (Nat.le_of_ble_eq_true rfl)⟩) ?_
  refine lv_if_eq (tgt := 16) hx hb dX12_curve_5 (by decide) (fun c5 => ?_) (fun c5 => ?_)
  · have hm := hw_ip hm c5
    exact w12_curve_b16 C0 hm hR hS (hl.sub [0] rfl)
  · have hm := hw_in hm c5
    refine hw_aload_n hx hb dX12_curve_8 rfl (hl.at 0 rfl) ?_
    refine lv_iload_n hx hb dX12_curve_9 rfl (hl.at 2 rfl) ?_
    obtain ⟨a10, g10, hm⟩ := hw_bs hm
    obtain ⟨rfl, ht10⟩ := hw_rv_th g10
    obtain ⟨v10, e10, hm⟩ := hw_bs hm
    refine hw_cRI (va_runV (As := [.int l2]) (rest := []) ⟨hx, hb, hml, hown, hts⟩ (c12_isStuff l D b e10) (cwV 1 hts (hw_gV hw_m129 hw_m130 hw_m131 hw_m5 hw_m132) rfl rfl rfl (by decide +kernel) ⟨(Nat.le_of_ble_eq_true rfl), (Nat.le_of_ble_eq_true rfl)⟩) (hw_preV (ci := 12) hE hR rfl (by decide) (hw_q_of ht10)) rfl rfl hl.sz rfl (lv_room (Nat.le_of_ble_eq_true rfl)) dX12_curve_10 ⟨(Nat.le_of_ble_eq_true rfl), (Nat.le_of_ble_eq_true rfl)⟩) ?_
    refine lv_if_ne (tgt := 18) hx hb dX12_curve_13 (by decide) (fun c13 => ?_) (fun c13 => ?_)
    · have hm := hw_in hm c13
      refine lv_iload_n hx hb dX12_curve_18 rfl (hl.at 3 rfl) ?_
      obtain ⟨v19, e19, hm⟩ := hw_bs hm
      refine hw_cRI (va_runS (As := [.int l3]) (rest := []) ⟨hx, hb, hml, hown, hts⟩ (c12_isFlow l D e19) (cwS 1 hts (hw_gS hw_m699 hw_m700 hw_m5 hw_m701) rfl rfl rfl (by decide +kernel) ⟨(Nat.le_of_ble_eq_true rfl), (Nat.le_of_ble_eq_true rfl)⟩) (hw_pre0 hE) rfl rfl hl.sz rfl (lv_room (Nat.le_of_ble_eq_true rfl)) dX12_curve_19 ⟨(Nat.le_of_ble_eq_true rfl), (Nat.le_of_ble_eq_true rfl)⟩) ?_
      refine lv_if_eq (tgt := 36) hx hb dX12_curve_22 (by decide) (fun c22 => ?_) (fun c22 => ?_)
      · have hm := hw_ip hm c22
        exact w12_curve_b36 C0 hm hR hS (hl.sub [0] rfl)
      · have hm := hw_in hm c22
        refine lv_iload hx hb dX12_curve_25 (hl.at 4 rfl) ?_
        refine lv_iconst (v := 1) hx hb dX12_curve_27 (by decide) ?_
        refine lv_bipush (v := 60) hx hb dX12_curve_28 (by decide) ?_
        obtain ⟨v30, e30, hm⟩ := hw_bs hm
        refine hw_cRI (va_runS (As := [.int l4, .int (1 : Int32), .int (60 : Int32)]) (rest := []) ⟨hx, hb, hml, hown, hts⟩ (c12_in l D e30) (cwS 3 hts (hw_gS hw_m112 hw_m113 hw_m5 hw_m114) rfl rfl rfl (by decide +kernel) ⟨(Nat.le_of_ble_eq_true rfl), (Nat.le_of_ble_eq_true rfl)⟩) (hw_pre0 hE) rfl rfl hl.sz rfl (lv_room (Nat.le_of_ble_eq_true rfl)) dX12_curve_30 ⟨(Nat.le_of_ble_eq_true rfl), (Nat.le_of_ble_eq_true rfl)⟩) ?_
        refine lv_if_ne (tgt := 39) hx hb dX12_curve_33 (by decide) (fun c33 => ?_) (fun c33 => ?_)
        · have hm := hw_in hm c33
          refine hw_aload_n hx hb dX12_curve_39 rfl (hl.at 0 rfl) ?_
          refine lv_iload_n hx hb dX12_curve_40 rfl (hl.at 1 rfl) ?_
          refine lv_iload_n hx hb dX12_curve_41 rfl (hl.at 2 rfl) ?_
          refine lv_iload_n hx hb dX12_curve_42 rfl (hl.at 3 rfl) ?_
          obtain ⟨a43, g43, hm⟩ := hw_bs hm
          obtain ⟨rfl, ht43⟩ := hw_rv_th g43
          obtain ⟨σ43, e43, hm⟩ := hw_bs hm
          refine hw_cWV (va_runV (As := [.int l1, .int l2, .int l3]) (rest := []) ⟨hx, hb, hml, hown, hts⟩ (c12_curves l D b e43) (cwV 3 hts (hw_gV hw_m702 hw_m703 hw_m704 hw_m5 hw_m705) rfl rfl rfl (by decide +kernel) ⟨(Nat.le_of_ble_eq_true rfl), (Nat.le_of_ble_eq_true rfl)⟩) (hw_preV (ci := 12) hE hR rfl (by decide) (hw_q_of ht43)) rfl rfl hl.sz rfl (lv_room (Nat.le_of_ble_eq_true rfl)) dX12_curve_43 ⟨(Nat.le_of_ble_eq_true rfl), (Nat.le_of_ble_eq_true rfl)⟩) hS (fun _ _ hR hS => ?_)
          refine lv_iload hx hb dX12_curve_46 (hl.at 5 rfl) ?_
          refine lv_if_eq (tgt := 61) hx hb dX12_curve_48 (by decide) (fun c48 => ?_) (fun c48 => ?_)
          · have hm := hw_ip hm c48
            refine hw_aload_n hx hb dX12_curve_61 rfl (hl.at 0 rfl) ?_
            obtain ⟨v62, e62, hm⟩ := hw_bs hm
            refine hw_getP hx hb hw_cf12 hts hown hK hR e62 (by decide) rfl (hts _ hw_m85) (fun _ h9 => h9) dX12_curve_62 ?_
            refine lv_iload hx hb dX12_curve_65 (hl.at 4 rfl) ?_
            obtain ⟨v67, e67, hm⟩ := hw_bs hm
            refine hw_iald hx hb hK hR e67 dX12_curve_67 ?_
            exact w12_curve_b68 C0 hm hR hS (hl.sub [0] rfl)
          · have hm := hw_in hm c48
            refine hw_aload_n hx hb dX12_curve_51 rfl (hl.at 0 rfl) ?_
            obtain ⟨v52, e52, hm⟩ := hw_bs hm
            refine hw_getP hx hb hw_cf12 hts hown hK hR e52 (by decide) rfl (hts _ hw_m84) (fun _ h9 => h9) dX12_curve_52 ?_
            refine lv_iload hx hb dX12_curve_55 (hl.at 4 rfl) ?_
            obtain ⟨v57, e57, hm⟩ := hw_bs hm
            refine hw_iald hx hb hK hR e57 dX12_curve_57 ?_
            refine lv_goto (tgt := 68) hx hb dX12_curve_58 (by decide) ?_
            exact w12_curve_b68 C0 hm hR hS (hl.sub [0] rfl)
        · have hm := hw_ip hm c33
          exact w12_curve_b36 C0 hm hR hS (hl.sub [0] rfl)
    · have hm := hw_ip hm c13
      exact w12_curve_b16 C0 hm hR hS (hl.sub [0] rfl)
set_option maxRecDepth 100000 in
theorem c12_curve (l : Launch) (D : hw_D) (b : Nat) {x0 : Nat} {l1 : Int32} {l2 : Int32} {l3 : Int32} {l4 : Int32} {l5 : Int32} {σ : hw_S} {r : Int32} {τ : hw_S} (hm : m12_curve x0 l1 l2 l3 l4 l5 σ = some (r, τ)) : Met l yX12_curve (Cond.code yX12_curve cX12_curve 6 (some .int) :: wsL_law) rm12_curve (hw_P1 D b σ [hw_vr b (some x0), .int l1, .int l2, .int l3, .int l4, .int l5]) (hw_QI D b τ r) 0 0 (fun q => b ≤ q) := by
  refine hw_start1 (by decide +kernel) (by exact Nat.le_of_ble_eq_true rfl) ?_
  intro p e s m below meth c ls C0 hR hS hl
  have hl : lv_has ls 6 [(0, hw_vr b (some x0)), (1, .int l1), (2, .int l2), (3, .int l3), (4, .int l4), (5, .int l5)] := by exact hl
  exact w12_curve_s hm C0 hR hS ⟨hl, (List.forall_mem_cons.mpr ⟨(fun h => by rw [show (hw_vr b (some x0) : Value).category = 1 from (hw_vr_cat _ _)] at h; cases h), (List.forall_mem_cons.mpr ⟨(fun h => absurd (show (1 : Nat) = 2 from h) (by decide)), (List.forall_mem_cons.mpr ⟨(fun h => absurd (show (1 : Nat) = 2 from h) (by decide)), (List.forall_mem_cons.mpr ⟨(fun h => absurd (show (1 : Nat) = 2 from h) (by decide)), (List.forall_mem_cons.mpr ⟨(fun h => absurd (show (1 : Nat) = 2 from h) (by decide)), (List.forall_mem_cons.mpr ⟨(fun h => absurd (show (1 : Nat) = 2 from h) (by decide)), (fun _ h => absurd h List.not_mem_nil)⟩)⟩)⟩)⟩)⟩)⟩)⟩

abbrev rm11_jumps : Room := { frames := 5, cells := 0, slots := 0, locals := 120 }
def m11_jumps_b34 (x0 : Nat) (σ : hw_S) : Option (Int32 × hw_S) :=
  some (((-1) : Int32), σ)
set_option maxRecDepth 100000 in
theorem w11_jumps_b34 {p : Program} {l : Launch} {e : Env} {s : State} {m : MethodId} {args : Array Value} {below : List Frame} {meth : Method} {c : Code} {D : hw_D} {b : Nat} {r : Int32} {τ : hw_S} (C0 : hw_C p s m args meth c D yX11_jumps cX11_jumps 11 (some .int)) {x0 : Nat} {σ : hw_S} {H : Heap} {locs : List Loc} (hm : m11_jumps_b34 x0 σ = some (r, τ)) (hR : hw_R D b σ H) (hS : va_S (fun q => b ≤ q) s.heap H locs) {ls : Array Slot} (hl : hw_L ls 11 255 [(0, hw_vr b (some x0))]) : W p l e rm11_jumps s m args below meth c H locs 0 0 (MQ below (hw_QI D b τ r) args s 0 0 (fun q => b ≤ q)) (F0 m 34 ls []) := by
  obtain ⟨hx, hb, hml, hr, hown, hts, hlk, hE, hnm⟩ := id C0
  have hown : s.vm.findClass RX11 = some m.cls := hown
  have hK := hE.1
  unfold m11_jumps_b34 at hm
  refine lv_iconst (v := (-1)) hx hb dX11_jumps_34 (by decide) ?_
  exact hw_rWI hx hb hr hlk hR hS hm dX11_jumps_35
def m11_jumps_b54 (x0 : Nat) (σ : hw_S) : Option (Int32 × hw_S) :=
  some (((-2) : Int32), σ)
set_option maxRecDepth 100000 in
theorem w11_jumps_b54 {p : Program} {l : Launch} {e : Env} {s : State} {m : MethodId} {args : Array Value} {below : List Frame} {meth : Method} {c : Code} {D : hw_D} {b : Nat} {r : Int32} {τ : hw_S} (C0 : hw_C p s m args meth c D yX11_jumps cX11_jumps 11 (some .int)) {x0 : Nat} {σ : hw_S} {H : Heap} {locs : List Loc} (hm : m11_jumps_b54 x0 σ = some (r, τ)) (hR : hw_R D b σ H) (hS : va_S (fun q => b ≤ q) s.heap H locs) {ls : Array Slot} (hl : hw_L ls 11 255 [(0, hw_vr b (some x0))]) : W p l e rm11_jumps s m args below meth c H locs 0 0 (MQ below (hw_QI D b τ r) args s 0 0 (fun q => b ≤ q)) (F0 m 54 ls []) := by
  obtain ⟨hx, hb, hml, hr, hown, hts, hlk, hE, hnm⟩ := id C0
  have hown : s.vm.findClass RX11 = some m.cls := hown
  have hK := hE.1
  unfold m11_jumps_b54 at hm
  refine lv_bipush (v := (-2)) hx hb dX11_jumps_54 (by decide) ?_
  exact hw_rWI hx hb hr hlk hR hS hm dX11_jumps_56
def m11_jumps_b144 (x0 : Nat) (t0 : Int32) (σ : hw_S) : Option (Int32 × hw_S) :=
  some (t0, σ)
set_option maxRecDepth 100000 in
theorem w11_jumps_b144 {p : Program} {l : Launch} {e : Env} {s : State} {m : MethodId} {args : Array Value} {below : List Frame} {meth : Method} {c : Code} {D : hw_D} {b : Nat} {r : Int32} {τ : hw_S} (C0 : hw_C p s m args meth c D yX11_jumps cX11_jumps 11 (some .int)) {x0 : Nat} {t0 : Int32} {σ : hw_S} {H : Heap} {locs : List Loc} (hm : m11_jumps_b144 x0 t0 σ = some (r, τ)) (hR : hw_R D b σ H) (hS : va_S (fun q => b ≤ q) s.heap H locs) {ls : Array Slot} (hl : hw_L ls 11 255 [(0, hw_vr b (some x0))]) : W p l e rm11_jumps s m args below meth c H locs 0 0 (MQ below (hw_QI D b τ r) args s 0 0 (fun q => b ≤ q)) (F0 m 144 ls [.int t0]) := by
  obtain ⟨hx, hb, hml, hr, hown, hts, hlk, hE, hnm⟩ := id C0
  have hown : s.vm.findClass RX11 = some m.cls := hown
  have hK := hE.1
  unfold m11_jumps_b144 at hm
  exact hw_rWI hx hb hr hlk hR hS hm dX11_jumps_144
def m11_jumps_b126 (k76 : Nat → Int32 → Int32 → Int32 → Int32 → Int32 → hw_S → Option (Int32 × hw_S)) (x0 : Nat) (l4 : Int32) (l5 : Int32) (l8 : Int32) (l9 : Int32) (l10 : Int32) (σ : hw_S) : Option (Int32 × hw_S) :=
  k76 x0 l4 l5 l8 l9 (l10 + 1) σ
set_option maxRecDepth 100000 in
theorem w11_jumps_b126 {p : Program} {l : Launch} {e : Env} {s : State} {m : MethodId} {args : Array Value} {below : List Frame} {meth : Method} {c : Code} {D : hw_D} {b : Nat} {k76 : Nat → Int32 → Int32 → Int32 → Int32 → Int32 → hw_S → Option (Int32 × hw_S)} {r : Int32} {τ : hw_S} (C0 : hw_C p s m args meth c D yX11_jumps cX11_jumps 11 (some .int)) (hk76 : ∀ {x0 : Nat} {l4 : Int32} {l5 : Int32} {l8 : Int32} {l9 : Int32} {l10 : Int32} {σ : hw_S} {H : Heap} {locs : List Loc} {ls : Array Slot}, k76 x0 l4 l5 l8 l9 l10 σ = some (r, τ) → hw_R D b σ H → va_S (fun q => b ≤ q) s.heap H locs → hw_L ls 11 255 [(0, hw_vr b (some x0)), (4, .int l4), (5, .int l5), (8, .int l8), (9, .int l9), (10, .int l10)] → W p l e rm11_jumps s m args below meth c H locs 0 0 (MQ below (hw_QI D b τ r) args s 0 0 (fun q => b ≤ q)) (F0 m 76 ls [])) {x0 : Nat} {l4 : Int32} {l5 : Int32} {l8 : Int32} {l9 : Int32} {l10 : Int32} {σ : hw_S} {H : Heap} {locs : List Loc} (hm : m11_jumps_b126 k76 x0 l4 l5 l8 l9 l10 σ = some (r, τ)) (hR : hw_R D b σ H) (hS : va_S (fun q => b ≤ q) s.heap H locs) {ls : Array Slot} (hl : hw_L ls 11 255 [(0, hw_vr b (some x0)), (4, .int l4), (5, .int l5), (8, .int l8), (9, .int l9), (10, .int l10)]) : W p l e rm11_jumps s m args below meth c H locs 0 0 (MQ below (hw_QI D b τ r) args s 0 0 (fun q => b ≤ q)) (F0 m 126 ls []) := by
  obtain ⟨hx, hb, hml, hr, hown, hts, hlk, hE, hnm⟩ := id C0
  have hown : s.vm.findClass RX11 = some m.cls := hown
  have hK := hE.1
  unfold m11_jumps_b126 at hm
  refine hw_iinc (v := (l10 + 1)) (lv' := [(10, .int (l10 + 1)), (0, hw_vr b (some x0)), (4, .int l4), (5, .int l5), (8, .int l8), (9, .int l9)]) hx hb dX11_jumps_126 hl (k := 5) rfl rfl (by decide) (by decide) rfl (fun ls hl => ?_)
  refine lv_goto (tgt := 76) hx hb dX11_jumps_129 (by decide) ?_
  exact hk76 hm hR hS (hl.sub [1, 2, 3, 4, 5, 0] rfl)
def m11_jumps_b124 (k76 : Nat → Int32 → Int32 → Int32 → Int32 → Int32 → hw_S → Option (Int32 × hw_S)) (x0 : Nat) (l4 : Int32) (l5 : Int32) (l8 : Int32) (l10 : Int32) (t0 : Int32) (σ : hw_S) : Option (Int32 × hw_S) :=
  m11_jumps_b126 k76 x0 l4 l5 l8 t0 l10 σ
set_option maxRecDepth 100000 in
theorem w11_jumps_b124 {p : Program} {l : Launch} {e : Env} {s : State} {m : MethodId} {args : Array Value} {below : List Frame} {meth : Method} {c : Code} {D : hw_D} {b : Nat} {k76 : Nat → Int32 → Int32 → Int32 → Int32 → Int32 → hw_S → Option (Int32 × hw_S)} {r : Int32} {τ : hw_S} (C0 : hw_C p s m args meth c D yX11_jumps cX11_jumps 11 (some .int)) (hk76 : ∀ {x0 : Nat} {l4 : Int32} {l5 : Int32} {l8 : Int32} {l9 : Int32} {l10 : Int32} {σ : hw_S} {H : Heap} {locs : List Loc} {ls : Array Slot}, k76 x0 l4 l5 l8 l9 l10 σ = some (r, τ) → hw_R D b σ H → va_S (fun q => b ≤ q) s.heap H locs → hw_L ls 11 255 [(0, hw_vr b (some x0)), (4, .int l4), (5, .int l5), (8, .int l8), (9, .int l9), (10, .int l10)] → W p l e rm11_jumps s m args below meth c H locs 0 0 (MQ below (hw_QI D b τ r) args s 0 0 (fun q => b ≤ q)) (F0 m 76 ls [])) {x0 : Nat} {l4 : Int32} {l5 : Int32} {l8 : Int32} {l10 : Int32} {t0 : Int32} {σ : hw_S} {H : Heap} {locs : List Loc} (hm : m11_jumps_b124 k76 x0 l4 l5 l8 l10 t0 σ = some (r, τ)) (hR : hw_R D b σ H) (hS : va_S (fun q => b ≤ q) s.heap H locs) {ls : Array Slot} (hl : hw_L ls 11 255 [(0, hw_vr b (some x0)), (4, .int l4), (5, .int l5), (8, .int l8), (10, .int l10)]) : W p l e rm11_jumps s m args below meth c H locs 0 0 (MQ below (hw_QI D b τ r) args s 0 0 (fun q => b ≤ q)) (F0 m 124 ls [.int t0]) := by
  obtain ⟨hx, hb, hml, hr, hown, hts, hlk, hE, hnm⟩ := id C0
  have hown : s.vm.findClass RX11 = some m.cls := hown
  have hK := hE.1
  unfold m11_jumps_b124 at hm
  refine hw_istore (lv' := [(9, .int t0), (0, hw_vr b (some x0)), (4, .int l4), (5, .int l5), (8, .int l8), (10, .int l10)]) hx hb dX11_jumps_124 hl (by decide) (by decide) rfl (fun ls hl => ?_)
  exact w11_jumps_b126 C0 hk76 hm hR hS (hl.sub [1, 2, 3, 4, 0, 5] rfl)
def m11_jumps_b76 : Nat → Nat → Int32 → Int32 → Int32 → Int32 → Int32 → hw_S → Option (Int32 × hw_S)
  | 0, _, _, _, _, _, _, _ => none
  | n + 1, x0, l4, l5, l8, l9, l10, σ =>
  (if (60 : Int32) < l10 then
  (if l5 = 0 then
  m11_jumps_b144 x0 l8 σ
  else
  m11_jumps_b144 x0 l9 σ)
  else
  (hw_gP (hw_q 11) 8 (some x0) σ).bind fun v84 =>
  (hw_aI 0 v84 l10 σ).bind fun v89 =>
  (hw_gP (hw_q 11) 8 (some x0) σ).bind fun v91 =>
  (hw_aI 0 v91 (l10 - (1 : Int32)) σ).bind fun v98 =>
  (if (hw_abs (v89 - v98)) < l4 then
  m11_jumps_b126 (m11_jumps_b76 n) x0 l4 l5 l8 l9 l10 σ
  else
  (if (l8 + 1) = (1 : Int32) then
  m11_jumps_b124 (m11_jumps_b76 n) x0 l4 l5 (l8 + 1) l10 l10 σ
  else
  m11_jumps_b124 (m11_jumps_b76 n) x0 l4 l5 (l8 + 1) l10 l9 σ)))
set_option maxRecDepth 100000 in
theorem w11_jumps_b76 {p : Program} {l : Launch} {e : Env} {s : State} {m : MethodId} {args : Array Value} {below : List Frame} {meth : Method} {c : Code} {D : hw_D} {b : Nat} {r : Int32} {τ : hw_S} (C0 : hw_C p s m args meth c D yX11_jumps cX11_jumps 11 (some .int)) : ∀ (n : Nat) {x0 : Nat} {l4 : Int32} {l5 : Int32} {l8 : Int32} {l9 : Int32} {l10 : Int32} {σ : hw_S} {H : Heap} {locs : List Loc} {ls : Array Slot}, m11_jumps_b76 n x0 l4 l5 l8 l9 l10 σ = some (r, τ) → hw_R D b σ H → va_S (fun q => b ≤ q) s.heap H locs → hw_L ls 11 255 [(0, hw_vr b (some x0)), (4, .int l4), (5, .int l5), (8, .int l8), (9, .int l9), (10, .int l10)] → W p l e rm11_jumps s m args below meth c H locs 0 0 (MQ below (hw_QI D b τ r) args s 0 0 (fun q => b ≤ q)) (F0 m 76 ls []) := by
  obtain ⟨hx, hb, hml, hr, hown, hts, hlk, hE, hnm⟩ := id C0
  have hown : s.vm.findClass RX11 = some m.cls := hown
  have hK := hE.1
  intro n
  induction n with
  | zero => intro _ _ _ _ _ _ _ _ _ _ hm; cases hm
  | succ n ih =>
    intro x0 l4 l5 l8 l9 l10 σ H locs ls hm hR hS hl
    rw [m11_jumps_b76] at hm
    refine lv_iload hx hb dX11_jumps_76 (hl.at 5 rfl) ?_
    refine lv_bipush (v := 60) hx hb dX11_jumps_78 (by decide) ?_
    refine lv_icmp_gt (tgt := 132) hx hb dX11_jumps_80 (by decide) (fun c80 => ?_) (fun c80 => ?_)
    · have hm := hw_ip hm c80
      refine lv_iload hx hb dX11_jumps_132 (hl.at 2 rfl) ?_
      refine lv_if_ne (tgt := 142) hx hb dX11_jumps_134 (by decide) (fun c134 => ?_) (fun c134 => ?_)
      · have hm := hw_in hm c134
        refine lv_iload hx hb dX11_jumps_142 (hl.at 4 rfl) ?_
        exact w11_jumps_b144 C0 hm hR hS (hl.sub [0] rfl)
      · have hm := hw_ip hm c134
        refine lv_iload hx hb dX11_jumps_137 (hl.at 3 rfl) ?_
        refine lv_goto (tgt := 144) hx hb dX11_jumps_139 (by decide) ?_
        exact w11_jumps_b144 C0 hm hR hS (hl.sub [0] rfl)
    · have hm := hw_in hm c80
      refine hw_aload_n hx hb dX11_jumps_83 rfl (hl.at 0 rfl) ?_
      obtain ⟨v84, e84, hm⟩ := hw_bs hm
      refine hw_getP hx hb hw_cf11 hts hown hK hR e84 (by decide) rfl (hts _ hw_m31) (fun _ h9 => h9) dX11_jumps_84 ?_
      refine lv_iload hx hb dX11_jumps_87 (hl.at 5 rfl) ?_
      obtain ⟨v89, e89, hm⟩ := hw_bs hm
      refine hw_iald hx hb hK hR e89 dX11_jumps_89 ?_
      refine hw_aload_n hx hb dX11_jumps_90 rfl (hl.at 0 rfl) ?_
      obtain ⟨v91, e91, hm⟩ := hw_bs hm
      refine hw_getP hx hb hw_cf11 hts hown hK hR e91 (by decide) rfl (hts _ hw_m31) (fun _ h9 => h9) dX11_jumps_91 ?_
      refine lv_iload hx hb dX11_jumps_94 (hl.at 5 rfl) ?_
      refine lv_iconst (v := 1) hx hb dX11_jumps_96 (by decide) ?_
      refine lv_isub hx hb dX11_jumps_97 ?_
      obtain ⟨v98, e98, hm⟩ := hw_bs hm
      refine hw_iald hx hb hK hR e98 dX11_jumps_98 ?_
      refine lv_isub hx hb dX11_jumps_99 ?_
      refine hw_mabs hx hb hml hl hown (hts _ hw_m710) (hts _ hw_m711) (hts _ hw_m157) (hts _ hw_m712) (Nat.le_of_ble_eq_true rfl) ⟨Nat.le_of_ble_eq_true rfl, (Nat.le_of_ble_eq_true rfl)⟩ (Nat.le_of_ble_eq_true rfl) (Nat.le_of_ble_eq_true rfl) dX11_jumps_100 ?_
      refine lv_iload hx hb dX11_jumps_103 (hl.at 1 rfl) ?_
      refine lv_icmp_lt (tgt := 126) hx hb dX11_jumps_105 (by decide) (fun c105 => ?_) (fun c105 => ?_)
      · have hm := hw_ip hm c105
        exact w11_jumps_b126 C0 ih hm hR hS (hl.sub [0, 1, 2, 3, 4, 5] rfl)
      · have hm := hw_in hm c105
        refine hw_iinc (v := (l8 + 1)) (lv' := [(8, .int (l8 + 1)), (0, hw_vr b (some x0)), (4, .int l4), (5, .int l5), (9, .int l9), (10, .int l10)]) hx hb dX11_jumps_108 hl (k := 3) rfl rfl (by decide) (by decide) rfl (fun ls hl => ?_)
        refine lv_iload hx hb dX11_jumps_111 (hl.at 0 rfl) ?_
        refine lv_iconst (v := 1) hx hb dX11_jumps_113 (by decide) ?_
        refine lv_icmp_ne (tgt := 122) hx hb dX11_jumps_114 (by decide) (fun c114 => ?_) (fun c114 => ?_)
        · have hm := hw_in hm c114
          refine lv_iload hx hb dX11_jumps_122 (hl.at 4 rfl) ?_
          exact w11_jumps_b124 C0 ih hm hR hS (hl.sub [1, 2, 3, 0, 5] rfl)
        · have hm := hw_ip hm c114
          refine lv_iload hx hb dX11_jumps_117 (hl.at 5 rfl) ?_
          refine lv_goto (tgt := 124) hx hb dX11_jumps_119 (by decide) ?_
          exact w11_jumps_b124 C0 ih hm hR hS (hl.sub [1, 2, 3, 0, 5] rfl)
def m11_jumps (x0 : Nat) (l1 : Int32) (l2 : Int32) (l3 : Int32) (l4 : Int32) (l5 : Int32) (σ : hw_S) : Option (Int32 × hw_S) :=
  (hw_rv (hw_q 11) (some x0) σ).bind fun a2 =>
  (m11_lawAt x0 l1 σ).bind fun v2 =>
  (hw_rv (hw_q 11) (some x0) σ).bind fun a9 =>
  (m11_stuffAt x0 l2 σ).bind fun v9 =>
  (if v2 = none then
  m11_jumps_b34 x0 σ
  else
  (if v9 = none then
  m11_jumps_b34 x0 σ
  else
  (m11_isWithin l5 (0 : Int32) (1 : Int32)).bind fun v28 =>
  (if v28 = 0 then
  m11_jumps_b34 x0 σ
  else
  (m11_isFlow l3).bind fun v37 =>
  (if v37 = 0 then
  m11_jumps_b54 x0 σ
  else
  (m11_isWithin l4 (1 : Int32) (99 : Int32)).bind fun v48 =>
  (if v48 = 0 then
  m11_jumps_b54 x0 σ
  else
  (hw_rv (hw_q 11) (some x0) σ).bind fun a63 =>
  (m11_goUp x0 v2 v9 l3 σ).bind fun σ63 =>
  m11_jumps_b76 hw_fu x0 l4 l5 (0 : Int32) ((-5) : Int32) (2 : Int32) σ63)))))
set_option maxRecDepth 100000 in
theorem w11_jumps_s {p : Program} {l : Launch} {e : Env} {s : State} {m : MethodId} {args : Array Value} {below : List Frame} {meth : Method} {c : Code} {D : hw_D} {b : Nat} {x0 : Nat} {l1 : Int32} {l2 : Int32} {l3 : Int32} {l4 : Int32} {l5 : Int32} {σ : hw_S} {r : Int32} {τ : hw_S} {H : Heap} {locs : List Loc} (hm : m11_jumps x0 l1 l2 l3 l4 l5 σ = some (r, τ)) (C0 : hw_C p s m args meth c D yX11_jumps cX11_jumps 11 (some .int)) (hR : hw_R D b σ H) (hS : va_S (fun q => b ≤ q) s.heap H locs) {ls : Array Slot} (hl : hw_L ls 11 255 [(0, hw_vr b (some x0)), (1, .int l1), (2, .int l2), (3, .int l3), (4, .int l4), (5, .int l5)]) : W p l e rm11_jumps s m args below meth c H locs 0 0 (MQ below (hw_QI D b τ r) args s 0 0 (fun q => b ≤ q)) (F0 m 0 ls []) := by
  obtain ⟨hx, hb, hml, hr, hown, hts, hlk, hE, hnm⟩ := id C0
  have hown : s.vm.findClass RX11 = some m.cls := hown
  have hK := hE.1
  unfold m11_jumps at hm
  refine hw_aload_n hx hb dX11_jumps_0 rfl (hl.at 0 rfl) ?_
  refine lv_iload_n hx hb dX11_jumps_1 rfl (hl.at 1 rfl) ?_
  obtain ⟨a2, g2, hm⟩ := hw_bs hm
  obtain ⟨rfl, ht2⟩ := hw_rv_th g2
  obtain ⟨v2, e2, hm⟩ := hw_bs hm
  refine hw_cRP (va_runV (As := [.int l1]) (rest := []) ⟨hx, hb, hml, hown, hts⟩ (c11_lawAt l D b e2) (cwV 1 hts (hw_gV hw_m426 hw_m427 hw_m428 hw_m2 hw_m429) rfl rfl rfl (by decide +kernel) ⟨(Nat.le_of_ble_eq_true rfl), (Nat.le_of_ble_eq_true rfl)⟩) (hw_preV (ci := 11) hE hR rfl (by decide) (hw_q_of ht2)) rfl rfl hl.sz rfl (lv_room (Nat.le_of_ble_eq_true rfl)) dX11_jumps_2 ⟨(Nat.le_of_ble_eq_true rfl), (Nat.le_of_ble_eq_true rfl)⟩) ?_
  refine hw_asto (lv' := [(6, hw_vr b v2), (0, hw_vr b (some x0)), (1, .int l1), (2, .int l2), (3, .int l3), (4, .int l4), (5, .int l5)]) hx hb dX11_jumps_5 hl (by decide) (by decide) rfl (fun ls hl => ?_)
  refine hw_aload_n hx hb dX11_jumps_7 rfl (hl.at 1 rfl) ?_
  refine lv_iload_n hx hb dX11_jumps_8 rfl (hl.at 3 rfl) ?_
  obtain ⟨a9, g9, hm⟩ := hw_bs hm
  obtain ⟨rfl, ht9⟩ := hw_rv_th g9
  obtain ⟨v9, e9, hm⟩ := hw_bs hm
  refine hw_cRP (va_runV (As := [.int l2]) (rest := []) ⟨hx, hb, hml, hown, hts⟩ (c11_stuffAt l D b e9) (cwV 1 hts (hw_gV hw_m121 hw_m122 hw_m123 hw_m2 hw_m124) rfl rfl rfl (by decide +kernel) ⟨(Nat.le_of_ble_eq_true rfl), (Nat.le_of_ble_eq_true rfl)⟩) (hw_preV (ci := 11) hE hR rfl (by decide) (hw_q_of ht9)) rfl rfl hl.sz rfl (lv_room (Nat.le_of_ble_eq_true rfl)) dX11_jumps_9 ⟨(Nat.le_of_ble_eq_true rfl), (Nat.le_of_ble_eq_true rfl)⟩) ?_
  refine hw_asto (lv' := [(7, hw_vr b v9), (6, hw_vr b v2), (0, hw_vr b (some x0)), (1, .int l1), (2, .int l2), (3, .int l3), (4, .int l4), (5, .int l5)]) hx hb dX11_jumps_12 hl (by decide) (by decide) rfl (fun ls hl => ?_)
  refine hw_aload hx hb dX11_jumps_14 (hl.at 1 rfl) ?_
  refine hw_ifnull (tgt := 34) hx hb dX11_jumps_16 (by decide) (fun c16 => ?_) (fun c16 => ?_)
  · have hm := hw_ip hm c16
    exact w11_jumps_b34 C0 hm hR hS (hl.sub [2] rfl)
  · have hm := hw_in hm c16
    refine hw_aload hx hb dX11_jumps_19 (hl.at 0 rfl) ?_
    refine hw_ifnull (tgt := 34) hx hb dX11_jumps_21 (by decide) (fun c21 => ?_) (fun c21 => ?_)
    · have hm := hw_ip hm c21
      exact w11_jumps_b34 C0 hm hR hS (hl.sub [2] rfl)
    · have hm := hw_in hm c21
      refine lv_iload hx hb dX11_jumps_24 (hl.at 7 rfl) ?_
      refine lv_iconst (v := 0) hx hb dX11_jumps_26 (by decide) ?_
      refine lv_iconst (v := 1) hx hb dX11_jumps_27 (by decide) ?_
      obtain ⟨v28, e28, hm⟩ := hw_bs hm
      refine hw_cRI (va_runS (As := [.int l5, .int (0 : Int32), .int (1 : Int32)]) (rest := []) ⟨hx, hb, hml, hown, hts⟩ (c11_isWithin l D e28) (cwS 3 hts (hw_gS hw_m99 hw_m100 hw_m2 hw_m101) rfl rfl rfl (by decide +kernel) ⟨(Nat.le_of_ble_eq_true rfl), (Nat.le_of_ble_eq_true rfl)⟩) (hw_pre0 hE) rfl rfl hl.sz rfl (lv_room (Nat.le_of_ble_eq_true rfl)) dX11_jumps_28 ⟨(Nat.le_of_ble_eq_true rfl), (Nat.le_of_ble_eq_true rfl)⟩) ?_
      refine lv_if_ne (tgt := 36) hx hb dX11_jumps_31 (by decide) (fun c31 => ?_) (fun c31 => ?_)
      · have hm := hw_in hm c31
        refine lv_iload_n hx hb dX11_jumps_36 rfl (hl.at 5 rfl) ?_
        obtain ⟨v37, e37, hm⟩ := hw_bs hm
        refine hw_cRI (va_runS (As := [.int l3]) (rest := []) ⟨hx, hb, hml, hown, hts⟩ (c11_isFlow l D e37) (cwS 1 hts (hw_gS hw_m454 hw_m455 hw_m2 hw_m456) rfl rfl rfl (by decide +kernel) ⟨(Nat.le_of_ble_eq_true rfl), (Nat.le_of_ble_eq_true rfl)⟩) (hw_pre0 hE) rfl rfl hl.sz rfl (lv_room (Nat.le_of_ble_eq_true rfl)) dX11_jumps_37 ⟨(Nat.le_of_ble_eq_true rfl), (Nat.le_of_ble_eq_true rfl)⟩) ?_
        refine lv_if_eq (tgt := 54) hx hb dX11_jumps_40 (by decide) (fun c40 => ?_) (fun c40 => ?_)
        · have hm := hw_ip hm c40
          exact w11_jumps_b54 C0 hm hR hS (hl.sub [2] rfl)
        · have hm := hw_in hm c40
          refine lv_iload hx hb dX11_jumps_43 (hl.at 6 rfl) ?_
          refine lv_iconst (v := 1) hx hb dX11_jumps_45 (by decide) ?_
          refine lv_bipush (v := 99) hx hb dX11_jumps_46 (by decide) ?_
          obtain ⟨v48, e48, hm⟩ := hw_bs hm
          refine hw_cRI (va_runS (As := [.int l4, .int (1 : Int32), .int (99 : Int32)]) (rest := []) ⟨hx, hb, hml, hown, hts⟩ (c11_isWithin l D e48) (cwS 3 hts (hw_gS hw_m99 hw_m100 hw_m2 hw_m101) rfl rfl rfl (by decide +kernel) ⟨(Nat.le_of_ble_eq_true rfl), (Nat.le_of_ble_eq_true rfl)⟩) (hw_pre0 hE) rfl rfl hl.sz rfl (lv_room (Nat.le_of_ble_eq_true rfl)) dX11_jumps_48 ⟨(Nat.le_of_ble_eq_true rfl), (Nat.le_of_ble_eq_true rfl)⟩) ?_
          refine lv_if_ne (tgt := 57) hx hb dX11_jumps_51 (by decide) (fun c51 => ?_) (fun c51 => ?_)
          · have hm := hw_in hm c51
            refine hw_aload_n hx hb dX11_jumps_57 rfl (hl.at 2 rfl) ?_
            refine hw_aload hx hb dX11_jumps_58 (hl.at 1 rfl) ?_
            refine hw_aload hx hb dX11_jumps_60 (hl.at 0 rfl) ?_
            refine lv_iload_n hx hb dX11_jumps_62 rfl (hl.at 5 rfl) ?_
            obtain ⟨a63, g63, hm⟩ := hw_bs hm
            obtain ⟨rfl, ht63⟩ := hw_rv_th g63
            obtain ⟨σ63, e63, hm⟩ := hw_bs hm
            refine hw_cWV (va_runV (As := [hw_vr b v2, hw_vr b v9, .int l3]) (rest := []) ⟨hx, hb, hml, hown, hts⟩ (c11_goUp l D b e63) (cwV 3 hts (hw_gV hw_m684 hw_m685 hw_m686 hw_m2 hw_m687) rfl rfl rfl (by decide +kernel) ⟨(Nat.le_of_ble_eq_true rfl), (Nat.le_of_ble_eq_true rfl)⟩) (hw_preV (ci := 11) hE hR rfl (by decide) (hw_q_of ht63)) rfl rfl hl.sz rfl (lv_room (Nat.le_of_ble_eq_true rfl)) dX11_jumps_63 ⟨(Nat.le_of_ble_eq_true rfl), (Nat.le_of_ble_eq_true rfl)⟩) hS (fun _ _ hR hS => ?_)
            refine lv_iconst (v := 0) hx hb dX11_jumps_66 (by decide) ?_
            refine hw_istore (lv' := [(8, .int (0 : Int32)), (7, hw_vr b v9), (6, hw_vr b v2), (0, hw_vr b (some x0)), (1, .int l1), (2, .int l2), (3, .int l3), (4, .int l4), (5, .int l5)]) hx hb dX11_jumps_67 hl (by decide) (by decide) rfl (fun ls hl => ?_)
            refine lv_bipush (v := (-5)) hx hb dX11_jumps_69 (by decide) ?_
            refine hw_istore (lv' := [(9, .int ((-5) : Int32)), (8, .int (0 : Int32)), (7, hw_vr b v9), (6, hw_vr b v2), (0, hw_vr b (some x0)), (1, .int l1), (2, .int l2), (3, .int l3), (4, .int l4), (5, .int l5)]) hx hb dX11_jumps_71 hl (by decide) (by decide) rfl (fun ls hl => ?_)
            refine lv_iconst (v := 2) hx hb dX11_jumps_73 (by decide) ?_
            refine hw_istore (lv' := [(10, .int (2 : Int32)), (9, .int ((-5) : Int32)), (8, .int (0 : Int32)), (7, hw_vr b v9), (6, hw_vr b v2), (0, hw_vr b (some x0)), (1, .int l1), (2, .int l2), (3, .int l3), (4, .int l4), (5, .int l5)]) hx hb dX11_jumps_74 hl (by decide) (by decide) rfl (fun ls hl => ?_)
            exact w11_jumps_b76 C0 hw_fu hm hR hS (hl.sub [5, 9, 10, 2, 1, 0] rfl)
          · have hm := hw_ip hm c51
            exact w11_jumps_b54 C0 hm hR hS (hl.sub [2] rfl)
      · have hm := hw_ip hm c31
        exact w11_jumps_b34 C0 hm hR hS (hl.sub [2] rfl)
set_option maxRecDepth 100000 in
theorem c11_jumps (l : Launch) (D : hw_D) (b : Nat) {x0 : Nat} {l1 : Int32} {l2 : Int32} {l3 : Int32} {l4 : Int32} {l5 : Int32} {σ : hw_S} {r : Int32} {τ : hw_S} (hm : m11_jumps x0 l1 l2 l3 l4 l5 σ = some (r, τ)) : Met l yX11_jumps (Cond.code yX11_jumps cX11_jumps 11 (some .int) :: wsL_law) rm11_jumps (hw_P1 D b σ [hw_vr b (some x0), .int l1, .int l2, .int l3, .int l4, .int l5]) (hw_QI D b τ r) 0 0 (fun q => b ≤ q) := by
  refine hw_start1 (by decide +kernel) (by exact Nat.le_of_ble_eq_true rfl) ?_
  intro p e s m below meth c ls C0 hR hS hl
  have hl : lv_has ls 11 [(0, hw_vr b (some x0)), (1, .int l1), (2, .int l2), (3, .int l3), (4, .int l4), (5, .int l5)] := by exact hl
  exact w11_jumps_s hm C0 hR hS ⟨hl, (List.forall_mem_cons.mpr ⟨(fun h => by rw [show (hw_vr b (some x0) : Value).category = 1 from (hw_vr_cat _ _)] at h; cases h), (List.forall_mem_cons.mpr ⟨(fun h => absurd (show (1 : Nat) = 2 from h) (by decide)), (List.forall_mem_cons.mpr ⟨(fun h => absurd (show (1 : Nat) = 2 from h) (by decide)), (List.forall_mem_cons.mpr ⟨(fun h => absurd (show (1 : Nat) = 2 from h) (by decide)), (List.forall_mem_cons.mpr ⟨(fun h => absurd (show (1 : Nat) = 2 from h) (by decide)), (List.forall_mem_cons.mpr ⟨(fun h => absurd (show (1 : Nat) = 2 from h) (by decide)), (fun _ h => absurd h List.not_mem_nil)⟩)⟩)⟩)⟩)⟩)⟩)⟩

abbrev rm12_size : Room := { frames := 0, cells := 0, slots := 0, locals := 0 }
def m12_size_b10 (t0 : Int32) : Option Int32 :=
  some t0
set_option maxRecDepth 100000 in
theorem w12_size_b10 {p : Program} {l : Launch} {e : Env} {s : State} {m : MethodId} {args : Array Value} {below : List Frame} {meth : Method} {c : Code} {D : hw_D} {r : Int32} (C0 : hw_C p s m args meth c D yX12_size cX12_size 1 (some .int)) {t0 : Int32} (hm : m12_size_b10 t0 = some r) {ls : Array Slot} (hl : hw_L ls 1 255 []) : W p l e rm12_size s m args below meth c s.heap [] 0 0 (MQ below (hw_RI r) args s 0 0 hw_nof) (F0 m 10 ls [.int t0]) := by
  obtain ⟨hx, hb, hml, hr, hown, hts, hlk, hE, hnm⟩ := id C0
  have hown : s.vm.findClass RX12 = some m.cls := hown
  unfold m12_size_b10 at hm
  exact hw_rRI hx hb hr hlk hm dX12_size_10
def m12_size (l0 : Int32) : Option Int32 :=
  (if 0 ≤ l0 then
  m12_size_b10 l0
  else
  m12_size_b10 (-l0))
set_option maxRecDepth 100000 in
theorem w12_size_s {p : Program} {l : Launch} {e : Env} {s : State} {m : MethodId} {args : Array Value} {below : List Frame} {meth : Method} {c : Code} {D : hw_D} {l0 : Int32} {r : Int32} (hm : m12_size l0 = some r) (C0 : hw_C p s m args meth c D yX12_size cX12_size 1 (some .int)) {ls : Array Slot} (hl : hw_L ls 1 255 [(0, .int l0)]) : W p l e rm12_size s m args below meth c s.heap [] 0 0 (MQ below (hw_RI r) args s 0 0 hw_nof) (F0 m 0 ls []) := by
  obtain ⟨hx, hb, hml, hr, hown, hts, hlk, hE, hnm⟩ := id C0
  have hown : s.vm.findClass RX12 = some m.cls := hown
  unfold m12_size at hm
  refine lv_iload_n hx hb dX12_size_0 rfl (hl.at 0 rfl) ?_
  refine lv_if_ge (tgt := 9) hx hb dX12_size_1 (by decide) (fun c1 => ?_) (fun c1 => ?_)
  · have hm := hw_ip hm c1
    refine lv_iload_n hx hb dX12_size_9 rfl (hl.at 0 rfl) ?_
    exact w12_size_b10 C0 hm (hl.sub [] rfl)
  · have hm := hw_in hm c1
    refine lv_iload_n hx hb dX12_size_4 rfl (hl.at 0 rfl) ?_
    refine lv_ineg hx hb dX12_size_5 ?_
    refine lv_goto (tgt := 10) hx hb dX12_size_6 (by decide) ?_
    exact w12_size_b10 C0 hm (hl.sub [] rfl)
set_option maxRecDepth 100000 in
theorem c12_size (l : Launch) (D : hw_D) {l0 : Int32} {r : Int32} (hm : m12_size l0 = some r) : Met l yX12_size (Cond.code yX12_size cX12_size 1 (some .int) :: wsL_law) rm12_size (hw_P0 D [.int l0]) (hw_RI r) 0 0 hw_nof := by
  refine hw_start0 (by decide +kernel) (by exact Nat.le_of_ble_eq_true rfl) ?_
  intro p e s m below meth c ls C0 hl
  have hl : lv_has ls 1 [(0, .int l0)] := by exact hl
  exact w12_size_s hm C0 ⟨hl, (List.forall_mem_cons.mpr ⟨(fun h => absurd (show (1 : Nat) = 2 from h) (by decide)), (fun _ h => absurd h List.not_mem_nil)⟩)⟩

abbrev rm12_jumps : Room := { frames := 4, cells := 0, slots := 0, locals := 109 }
def m12_jumps_b26 (x0 : Nat) (σ : hw_S) : Option (Int32 × hw_S) :=
  some (((-1) : Int32), σ)
set_option maxRecDepth 100000 in
theorem w12_jumps_b26 {p : Program} {l : Launch} {e : Env} {s : State} {m : MethodId} {args : Array Value} {below : List Frame} {meth : Method} {c : Code} {D : hw_D} {b : Nat} {r : Int32} {τ : hw_S} (C0 : hw_C p s m args meth c D yX12_jumps cX12_jumps 10 (some .int)) {x0 : Nat} {σ : hw_S} {H : Heap} {locs : List Loc} (hm : m12_jumps_b26 x0 σ = some (r, τ)) (hR : hw_R D b σ H) (hS : va_S (fun q => b ≤ q) s.heap H locs) {ls : Array Slot} (hl : hw_L ls 10 255 [(0, hw_vr b (some x0))]) : W p l e rm12_jumps s m args below meth c H locs 0 0 (MQ below (hw_QI D b τ r) args s 0 0 (fun q => b ≤ q)) (F0 m 26 ls []) := by
  obtain ⟨hx, hb, hml, hr, hown, hts, hlk, hE, hnm⟩ := id C0
  have hown : s.vm.findClass RX12 = some m.cls := hown
  have hK := hE.1
  unfold m12_jumps_b26 at hm
  refine lv_iconst (v := (-1)) hx hb dX12_jumps_26 (by decide) ?_
  exact hw_rWI hx hb hr hlk hR hS hm dX12_jumps_27
def m12_jumps_b46 (x0 : Nat) (σ : hw_S) : Option (Int32 × hw_S) :=
  some (((-2) : Int32), σ)
set_option maxRecDepth 100000 in
theorem w12_jumps_b46 {p : Program} {l : Launch} {e : Env} {s : State} {m : MethodId} {args : Array Value} {below : List Frame} {meth : Method} {c : Code} {D : hw_D} {b : Nat} {r : Int32} {τ : hw_S} (C0 : hw_C p s m args meth c D yX12_jumps cX12_jumps 10 (some .int)) {x0 : Nat} {σ : hw_S} {H : Heap} {locs : List Loc} (hm : m12_jumps_b46 x0 σ = some (r, τ)) (hR : hw_R D b σ H) (hS : va_S (fun q => b ≤ q) s.heap H locs) {ls : Array Slot} (hl : hw_L ls 10 255 [(0, hw_vr b (some x0))]) : W p l e rm12_jumps s m args below meth c H locs 0 0 (MQ below (hw_QI D b τ r) args s 0 0 (fun q => b ≤ q)) (F0 m 46 ls []) := by
  obtain ⟨hx, hb, hml, hr, hown, hts, hlk, hE, hnm⟩ := id C0
  have hown : s.vm.findClass RX12 = some m.cls := hown
  have hK := hE.1
  unfold m12_jumps_b46 at hm
  refine lv_bipush (v := (-2)) hx hb dX12_jumps_46 (by decide) ?_
  exact hw_rWI hx hb hr hlk hR hS hm dX12_jumps_48
def m12_jumps_b159 (x0 : Nat) (t0 : Int32) (σ : hw_S) : Option (Int32 × hw_S) :=
  some (t0, σ)
set_option maxRecDepth 100000 in
theorem w12_jumps_b159 {p : Program} {l : Launch} {e : Env} {s : State} {m : MethodId} {args : Array Value} {below : List Frame} {meth : Method} {c : Code} {D : hw_D} {b : Nat} {r : Int32} {τ : hw_S} (C0 : hw_C p s m args meth c D yX12_jumps cX12_jumps 10 (some .int)) {x0 : Nat} {t0 : Int32} {σ : hw_S} {H : Heap} {locs : List Loc} (hm : m12_jumps_b159 x0 t0 σ = some (r, τ)) (hR : hw_R D b σ H) (hS : va_S (fun q => b ≤ q) s.heap H locs) {ls : Array Slot} (hl : hw_L ls 10 255 [(0, hw_vr b (some x0))]) : W p l e rm12_jumps s m args below meth c H locs 0 0 (MQ below (hw_QI D b τ r) args s 0 0 (fun q => b ≤ q)) (F0 m 159 ls [.int t0]) := by
  obtain ⟨hx, hb, hml, hr, hown, hts, hlk, hE, hnm⟩ := id C0
  have hown : s.vm.findClass RX12 = some m.cls := hown
  have hK := hE.1
  unfold m12_jumps_b159 at hm
  exact hw_rWI hx hb hr hlk hR hS hm dX12_jumps_159
def m12_jumps_b139 (k66 : Nat → Int32 → Int32 → Int32 → Int32 → Int32 → hw_S → Option (Int32 × hw_S)) (x0 : Nat) (l4 : Int32) (l5 : Int32) (l6 : Int32) (l8 : Int32) (t0 : Int32) (σ : hw_S) : Option (Int32 × hw_S) :=
  k66 x0 l4 l5 l6 t0 (l8 + 1) σ
set_option maxRecDepth 100000 in
theorem w12_jumps_b139 {p : Program} {l : Launch} {e : Env} {s : State} {m : MethodId} {args : Array Value} {below : List Frame} {meth : Method} {c : Code} {D : hw_D} {b : Nat} {k66 : Nat → Int32 → Int32 → Int32 → Int32 → Int32 → hw_S → Option (Int32 × hw_S)} {r : Int32} {τ : hw_S} (C0 : hw_C p s m args meth c D yX12_jumps cX12_jumps 10 (some .int)) (hk66 : ∀ {x0 : Nat} {l4 : Int32} {l5 : Int32} {l6 : Int32} {l7 : Int32} {l8 : Int32} {σ : hw_S} {H : Heap} {locs : List Loc} {ls : Array Slot}, k66 x0 l4 l5 l6 l7 l8 σ = some (r, τ) → hw_R D b σ H → va_S (fun q => b ≤ q) s.heap H locs → hw_L ls 10 255 [(0, hw_vr b (some x0)), (4, .int l4), (5, .int l5), (6, .int l6), (7, .int l7), (8, .int l8)] → W p l e rm12_jumps s m args below meth c H locs 0 0 (MQ below (hw_QI D b τ r) args s 0 0 (fun q => b ≤ q)) (F0 m 66 ls [])) {x0 : Nat} {l4 : Int32} {l5 : Int32} {l6 : Int32} {l8 : Int32} {t0 : Int32} {σ : hw_S} {H : Heap} {locs : List Loc} (hm : m12_jumps_b139 k66 x0 l4 l5 l6 l8 t0 σ = some (r, τ)) (hR : hw_R D b σ H) (hS : va_S (fun q => b ≤ q) s.heap H locs) {ls : Array Slot} (hl : hw_L ls 10 255 [(0, hw_vr b (some x0)), (4, .int l4), (5, .int l5), (6, .int l6), (8, .int l8)]) : W p l e rm12_jumps s m args below meth c H locs 0 0 (MQ below (hw_QI D b τ r) args s 0 0 (fun q => b ≤ q)) (F0 m 139 ls [.int t0]) := by
  obtain ⟨hx, hb, hml, hr, hown, hts, hlk, hE, hnm⟩ := id C0
  have hown : s.vm.findClass RX12 = some m.cls := hown
  have hK := hE.1
  unfold m12_jumps_b139 at hm
  refine hw_istore (lv' := [(7, .int t0), (0, hw_vr b (some x0)), (4, .int l4), (5, .int l5), (6, .int l6), (8, .int l8)]) hx hb dX12_jumps_139 hl (by decide) (by decide) rfl (fun ls hl => ?_)
  refine hw_iinc (v := (l8 + 1)) (lv' := [(8, .int (l8 + 1)), (7, .int t0), (0, hw_vr b (some x0)), (4, .int l4), (5, .int l5), (6, .int l6)]) hx hb dX12_jumps_141 hl (k := 5) rfl rfl (by decide) (by decide) rfl (fun ls hl => ?_)
  refine lv_goto (tgt := 66) hx hb dX12_jumps_144 (by decide) ?_
  exact hk66 hm hR hS (hl.sub [2, 3, 4, 5, 1, 0] rfl)
def m12_jumps_b137 (k66 : Nat → Int32 → Int32 → Int32 → Int32 → Int32 → hw_S → Option (Int32 × hw_S)) (x0 : Nat) (l4 : Int32) (l5 : Int32) (l6 : Int32) (l7 : Int32) (l8 : Int32) (σ : hw_S) : Option (Int32 × hw_S) :=
  m12_jumps_b139 k66 x0 l4 l5 l6 l8 l7 σ
set_option maxRecDepth 100000 in
theorem w12_jumps_b137 {p : Program} {l : Launch} {e : Env} {s : State} {m : MethodId} {args : Array Value} {below : List Frame} {meth : Method} {c : Code} {D : hw_D} {b : Nat} {k66 : Nat → Int32 → Int32 → Int32 → Int32 → Int32 → hw_S → Option (Int32 × hw_S)} {r : Int32} {τ : hw_S} (C0 : hw_C p s m args meth c D yX12_jumps cX12_jumps 10 (some .int)) (hk66 : ∀ {x0 : Nat} {l4 : Int32} {l5 : Int32} {l6 : Int32} {l7 : Int32} {l8 : Int32} {σ : hw_S} {H : Heap} {locs : List Loc} {ls : Array Slot}, k66 x0 l4 l5 l6 l7 l8 σ = some (r, τ) → hw_R D b σ H → va_S (fun q => b ≤ q) s.heap H locs → hw_L ls 10 255 [(0, hw_vr b (some x0)), (4, .int l4), (5, .int l5), (6, .int l6), (7, .int l7), (8, .int l8)] → W p l e rm12_jumps s m args below meth c H locs 0 0 (MQ below (hw_QI D b τ r) args s 0 0 (fun q => b ≤ q)) (F0 m 66 ls [])) {x0 : Nat} {l4 : Int32} {l5 : Int32} {l6 : Int32} {l7 : Int32} {l8 : Int32} {σ : hw_S} {H : Heap} {locs : List Loc} (hm : m12_jumps_b137 k66 x0 l4 l5 l6 l7 l8 σ = some (r, τ)) (hR : hw_R D b σ H) (hS : va_S (fun q => b ≤ q) s.heap H locs) {ls : Array Slot} (hl : hw_L ls 10 255 [(0, hw_vr b (some x0)), (4, .int l4), (5, .int l5), (6, .int l6), (7, .int l7), (8, .int l8)]) : W p l e rm12_jumps s m args below meth c H locs 0 0 (MQ below (hw_QI D b τ r) args s 0 0 (fun q => b ≤ q)) (F0 m 137 ls []) := by
  obtain ⟨hx, hb, hml, hr, hown, hts, hlk, hE, hnm⟩ := id C0
  have hown : s.vm.findClass RX12 = some m.cls := hown
  have hK := hE.1
  unfold m12_jumps_b137 at hm
  refine lv_iload hx hb dX12_jumps_137 (hl.at 4 rfl) ?_
  exact w12_jumps_b139 C0 hk66 hm hR hS (hl.sub [0, 1, 2, 3, 5] rfl)
def m12_jumps_b117 (k66 : Nat → Int32 → Int32 → Int32 → Int32 → Int32 → hw_S → Option (Int32 × hw_S)) (x0 : Nat) (l4 : Int32) (l5 : Int32) (l7 : Int32) (l8 : Int32) (l9 : Int32) (t0 : Int32) (t1 : Int32) (σ : hw_S) : Option (Int32 × hw_S) :=
  (if l9 = 0 then
  m12_jumps_b137 k66 x0 l4 l5 (t0 + t1) l7 l8 σ
  else
  (if l7 = ((-5) : Int32) then
  m12_jumps_b139 k66 x0 l4 l5 (t0 + t1) l8 l8 σ
  else
  m12_jumps_b137 k66 x0 l4 l5 (t0 + t1) l7 l8 σ))
set_option maxRecDepth 100000 in
theorem w12_jumps_b117 {p : Program} {l : Launch} {e : Env} {s : State} {m : MethodId} {args : Array Value} {below : List Frame} {meth : Method} {c : Code} {D : hw_D} {b : Nat} {k66 : Nat → Int32 → Int32 → Int32 → Int32 → Int32 → hw_S → Option (Int32 × hw_S)} {r : Int32} {τ : hw_S} (C0 : hw_C p s m args meth c D yX12_jumps cX12_jumps 10 (some .int)) (hk66 : ∀ {x0 : Nat} {l4 : Int32} {l5 : Int32} {l6 : Int32} {l7 : Int32} {l8 : Int32} {σ : hw_S} {H : Heap} {locs : List Loc} {ls : Array Slot}, k66 x0 l4 l5 l6 l7 l8 σ = some (r, τ) → hw_R D b σ H → va_S (fun q => b ≤ q) s.heap H locs → hw_L ls 10 255 [(0, hw_vr b (some x0)), (4, .int l4), (5, .int l5), (6, .int l6), (7, .int l7), (8, .int l8)] → W p l e rm12_jumps s m args below meth c H locs 0 0 (MQ below (hw_QI D b τ r) args s 0 0 (fun q => b ≤ q)) (F0 m 66 ls [])) {x0 : Nat} {l4 : Int32} {l5 : Int32} {l7 : Int32} {l8 : Int32} {l9 : Int32} {t0 : Int32} {t1 : Int32} {σ : hw_S} {H : Heap} {locs : List Loc} (hm : m12_jumps_b117 k66 x0 l4 l5 l7 l8 l9 t0 t1 σ = some (r, τ)) (hR : hw_R D b σ H) (hS : va_S (fun q => b ≤ q) s.heap H locs) {ls : Array Slot} (hl : hw_L ls 10 255 [(0, hw_vr b (some x0)), (4, .int l4), (5, .int l5), (7, .int l7), (8, .int l8), (9, .int l9)]) : W p l e rm12_jumps s m args below meth c H locs 0 0 (MQ below (hw_QI D b τ r) args s 0 0 (fun q => b ≤ q)) (F0 m 117 ls [.int t1, .int t0]) := by
  obtain ⟨hx, hb, hml, hr, hown, hts, hlk, hE, hnm⟩ := id C0
  have hown : s.vm.findClass RX12 = some m.cls := hown
  have hK := hE.1
  unfold m12_jumps_b117 at hm
  refine lv_iadd hx hb dX12_jumps_117 ?_
  refine hw_istore (lv' := [(6, .int (t0 + t1)), (0, hw_vr b (some x0)), (4, .int l4), (5, .int l5), (7, .int l7), (8, .int l8), (9, .int l9)]) hx hb dX12_jumps_118 hl (by decide) (by decide) rfl (fun ls hl => ?_)
  refine lv_iload hx hb dX12_jumps_120 (hl.at 6 rfl) ?_
  refine lv_if_eq (tgt := 137) hx hb dX12_jumps_122 (by decide) (fun c122 => ?_) (fun c122 => ?_)
  · have hm := hw_ip hm c122
    exact w12_jumps_b137 C0 hk66 hm hR hS (hl.sub [1, 2, 3, 0, 4, 5] rfl)
  · have hm := hw_in hm c122
    refine lv_iload hx hb dX12_jumps_125 (hl.at 4 rfl) ?_
    refine lv_bipush (v := (-5)) hx hb dX12_jumps_127 (by decide) ?_
    refine lv_icmp_ne (tgt := 137) hx hb dX12_jumps_129 (by decide) (fun c129 => ?_) (fun c129 => ?_)
    · have hm := hw_in hm c129
      exact w12_jumps_b137 C0 hk66 hm hR hS (hl.sub [1, 2, 3, 0, 4, 5] rfl)
    · have hm := hw_ip hm c129
      refine lv_iload hx hb dX12_jumps_132 (hl.at 5 rfl) ?_
      refine lv_goto (tgt := 139) hx hb dX12_jumps_134 (by decide) ?_
      exact w12_jumps_b139 C0 hk66 hm hR hS (hl.sub [1, 2, 3, 0, 5] rfl)
def m12_jumps_b103 (k66 : Nat → Int32 → Int32 → Int32 → Int32 → Int32 → hw_S → Option (Int32 × hw_S)) (x0 : Nat) (l4 : Int32) (l5 : Int32) (l6 : Int32) (l7 : Int32) (l8 : Int32) (t0 : Int32) (σ : hw_S) : Option (Int32 × hw_S) :=
  (if t0 = 0 then
  m12_jumps_b117 k66 x0 l4 l5 l7 l8 t0 l6 (0 : Int32) σ
  else
  m12_jumps_b117 k66 x0 l4 l5 l7 l8 t0 l6 (1 : Int32) σ)
set_option maxRecDepth 100000 in
theorem w12_jumps_b103 {p : Program} {l : Launch} {e : Env} {s : State} {m : MethodId} {args : Array Value} {below : List Frame} {meth : Method} {c : Code} {D : hw_D} {b : Nat} {k66 : Nat → Int32 → Int32 → Int32 → Int32 → Int32 → hw_S → Option (Int32 × hw_S)} {r : Int32} {τ : hw_S} (C0 : hw_C p s m args meth c D yX12_jumps cX12_jumps 10 (some .int)) (hk66 : ∀ {x0 : Nat} {l4 : Int32} {l5 : Int32} {l6 : Int32} {l7 : Int32} {l8 : Int32} {σ : hw_S} {H : Heap} {locs : List Loc} {ls : Array Slot}, k66 x0 l4 l5 l6 l7 l8 σ = some (r, τ) → hw_R D b σ H → va_S (fun q => b ≤ q) s.heap H locs → hw_L ls 10 255 [(0, hw_vr b (some x0)), (4, .int l4), (5, .int l5), (6, .int l6), (7, .int l7), (8, .int l8)] → W p l e rm12_jumps s m args below meth c H locs 0 0 (MQ below (hw_QI D b τ r) args s 0 0 (fun q => b ≤ q)) (F0 m 66 ls [])) {x0 : Nat} {l4 : Int32} {l5 : Int32} {l6 : Int32} {l7 : Int32} {l8 : Int32} {t0 : Int32} {σ : hw_S} {H : Heap} {locs : List Loc} (hm : m12_jumps_b103 k66 x0 l4 l5 l6 l7 l8 t0 σ = some (r, τ)) (hR : hw_R D b σ H) (hS : va_S (fun q => b ≤ q) s.heap H locs) {ls : Array Slot} (hl : hw_L ls 10 255 [(0, hw_vr b (some x0)), (4, .int l4), (5, .int l5), (6, .int l6), (7, .int l7), (8, .int l8)]) : W p l e rm12_jumps s m args below meth c H locs 0 0 (MQ below (hw_QI D b τ r) args s 0 0 (fun q => b ≤ q)) (F0 m 103 ls [.int t0]) := by
  obtain ⟨hx, hb, hml, hr, hown, hts, hlk, hE, hnm⟩ := id C0
  have hown : s.vm.findClass RX12 = some m.cls := hown
  have hK := hE.1
  unfold m12_jumps_b103 at hm
  refine hw_istore (lv' := [(9, .int t0), (0, hw_vr b (some x0)), (4, .int l4), (5, .int l5), (6, .int l6), (7, .int l7), (8, .int l8)]) hx hb dX12_jumps_103 hl (by decide) (by decide) rfl (fun ls hl => ?_)
  refine lv_iload hx hb dX12_jumps_105 (hl.at 4 rfl) ?_
  refine lv_iload hx hb dX12_jumps_107 (hl.at 0 rfl) ?_
  refine lv_if_eq (tgt := 116) hx hb dX12_jumps_109 (by decide) (fun c109 => ?_) (fun c109 => ?_)
  · have hm := hw_ip hm c109
    refine lv_iconst (v := 0) hx hb dX12_jumps_116 (by decide) ?_
    exact w12_jumps_b117 C0 hk66 hm hR hS (hl.sub [1, 2, 3, 5, 6, 0] rfl)
  · have hm := hw_in hm c109
    refine lv_iconst (v := 1) hx hb dX12_jumps_112 (by decide) ?_
    refine lv_goto (tgt := 117) hx hb dX12_jumps_113 (by decide) ?_
    exact w12_jumps_b117 C0 hk66 hm hR hS (hl.sub [1, 2, 3, 5, 6, 0] rfl)
def m12_jumps_b66 : Nat → Nat → Int32 → Int32 → Int32 → Int32 → Int32 → hw_S → Option (Int32 × hw_S)
  | 0, _, _, _, _, _, _, _ => none
  | n + 1, x0, l4, l5, l6, l7, l8, σ =>
  (if (60 : Int32) < l8 then
  (if l5 = 0 then
  m12_jumps_b159 x0 l6 σ
  else
  m12_jumps_b159 x0 l7 σ)
  else
  (hw_gP (hw_q 12) 16 (some x0) σ).bind fun v74 =>
  (hw_aI 0 v74 l8 σ).bind fun v79 =>
  (hw_gP (hw_q 12) 16 (some x0) σ).bind fun v81 =>
  (hw_aI 0 v81 (l8 - (1 : Int32)) σ).bind fun v88 =>
  (m12_size (v79 - v88)).bind fun v90 =>
  (if v90 < l4 then
  m12_jumps_b103 (m12_jumps_b66 n) x0 l4 l5 l6 l7 l8 (0 : Int32) σ
  else
  m12_jumps_b103 (m12_jumps_b66 n) x0 l4 l5 l6 l7 l8 (1 : Int32) σ))
set_option maxRecDepth 100000 in
theorem w12_jumps_b66 {p : Program} {l : Launch} {e : Env} {s : State} {m : MethodId} {args : Array Value} {below : List Frame} {meth : Method} {c : Code} {D : hw_D} {b : Nat} {r : Int32} {τ : hw_S} (C0 : hw_C p s m args meth c D yX12_jumps cX12_jumps 10 (some .int)) : ∀ (n : Nat) {x0 : Nat} {l4 : Int32} {l5 : Int32} {l6 : Int32} {l7 : Int32} {l8 : Int32} {σ : hw_S} {H : Heap} {locs : List Loc} {ls : Array Slot}, m12_jumps_b66 n x0 l4 l5 l6 l7 l8 σ = some (r, τ) → hw_R D b σ H → va_S (fun q => b ≤ q) s.heap H locs → hw_L ls 10 255 [(0, hw_vr b (some x0)), (4, .int l4), (5, .int l5), (6, .int l6), (7, .int l7), (8, .int l8)] → W p l e rm12_jumps s m args below meth c H locs 0 0 (MQ below (hw_QI D b τ r) args s 0 0 (fun q => b ≤ q)) (F0 m 66 ls []) := by
  obtain ⟨hx, hb, hml, hr, hown, hts, hlk, hE, hnm⟩ := id C0
  have hown : s.vm.findClass RX12 = some m.cls := hown
  have hK := hE.1
  intro n
  induction n with
  | zero => intro _ _ _ _ _ _ _ _ _ _ hm; cases hm
  | succ n ih =>
    intro x0 l4 l5 l6 l7 l8 σ H locs ls hm hR hS hl
    rw [m12_jumps_b66] at hm
    refine lv_iload hx hb dX12_jumps_66 (hl.at 5 rfl) ?_
    refine lv_bipush (v := 60) hx hb dX12_jumps_68 (by decide) ?_
    refine lv_icmp_gt (tgt := 147) hx hb dX12_jumps_70 (by decide) (fun c70 => ?_) (fun c70 => ?_)
    · have hm := hw_ip hm c70
      refine lv_iload hx hb dX12_jumps_147 (hl.at 2 rfl) ?_
      refine lv_if_ne (tgt := 157) hx hb dX12_jumps_149 (by decide) (fun c149 => ?_) (fun c149 => ?_)
      · have hm := hw_in hm c149
        refine lv_iload hx hb dX12_jumps_157 (hl.at 4 rfl) ?_
        exact w12_jumps_b159 C0 hm hR hS (hl.sub [0] rfl)
      · have hm := hw_ip hm c149
        refine lv_iload hx hb dX12_jumps_152 (hl.at 3 rfl) ?_
        refine lv_goto (tgt := 159) hx hb dX12_jumps_154 (by decide) ?_
        exact w12_jumps_b159 C0 hm hR hS (hl.sub [0] rfl)
    · have hm := hw_in hm c70
      refine hw_aload_n hx hb dX12_jumps_73 rfl (hl.at 0 rfl) ?_
      obtain ⟨v74, e74, hm⟩ := hw_bs hm
      refine hw_getP hx hb hw_cf12 hts hown hK hR e74 (by decide) rfl (hts _ hw_m84) (fun _ h9 => h9) dX12_jumps_74 ?_
      refine lv_iload hx hb dX12_jumps_77 (hl.at 5 rfl) ?_
      obtain ⟨v79, e79, hm⟩ := hw_bs hm
      refine hw_iald hx hb hK hR e79 dX12_jumps_79 ?_
      refine hw_aload_n hx hb dX12_jumps_80 rfl (hl.at 0 rfl) ?_
      obtain ⟨v81, e81, hm⟩ := hw_bs hm
      refine hw_getP hx hb hw_cf12 hts hown hK hR e81 (by decide) rfl (hts _ hw_m84) (fun _ h9 => h9) dX12_jumps_81 ?_
      refine lv_iload hx hb dX12_jumps_84 (hl.at 5 rfl) ?_
      refine lv_iconst (v := 1) hx hb dX12_jumps_86 (by decide) ?_
      refine lv_isub hx hb dX12_jumps_87 ?_
      obtain ⟨v88, e88, hm⟩ := hw_bs hm
      refine hw_iald hx hb hK hR e88 dX12_jumps_88 ?_
      refine lv_isub hx hb dX12_jumps_89 ?_
      obtain ⟨v90, e90, hm⟩ := hw_bs hm
      refine hw_cRI (va_runS (As := [.int (v79 - v88)]) (rest := []) ⟨hx, hb, hml, hown, hts⟩ (c12_size l D e90) (cwS 1 hts (hw_gS hw_m717 hw_m718 hw_m5 hw_m719) rfl rfl rfl (by decide +kernel) ⟨(Nat.le_of_ble_eq_true rfl), (Nat.le_of_ble_eq_true rfl)⟩) (hw_pre0 hE) rfl rfl hl.sz rfl (lv_room (Nat.le_of_ble_eq_true rfl)) dX12_jumps_90 ⟨(Nat.le_of_ble_eq_true rfl), (Nat.le_of_ble_eq_true rfl)⟩) ?_
      refine lv_iload hx hb dX12_jumps_93 (hl.at 1 rfl) ?_
      refine lv_icmp_lt (tgt := 102) hx hb dX12_jumps_95 (by decide) (fun c95 => ?_) (fun c95 => ?_)
      · have hm := hw_ip hm c95
        refine lv_iconst (v := 0) hx hb dX12_jumps_102 (by decide) ?_
        exact w12_jumps_b103 C0 ih hm hR hS (hl.sub [0, 1, 2, 3, 4, 5] rfl)
      · have hm := hw_in hm c95
        refine lv_iconst (v := 1) hx hb dX12_jumps_98 (by decide) ?_
        refine lv_goto (tgt := 103) hx hb dX12_jumps_99 (by decide) ?_
        exact w12_jumps_b103 C0 ih hm hR hS (hl.sub [0, 1, 2, 3, 4, 5] rfl)
def m12_jumps (x0 : Nat) (l1 : Int32) (l2 : Int32) (l3 : Int32) (l4 : Int32) (l5 : Int32) (σ : hw_S) : Option (Int32 × hw_S) :=
  (hw_rv (hw_q 12) (some x0) σ).bind fun a2 =>
  (m12_isLaw x0 l1 σ).bind fun v2 =>
  (if v2 = 0 then
  m12_jumps_b26 x0 σ
  else
  (hw_rv (hw_q 12) (some x0) σ).bind fun a10 =>
  (m12_isStuff x0 l2 σ).bind fun v10 =>
  (if v10 = 0 then
  m12_jumps_b26 x0 σ
  else
  (m12_in l5 (0 : Int32) (1 : Int32)).bind fun v20 =>
  (if v20 = 0 then
  m12_jumps_b26 x0 σ
  else
  (m12_isFlow l3).bind fun v29 =>
  (if v29 = 0 then
  m12_jumps_b46 x0 σ
  else
  (m12_in l4 (1 : Int32) (99 : Int32)).bind fun v40 =>
  (if v40 = 0 then
  m12_jumps_b46 x0 σ
  else
  (hw_rv (hw_q 12) (some x0) σ).bind fun a53 =>
  (m12_curves x0 l1 l2 l3 σ).bind fun σ53 =>
  m12_jumps_b66 hw_fu x0 l4 l5 (0 : Int32) ((-5) : Int32) (2 : Int32) σ53)))))
set_option maxRecDepth 100000 in
theorem w12_jumps_s {p : Program} {l : Launch} {e : Env} {s : State} {m : MethodId} {args : Array Value} {below : List Frame} {meth : Method} {c : Code} {D : hw_D} {b : Nat} {x0 : Nat} {l1 : Int32} {l2 : Int32} {l3 : Int32} {l4 : Int32} {l5 : Int32} {σ : hw_S} {r : Int32} {τ : hw_S} {H : Heap} {locs : List Loc} (hm : m12_jumps x0 l1 l2 l3 l4 l5 σ = some (r, τ)) (C0 : hw_C p s m args meth c D yX12_jumps cX12_jumps 10 (some .int)) (hR : hw_R D b σ H) (hS : va_S (fun q => b ≤ q) s.heap H locs) {ls : Array Slot} (hl : hw_L ls 10 255 [(0, hw_vr b (some x0)), (1, .int l1), (2, .int l2), (3, .int l3), (4, .int l4), (5, .int l5)]) : W p l e rm12_jumps s m args below meth c H locs 0 0 (MQ below (hw_QI D b τ r) args s 0 0 (fun q => b ≤ q)) (F0 m 0 ls []) := by
  obtain ⟨hx, hb, hml, hr, hown, hts, hlk, hE, hnm⟩ := id C0
  have hown : s.vm.findClass RX12 = some m.cls := hown
  have hK := hE.1
  unfold m12_jumps at hm
  refine hw_aload_n hx hb dX12_jumps_0 rfl (hl.at 0 rfl) ?_
  refine lv_iload_n hx hb dX12_jumps_1 rfl (hl.at 1 rfl) ?_
  obtain ⟨a2, g2, hm⟩ := hw_bs hm
  obtain ⟨rfl, ht2⟩ := hw_rv_th g2
  obtain ⟨v2, e2, hm⟩ := hw_bs hm
  refine hw_cRI (va_runV (As := [.int l1]) (rest := []) ⟨hx, hb, hml, hown, hts⟩ (c12_isLaw l D b e2) (cwV 1 hts (hw_gV hw_m434 hw_m435 hw_m436 hw_m5 hw_m437) rfl rfl rfl (by decide +kernel) ⟨(Nat.le_of_ble_eq_true rfl), (Nat.le_of_ble_eq_true rfl)⟩) (hw_preV (ci := 12) hE hR rfl (by decide) (hw_q_of ht2)) rfl rfl hl.sz rfl (lv_room (Nat.le_of_ble_eq_true rfl)) dX12_jumps_2 ⟨(Nat.le_of_ble_eq_true rfl), (Nat.le_of_ble_eq_true rfl)⟩) ?_
  refine lv_if_eq (tgt := 26) hx hb dX12_jumps_5 (by decide) (fun c5 => ?_) (fun c5 => ?_)
  · have hm := hw_ip hm c5
    exact w12_jumps_b26 C0 hm hR hS (hl.sub [0] rfl)
  · have hm := hw_in hm c5
    refine hw_aload_n hx hb dX12_jumps_8 rfl (hl.at 0 rfl) ?_
    refine lv_iload_n hx hb dX12_jumps_9 rfl (hl.at 2 rfl) ?_
    obtain ⟨a10, g10, hm⟩ := hw_bs hm
    obtain ⟨rfl, ht10⟩ := hw_rv_th g10
    obtain ⟨v10, e10, hm⟩ := hw_bs hm
    refine hw_cRI (va_runV (As := [.int l2]) (rest := []) ⟨hx, hb, hml, hown, hts⟩ (c12_isStuff l D b e10) (cwV 1 hts (hw_gV hw_m129 hw_m130 hw_m131 hw_m5 hw_m132) rfl rfl rfl (by decide +kernel) ⟨(Nat.le_of_ble_eq_true rfl), (Nat.le_of_ble_eq_true rfl)⟩) (hw_preV (ci := 12) hE hR rfl (by decide) (hw_q_of ht10)) rfl rfl hl.sz rfl (lv_room (Nat.le_of_ble_eq_true rfl)) dX12_jumps_10 ⟨(Nat.le_of_ble_eq_true rfl), (Nat.le_of_ble_eq_true rfl)⟩) ?_
    refine lv_if_eq (tgt := 26) hx hb dX12_jumps_13 (by decide) (fun c13 => ?_) (fun c13 => ?_)
    · have hm := hw_ip hm c13
      exact w12_jumps_b26 C0 hm hR hS (hl.sub [0] rfl)
    · have hm := hw_in hm c13
      refine lv_iload hx hb dX12_jumps_16 (hl.at 5 rfl) ?_
      refine lv_iconst (v := 0) hx hb dX12_jumps_18 (by decide) ?_
      refine lv_iconst (v := 1) hx hb dX12_jumps_19 (by decide) ?_
      obtain ⟨v20, e20, hm⟩ := hw_bs hm
      refine hw_cRI (va_runS (As := [.int l5, .int (0 : Int32), .int (1 : Int32)]) (rest := []) ⟨hx, hb, hml, hown, hts⟩ (c12_in l D e20) (cwS 3 hts (hw_gS hw_m112 hw_m113 hw_m5 hw_m114) rfl rfl rfl (by decide +kernel) ⟨(Nat.le_of_ble_eq_true rfl), (Nat.le_of_ble_eq_true rfl)⟩) (hw_pre0 hE) rfl rfl hl.sz rfl (lv_room (Nat.le_of_ble_eq_true rfl)) dX12_jumps_20 ⟨(Nat.le_of_ble_eq_true rfl), (Nat.le_of_ble_eq_true rfl)⟩) ?_
      refine lv_if_ne (tgt := 28) hx hb dX12_jumps_23 (by decide) (fun c23 => ?_) (fun c23 => ?_)
      · have hm := hw_in hm c23
        refine lv_iload_n hx hb dX12_jumps_28 rfl (hl.at 3 rfl) ?_
        obtain ⟨v29, e29, hm⟩ := hw_bs hm
        refine hw_cRI (va_runS (As := [.int l3]) (rest := []) ⟨hx, hb, hml, hown, hts⟩ (c12_isFlow l D e29) (cwS 1 hts (hw_gS hw_m699 hw_m700 hw_m5 hw_m701) rfl rfl rfl (by decide +kernel) ⟨(Nat.le_of_ble_eq_true rfl), (Nat.le_of_ble_eq_true rfl)⟩) (hw_pre0 hE) rfl rfl hl.sz rfl (lv_room (Nat.le_of_ble_eq_true rfl)) dX12_jumps_29 ⟨(Nat.le_of_ble_eq_true rfl), (Nat.le_of_ble_eq_true rfl)⟩) ?_
        refine lv_if_eq (tgt := 46) hx hb dX12_jumps_32 (by decide) (fun c32 => ?_) (fun c32 => ?_)
        · have hm := hw_ip hm c32
          exact w12_jumps_b46 C0 hm hR hS (hl.sub [0] rfl)
        · have hm := hw_in hm c32
          refine lv_iload hx hb dX12_jumps_35 (hl.at 4 rfl) ?_
          refine lv_iconst (v := 1) hx hb dX12_jumps_37 (by decide) ?_
          refine lv_bipush (v := 99) hx hb dX12_jumps_38 (by decide) ?_
          obtain ⟨v40, e40, hm⟩ := hw_bs hm
          refine hw_cRI (va_runS (As := [.int l4, .int (1 : Int32), .int (99 : Int32)]) (rest := []) ⟨hx, hb, hml, hown, hts⟩ (c12_in l D e40) (cwS 3 hts (hw_gS hw_m112 hw_m113 hw_m5 hw_m114) rfl rfl rfl (by decide +kernel) ⟨(Nat.le_of_ble_eq_true rfl), (Nat.le_of_ble_eq_true rfl)⟩) (hw_pre0 hE) rfl rfl hl.sz rfl (lv_room (Nat.le_of_ble_eq_true rfl)) dX12_jumps_40 ⟨(Nat.le_of_ble_eq_true rfl), (Nat.le_of_ble_eq_true rfl)⟩) ?_
          refine lv_if_ne (tgt := 49) hx hb dX12_jumps_43 (by decide) (fun c43 => ?_) (fun c43 => ?_)
          · have hm := hw_in hm c43
            refine hw_aload_n hx hb dX12_jumps_49 rfl (hl.at 0 rfl) ?_
            refine lv_iload_n hx hb dX12_jumps_50 rfl (hl.at 1 rfl) ?_
            refine lv_iload_n hx hb dX12_jumps_51 rfl (hl.at 2 rfl) ?_
            refine lv_iload_n hx hb dX12_jumps_52 rfl (hl.at 3 rfl) ?_
            obtain ⟨a53, g53, hm⟩ := hw_bs hm
            obtain ⟨rfl, ht53⟩ := hw_rv_th g53
            obtain ⟨σ53, e53, hm⟩ := hw_bs hm
            refine hw_cWV (va_runV (As := [.int l1, .int l2, .int l3]) (rest := []) ⟨hx, hb, hml, hown, hts⟩ (c12_curves l D b e53) (cwV 3 hts (hw_gV hw_m702 hw_m703 hw_m704 hw_m5 hw_m705) rfl rfl rfl (by decide +kernel) ⟨(Nat.le_of_ble_eq_true rfl), (Nat.le_of_ble_eq_true rfl)⟩) (hw_preV (ci := 12) hE hR rfl (by decide) (hw_q_of ht53)) rfl rfl hl.sz rfl (lv_room (Nat.le_of_ble_eq_true rfl)) dX12_jumps_53 ⟨(Nat.le_of_ble_eq_true rfl), (Nat.le_of_ble_eq_true rfl)⟩) hS (fun _ _ hR hS => ?_)
            refine lv_iconst (v := 0) hx hb dX12_jumps_56 (by decide) ?_
            refine hw_istore (lv' := [(6, .int (0 : Int32)), (0, hw_vr b (some x0)), (1, .int l1), (2, .int l2), (3, .int l3), (4, .int l4), (5, .int l5)]) hx hb dX12_jumps_57 hl (by decide) (by decide) rfl (fun ls hl => ?_)
            refine lv_bipush (v := (-5)) hx hb dX12_jumps_59 (by decide) ?_
            refine hw_istore (lv' := [(7, .int ((-5) : Int32)), (6, .int (0 : Int32)), (0, hw_vr b (some x0)), (1, .int l1), (2, .int l2), (3, .int l3), (4, .int l4), (5, .int l5)]) hx hb dX12_jumps_61 hl (by decide) (by decide) rfl (fun ls hl => ?_)
            refine lv_iconst (v := 2) hx hb dX12_jumps_63 (by decide) ?_
            refine hw_istore (lv' := [(8, .int (2 : Int32)), (7, .int ((-5) : Int32)), (6, .int (0 : Int32)), (0, hw_vr b (some x0)), (1, .int l1), (2, .int l2), (3, .int l3), (4, .int l4), (5, .int l5)]) hx hb dX12_jumps_64 hl (by decide) (by decide) rfl (fun ls hl => ?_)
            exact w12_jumps_b66 C0 hw_fu hm hR hS (hl.sub [3, 7, 8, 2, 1, 0] rfl)
          · have hm := hw_ip hm c43
            exact w12_jumps_b46 C0 hm hR hS (hl.sub [0] rfl)
      · have hm := hw_ip hm c23
        exact w12_jumps_b26 C0 hm hR hS (hl.sub [0] rfl)
set_option maxRecDepth 100000 in
theorem c12_jumps (l : Launch) (D : hw_D) (b : Nat) {x0 : Nat} {l1 : Int32} {l2 : Int32} {l3 : Int32} {l4 : Int32} {l5 : Int32} {σ : hw_S} {r : Int32} {τ : hw_S} (hm : m12_jumps x0 l1 l2 l3 l4 l5 σ = some (r, τ)) : Met l yX12_jumps (Cond.code yX12_jumps cX12_jumps 10 (some .int) :: wsL_law) rm12_jumps (hw_P1 D b σ [hw_vr b (some x0), .int l1, .int l2, .int l3, .int l4, .int l5]) (hw_QI D b τ r) 0 0 (fun q => b ≤ q) := by
  refine hw_start1 (by decide +kernel) (by exact Nat.le_of_ble_eq_true rfl) ?_
  intro p e s m below meth c ls C0 hR hS hl
  have hl : lv_has ls 10 [(0, hw_vr b (some x0)), (1, .int l1), (2, .int l2), (3, .int l3), (4, .int l4), (5, .int l5)] := by exact hl
  exact w12_jumps_s hm C0 hR hS ⟨hl, (List.forall_mem_cons.mpr ⟨(fun h => by rw [show (hw_vr b (some x0) : Value).category = 1 from (hw_vr_cat _ _)] at h; cases h), (List.forall_mem_cons.mpr ⟨(fun h => absurd (show (1 : Nat) = 2 from h) (by decide)), (List.forall_mem_cons.mpr ⟨(fun h => absurd (show (1 : Nat) = 2 from h) (by decide)), (List.forall_mem_cons.mpr ⟨(fun h => absurd (show (1 : Nat) = 2 from h) (by decide)), (List.forall_mem_cons.mpr ⟨(fun h => absurd (show (1 : Nat) = 2 from h) (by decide)), (List.forall_mem_cons.mpr ⟨(fun h => absurd (show (1 : Nat) = 2 from h) (by decide)), (fun _ h => absurd h List.not_mem_nil)⟩)⟩)⟩)⟩)⟩)⟩)⟩

abbrev rm11_pick : Room := { frames := 0, cells := 0, slots := 0, locals := 0 }
def m11_pick_b16 (t0 : Int32) : Option Int32 :=
  some t0
set_option maxRecDepth 100000 in
theorem w11_pick_b16 {p : Program} {l : Launch} {e : Env} {s : State} {m : MethodId} {args : Array Value} {below : List Frame} {meth : Method} {c : Code} {D : hw_D} {r : Int32} (C0 : hw_C p s m args meth c D yX11_pick cX11_pick 4 (some .int)) {t0 : Int32} (hm : m11_pick_b16 t0 = some r) {ls : Array Slot} (hl : hw_L ls 4 255 []) : W p l e rm11_pick s m args below meth c s.heap [] 0 0 (MQ below (hw_RI r) args s 0 0 hw_nof) (F0 m 16 ls [.int t0]) := by
  obtain ⟨hx, hb, hml, hr, hown, hts, hlk, hE, hnm⟩ := id C0
  have hown : s.vm.findClass RX11 = some m.cls := hown
  unfold m11_pick_b16 at hm
  exact hw_rRI hx hb hr hlk hm dX11_pick_16
def m11_pick (l0 : Int32) (l1 : Int32) (l2 : Int32) (l3 : Int32) : Option Int32 :=
  (if l0 = 0 then
  some l1
  else
  (if l0 = (1 : Int32) then
  m11_pick_b16 l2
  else
  m11_pick_b16 l3))
set_option maxRecDepth 100000 in
theorem w11_pick_s {p : Program} {l : Launch} {e : Env} {s : State} {m : MethodId} {args : Array Value} {below : List Frame} {meth : Method} {c : Code} {D : hw_D} {l0 : Int32} {l1 : Int32} {l2 : Int32} {l3 : Int32} {r : Int32} (hm : m11_pick l0 l1 l2 l3 = some r) (C0 : hw_C p s m args meth c D yX11_pick cX11_pick 4 (some .int)) {ls : Array Slot} (hl : hw_L ls 4 255 [(0, .int l0), (1, .int l1), (2, .int l2), (3, .int l3)]) : W p l e rm11_pick s m args below meth c s.heap [] 0 0 (MQ below (hw_RI r) args s 0 0 hw_nof) (F0 m 0 ls []) := by
  obtain ⟨hx, hb, hml, hr, hown, hts, hlk, hE, hnm⟩ := id C0
  have hown : s.vm.findClass RX11 = some m.cls := hown
  unfold m11_pick at hm
  refine lv_iload_n hx hb dX11_pick_0 rfl (hl.at 0 rfl) ?_
  refine lv_if_ne (tgt := 6) hx hb dX11_pick_1 (by decide) (fun c1 => ?_) (fun c1 => ?_)
  · have hm := hw_in hm c1
    refine lv_iload_n hx hb dX11_pick_6 rfl (hl.at 0 rfl) ?_
    refine lv_iconst (v := 1) hx hb dX11_pick_7 (by decide) ?_
    refine lv_icmp_ne (tgt := 15) hx hb dX11_pick_8 (by decide) (fun c8 => ?_) (fun c8 => ?_)
    · have hm := hw_in hm c8
      refine lv_iload_n hx hb dX11_pick_15 rfl (hl.at 3 rfl) ?_
      exact w11_pick_b16 C0 hm (hl.sub [] rfl)
    · have hm := hw_ip hm c8
      refine lv_iload_n hx hb dX11_pick_11 rfl (hl.at 2 rfl) ?_
      refine lv_goto (tgt := 16) hx hb dX11_pick_12 (by decide) ?_
      exact w11_pick_b16 C0 hm (hl.sub [] rfl)
  · have hm := hw_ip hm c1
    refine lv_iload_n hx hb dX11_pick_4 rfl (hl.at 1 rfl) ?_
    exact hw_rRI hx hb hr hlk hm dX11_pick_5
set_option maxRecDepth 100000 in
theorem c11_pick (l : Launch) (D : hw_D) {l0 : Int32} {l1 : Int32} {l2 : Int32} {l3 : Int32} {r : Int32} (hm : m11_pick l0 l1 l2 l3 = some r) : Met l yX11_pick (Cond.code yX11_pick cX11_pick 4 (some .int) :: wsL_law) rm11_pick (hw_P0 D [.int l0, .int l1, .int l2, .int l3]) (hw_RI r) 0 0 hw_nof := by
  refine hw_start0 (by decide +kernel) (by exact Nat.le_of_ble_eq_true rfl) ?_
  intro p e s m below meth c ls C0 hl
  have hl : lv_has ls 4 [(0, .int l0), (1, .int l1), (2, .int l2), (3, .int l3)] := by exact hl
  exact w11_pick_s hm C0 ⟨hl, (List.forall_mem_cons.mpr ⟨(fun h => absurd (show (1 : Nat) = 2 from h) (by decide)), (List.forall_mem_cons.mpr ⟨(fun h => absurd (show (1 : Nat) = 2 from h) (by decide)), (List.forall_mem_cons.mpr ⟨(fun h => absurd (show (1 : Nat) = 2 from h) (by decide)), (List.forall_mem_cons.mpr ⟨(fun h => absurd (show (1 : Nat) = 2 from h) (by decide)), (fun _ h => absurd h List.not_mem_nil)⟩)⟩)⟩)⟩)⟩
