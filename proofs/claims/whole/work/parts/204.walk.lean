abbrev rm12_turnsAs : Room := { frames := 2, cells := 0, slots := 0, locals := 53 }
def m12_turnsAs_b215 (x0 : Nat) (t0 : Int32) (σ : hw_S) : Option (Int32 × hw_S) :=
  some (t0, σ)
set_option maxRecDepth 100000 in
theorem w12_turnsAs_b215 {p : Program} {l : Launch} {e : Env} {s : State} {m : MethodId} {args : Array Value} {below : List Frame} {meth : Method} {c : Code} {D : hw_D} {b : Nat} {r : Int32} {τ : hw_S} (C0 : hw_C p s m args meth c D yX12_turnsAs cX12_turnsAs 13 (some .int)) {x0 : Nat} {t0 : Int32} {σ : hw_S} {H : Heap} {locs : List Loc} (hm : m12_turnsAs_b215 x0 t0 σ = some (r, τ)) (hR : hw_R D b σ H) (hS : va_S (fun q => b ≤ q) s.heap H locs) {ls : Array Slot} (hl : hw_L ls 13 255 [(0, hw_vr b (some x0))]) : W p l e rm12_turnsAs s m args below meth c H locs 0 0 (MQ below (hw_QI D b τ r) args s 0 0 (fun q => b ≤ q)) (F0 m 215 ls [.int t0]) := by
  obtain ⟨hx, hb, hml, hr, hown, hts, hlk, hE, hnm⟩ := id C0
  have hown : s.vm.findClass RX12 = some m.cls := hown
  have hK := hE.1
  unfold m12_turnsAs_b215 at hm
  exact hw_rWI hx hb hr hlk hR hS hm dX12_turnsAs_215
def m12_turnsAs_b199 (x0 : Nat) (l12 : Int32) (σ : hw_S) : Option (Int32 × hw_S) :=
  (if l12 ≤ (999 : Int32) then
  m12_turnsAs_b215 x0 l12 σ
  else
  m12_turnsAs_b215 x0 (999 : Int32) σ)
set_option maxRecDepth 100000 in
theorem w12_turnsAs_b199 {p : Program} {l : Launch} {e : Env} {s : State} {m : MethodId} {args : Array Value} {below : List Frame} {meth : Method} {c : Code} {D : hw_D} {b : Nat} {r : Int32} {τ : hw_S} (C0 : hw_C p s m args meth c D yX12_turnsAs cX12_turnsAs 13 (some .int)) {x0 : Nat} {l12 : Int32} {σ : hw_S} {H : Heap} {locs : List Loc} (hm : m12_turnsAs_b199 x0 l12 σ = some (r, τ)) (hR : hw_R D b σ H) (hS : va_S (fun q => b ≤ q) s.heap H locs) {ls : Array Slot} (hl : hw_L ls 13 255 [(0, hw_vr b (some x0)), (12, .int l12)]) : W p l e rm12_turnsAs s m args below meth c H locs 0 0 (MQ below (hw_QI D b τ r) args s 0 0 (fun q => b ≤ q)) (F0 m 199 ls []) := by
  obtain ⟨hx, hb, hml, hr, hown, hts, hlk, hE, hnm⟩ := id C0
  have hown : s.vm.findClass RX12 = some m.cls := hown
  have hK := hE.1
  unfold m12_turnsAs_b199 at hm
  refine lv_iload hx hb dX12_turnsAs_199 (hl.at 1 rfl) ?_
  refine lv_sipush (v := 999) hx hb dX12_turnsAs_201 (by decide) ?_
  refine lv_icmp_le (tgt := 213) hx hb dX12_turnsAs_204 (by decide) (fun c204 => ?_) (fun c204 => ?_)
  · have hm := hw_ip hm c204
    refine lv_iload hx hb dX12_turnsAs_213 (hl.at 1 rfl) ?_
    exact w12_turnsAs_b215 C0 hm hR hS (hl.sub [0] rfl)
  · have hm := hw_in hm c204
    refine lv_sipush (v := 999) hx hb dX12_turnsAs_207 (by decide) ?_
    refine lv_goto (tgt := 215) hx hb dX12_turnsAs_210 (by decide) ?_
    exact w12_turnsAs_b215 C0 hm hR hS (hl.sub [0] rfl)
def m12_turnsAs_b135 (x0 : Nat) (l10 : Int32) (σ : hw_S) : Option (Int32 × hw_S) :=
  m12_turnsAs_b199 x0 l10 σ
set_option maxRecDepth 100000 in
theorem w12_turnsAs_b135 {p : Program} {l : Launch} {e : Env} {s : State} {m : MethodId} {args : Array Value} {below : List Frame} {meth : Method} {c : Code} {D : hw_D} {b : Nat} {r : Int32} {τ : hw_S} (C0 : hw_C p s m args meth c D yX12_turnsAs cX12_turnsAs 13 (some .int)) {x0 : Nat} {l10 : Int32} {σ : hw_S} {H : Heap} {locs : List Loc} (hm : m12_turnsAs_b135 x0 l10 σ = some (r, τ)) (hR : hw_R D b σ H) (hS : va_S (fun q => b ≤ q) s.heap H locs) {ls : Array Slot} (hl : hw_L ls 13 255 [(0, hw_vr b (some x0)), (10, .int l10)]) : W p l e rm12_turnsAs s m args below meth c H locs 0 0 (MQ below (hw_QI D b τ r) args s 0 0 (fun q => b ≤ q)) (F0 m 135 ls []) := by
  obtain ⟨hx, hb, hml, hr, hown, hts, hlk, hE, hnm⟩ := id C0
  have hown : s.vm.findClass RX12 = some m.cls := hown
  have hK := hE.1
  unfold m12_turnsAs_b135 at hm
  refine lv_iload hx hb dX12_turnsAs_135 (hl.at 1 rfl) ?_
  refine hw_istore (lv' := [(12, .int l10), (0, hw_vr b (some x0)), (10, .int l10)]) hx hb dX12_turnsAs_137 hl (by decide) (by decide) rfl (fun ls hl => ?_)
  refine lv_goto (tgt := 199) hx hb dX12_turnsAs_139 (by decide) ?_
  exact w12_turnsAs_b199 C0 hm hR hS (hl.sub [1, 0] rfl)
def m12_turnsAs_b162 (x0 : Nat) (t0 : Int32) (t1 : Int32) (σ : hw_S) : Option (Int32 × hw_S) :=
  m12_turnsAs_b199 x0 (t0 + t1) σ
set_option maxRecDepth 100000 in
theorem w12_turnsAs_b162 {p : Program} {l : Launch} {e : Env} {s : State} {m : MethodId} {args : Array Value} {below : List Frame} {meth : Method} {c : Code} {D : hw_D} {b : Nat} {r : Int32} {τ : hw_S} (C0 : hw_C p s m args meth c D yX12_turnsAs cX12_turnsAs 13 (some .int)) {x0 : Nat} {t0 : Int32} {t1 : Int32} {σ : hw_S} {H : Heap} {locs : List Loc} (hm : m12_turnsAs_b162 x0 t0 t1 σ = some (r, τ)) (hR : hw_R D b σ H) (hS : va_S (fun q => b ≤ q) s.heap H locs) {ls : Array Slot} (hl : hw_L ls 13 255 [(0, hw_vr b (some x0))]) : W p l e rm12_turnsAs s m args below meth c H locs 0 0 (MQ below (hw_QI D b τ r) args s 0 0 (fun q => b ≤ q)) (F0 m 162 ls [.int t1, .int t0]) := by
  obtain ⟨hx, hb, hml, hr, hown, hts, hlk, hE, hnm⟩ := id C0
  have hown : s.vm.findClass RX12 = some m.cls := hown
  have hK := hE.1
  unfold m12_turnsAs_b162 at hm
  refine lv_iadd hx hb dX12_turnsAs_162 ?_
  refine hw_istore (lv' := [(12, .int (t0 + t1)), (0, hw_vr b (some x0))]) hx hb dX12_turnsAs_163 hl (by decide) (by decide) rfl (fun ls hl => ?_)
  refine lv_goto (tgt := 199) hx hb dX12_turnsAs_165 (by decide) ?_
  exact w12_turnsAs_b199 C0 hm hR hS (hl.sub [1, 0] rfl)
def m12_turnsAs_b194 (x0 : Nat) (t0 : Int32) (σ : hw_S) : Option (Int32 × hw_S) :=
  m12_turnsAs_b199 x0 t0 σ
set_option maxRecDepth 100000 in
theorem w12_turnsAs_b194 {p : Program} {l : Launch} {e : Env} {s : State} {m : MethodId} {args : Array Value} {below : List Frame} {meth : Method} {c : Code} {D : hw_D} {b : Nat} {r : Int32} {τ : hw_S} (C0 : hw_C p s m args meth c D yX12_turnsAs cX12_turnsAs 13 (some .int)) {x0 : Nat} {t0 : Int32} {σ : hw_S} {H : Heap} {locs : List Loc} (hm : m12_turnsAs_b194 x0 t0 σ = some (r, τ)) (hR : hw_R D b σ H) (hS : va_S (fun q => b ≤ q) s.heap H locs) {ls : Array Slot} (hl : hw_L ls 13 255 [(0, hw_vr b (some x0))]) : W p l e rm12_turnsAs s m args below meth c H locs 0 0 (MQ below (hw_QI D b τ r) args s 0 0 (fun q => b ≤ q)) (F0 m 194 ls [.int t0]) := by
  obtain ⟨hx, hb, hml, hr, hown, hts, hlk, hE, hnm⟩ := id C0
  have hown : s.vm.findClass RX12 = some m.cls := hown
  have hK := hE.1
  unfold m12_turnsAs_b194 at hm
  refine hw_istore (lv' := [(12, .int t0), (0, hw_vr b (some x0))]) hx hb dX12_turnsAs_194 hl (by decide) (by decide) rfl (fun ls hl => ?_)
  refine lv_goto (tgt := 199) hx hb dX12_turnsAs_196 (by decide) ?_
  exact w12_turnsAs_b199 C0 hm hR hS (hl.sub [1, 0] rfl)
def m12_turnsAs (x0 : Nat) (l1 : Int32) (l2 : Int32) (l3 : Int32) (l4 : Int32) (l5 : Int32) (l6 : Int32) (l7 : Int32) (σ : hw_S) : Option (Int32 × hw_S) :=
  (hw_rv (hw_q 12) (some x0) σ).bind fun a8 =>
  hw_b2 (m12_baseOf x0 l1 l2 l3 l4 l5 σ) fun v8 σ8 =>
  (hw_gP (hw_q 12) 1 (some x0) σ8).bind fun v14 =>
  (hw_aI 0 v14 ((148 : Int32) + l1) σ8).bind fun v22 =>
  (hw_gP (hw_q 12) 1 (some x0) σ8).bind fun v28 =>
  (hw_aI 0 v28 ((135 : Int32) + l2) σ8).bind fun v36 =>
  (hw_dv (v36 * v22) l7).bind fun v42 =>
  (hw_gP (hw_q 12) 1 (some x0) σ8).bind fun v55 =>
  (hw_aI 0 v55 ((130 : Int32) + l2) σ8).bind fun v63 =>
  (hw_dv (l3 * l4) ((10 : Int32) * v63)).bind fun v65 =>
  (hw_gP (hw_q 12) 1 (some x0) σ8).bind fun v74 =>
  (hw_aI 0 v74 ((140 : Int32) + l1) σ8).bind fun v82 =>
  (if v82 = 1 then
  (hw_dv (v22 * l4) l3).bind fun v128 =>
  m12_turnsAs_b199 x0 (v8 + v128) σ8
  else
  (if v82 = 2 then
  m12_turnsAs_b135 x0 (v8 + v42) σ8
  else
  (if v82 = 3 then
  m12_turnsAs_b199 x0 (v8 + v65) σ8
  else
  (if v82 = 4 then
  (if l6 = 0 then
  m12_turnsAs_b162 x0 (v8 + v42) (0 : Int32) σ8
  else
  m12_turnsAs_b162 x0 (v8 + v42) v22 σ8)
  else
  (if v82 = 5 then
  m12_turnsAs_b135 x0 (v8 + v42) σ8
  else
  (if v82 = 6 then
  (if (v8 + v65) ≤ (v8 + ((9 : Int32) * v22)) then
  m12_turnsAs_b194 x0 (v8 + v65) σ8
  else
  m12_turnsAs_b194 x0 (v8 + ((9 : Int32) * v22)) σ8)
  else
  m12_turnsAs_b199 x0 v8 σ8))))))
set_option maxRecDepth 100000 in
theorem w12_turnsAs_s {p : Program} {l : Launch} {e : Env} {s : State} {m : MethodId} {args : Array Value} {below : List Frame} {meth : Method} {c : Code} {D : hw_D} {b : Nat} {x0 : Nat} {l1 : Int32} {l2 : Int32} {l3 : Int32} {l4 : Int32} {l5 : Int32} {l6 : Int32} {l7 : Int32} {σ : hw_S} {r : Int32} {τ : hw_S} {H : Heap} {locs : List Loc} (hm : m12_turnsAs x0 l1 l2 l3 l4 l5 l6 l7 σ = some (r, τ)) (C0 : hw_C p s m args meth c D yX12_turnsAs cX12_turnsAs 13 (some .int)) (hR : hw_R D b σ H) (hS : va_S (fun q => b ≤ q) s.heap H locs) {ls : Array Slot} (hl : hw_L ls 13 255 [(0, hw_vr b (some x0)), (1, .int l1), (2, .int l2), (3, .int l3), (4, .int l4), (5, .int l5), (6, .int l6), (7, .int l7)]) : W p l e rm12_turnsAs s m args below meth c H locs 0 0 (MQ below (hw_QI D b τ r) args s 0 0 (fun q => b ≤ q)) (F0 m 0 ls []) := by
  obtain ⟨hx, hb, hml, hr, hown, hts, hlk, hE, hnm⟩ := id C0
  have hown : s.vm.findClass RX12 = some m.cls := hown
  have hK := hE.1
  unfold m12_turnsAs at hm
  refine hw_aload_n hx hb dX12_turnsAs_0 rfl (hl.at 0 rfl) ?_
  refine lv_iload_n hx hb dX12_turnsAs_1 rfl (hl.at 1 rfl) ?_
  refine lv_iload_n hx hb dX12_turnsAs_2 rfl (hl.at 2 rfl) ?_
  refine lv_iload_n hx hb dX12_turnsAs_3 rfl (hl.at 3 rfl) ?_
  refine lv_iload hx hb dX12_turnsAs_4 (hl.at 4 rfl) ?_
  refine lv_iload hx hb dX12_turnsAs_6 (hl.at 5 rfl) ?_
  obtain ⟨a8, g8, hm⟩ := hw_bs hm
  obtain ⟨rfl, ht8⟩ := hw_rv_th g8
  obtain ⟨v8, σ8, e8, hm⟩ := hw_bs2 hm
  refine hw_cWI (va_runV (As := [.int l1, .int l2, .int l3, .int l4, .int l5]) (rest := []) ⟨hx, hb, hml, hown, hts⟩ (c12_baseOf l D b e8) (cwV 5 hts (hw_gV hw_m576 hw_m577 hw_m578 hw_m5 hw_m579) rfl rfl rfl (by decide +kernel) ⟨(Nat.le_of_ble_eq_true rfl), (Nat.le_of_ble_eq_true rfl)⟩) (hw_preV (ci := 12) hE hR rfl (by decide) (hw_q_of ht8)) rfl rfl hl.sz rfl (lv_room (Nat.le_of_ble_eq_true rfl)) dX12_turnsAs_8 ⟨(Nat.le_of_ble_eq_true rfl), (Nat.le_of_ble_eq_true rfl)⟩) hS (fun _ _ hR hS => ?_)
  refine hw_istore (lv' := [(8, .int v8), (0, hw_vr b (some x0)), (1, .int l1), (2, .int l2), (3, .int l3), (4, .int l4), (5, .int l5), (6, .int l6), (7, .int l7)]) hx hb dX12_turnsAs_11 hl (by decide) (by decide) rfl (fun ls hl => ?_)
  refine hw_aload_n hx hb dX12_turnsAs_13 rfl (hl.at 1 rfl) ?_
  obtain ⟨v14, e14, hm⟩ := hw_bs hm
  refine hw_getP hx hb hw_cf12 hts hown hK hR e14 (by decide) rfl (hts _ hw_m76) (fun _ h9 => h9) dX12_turnsAs_14 ?_
  refine lv_sipush (v := 148) hx hb dX12_turnsAs_17 (by decide) ?_
  refine lv_iload_n hx hb dX12_turnsAs_20 rfl (hl.at 2 rfl) ?_
  refine lv_iadd hx hb dX12_turnsAs_21 ?_
  obtain ⟨v22, e22, hm⟩ := hw_bs hm
  refine hw_iald hx hb hK hR e22 dX12_turnsAs_22 ?_
  refine hw_istore (lv' := [(9, .int v22), (8, .int v8), (0, hw_vr b (some x0)), (1, .int l1), (2, .int l2), (3, .int l3), (4, .int l4), (5, .int l5), (6, .int l6), (7, .int l7)]) hx hb dX12_turnsAs_23 hl (by decide) (by decide) rfl (fun ls hl => ?_)
  refine lv_iload hx hb dX12_turnsAs_25 (hl.at 1 rfl) ?_
  refine hw_aload_n hx hb dX12_turnsAs_27 rfl (hl.at 2 rfl) ?_
  obtain ⟨v28, e28, hm⟩ := hw_bs hm
  refine hw_getP hx hb hw_cf12 hts hown hK hR e28 (by decide) rfl (hts _ hw_m76) (fun _ h9 => h9) dX12_turnsAs_28 ?_
  refine lv_sipush (v := 135) hx hb dX12_turnsAs_31 (by decide) ?_
  refine lv_iload_n hx hb dX12_turnsAs_34 rfl (hl.at 4 rfl) ?_
  refine lv_iadd hx hb dX12_turnsAs_35 ?_
  obtain ⟨v36, e36, hm⟩ := hw_bs hm
  refine hw_iald hx hb hK hR e36 dX12_turnsAs_36 ?_
  refine lv_iload hx hb dX12_turnsAs_37 (hl.at 0 rfl) ?_
  refine lv_imul hx hb dX12_turnsAs_39 ?_
  refine lv_iload hx hb dX12_turnsAs_40 (hl.at 9 rfl) ?_
  obtain ⟨v42, e42, hm⟩ := hw_bs hm
  refine hw_idiv hx hb e42 dX12_turnsAs_42 ?_
  refine lv_iadd hx hb dX12_turnsAs_43 ?_
  refine hw_istore (lv' := [(10, .int (v8 + v42)), (9, .int v22), (8, .int v8), (0, hw_vr b (some x0)), (1, .int l1), (2, .int l2), (3, .int l3), (4, .int l4), (5, .int l5), (6, .int l6), (7, .int l7)]) hx hb dX12_turnsAs_44 hl (by decide) (by decide) rfl (fun ls hl => ?_)
  refine lv_iload hx hb dX12_turnsAs_46 (hl.at 2 rfl) ?_
  refine lv_iload_n hx hb dX12_turnsAs_48 rfl (hl.at 6 rfl) ?_
  refine lv_iload hx hb dX12_turnsAs_49 (hl.at 7 rfl) ?_
  refine lv_imul hx hb dX12_turnsAs_51 ?_
  refine lv_bipush (v := 10) hx hb dX12_turnsAs_52 (by decide) ?_
  refine hw_aload_n hx hb dX12_turnsAs_54 rfl (hl.at 3 rfl) ?_
  obtain ⟨v55, e55, hm⟩ := hw_bs hm
  refine hw_getP hx hb hw_cf12 hts hown hK hR e55 (by decide) rfl (hts _ hw_m76) (fun _ h9 => h9) dX12_turnsAs_55 ?_
  refine lv_sipush (v := 130) hx hb dX12_turnsAs_58 (by decide) ?_
  refine lv_iload_n hx hb dX12_turnsAs_61 rfl (hl.at 5 rfl) ?_
  refine lv_iadd hx hb dX12_turnsAs_62 ?_
  obtain ⟨v63, e63, hm⟩ := hw_bs hm
  refine hw_iald hx hb hK hR e63 dX12_turnsAs_63 ?_
  refine lv_imul hx hb dX12_turnsAs_64 ?_
  obtain ⟨v65, e65, hm⟩ := hw_bs hm
  refine hw_idiv hx hb e65 dX12_turnsAs_65 ?_
  refine lv_iadd hx hb dX12_turnsAs_66 ?_
  refine hw_istore (lv' := [(11, .int (v8 + v65)), (10, .int (v8 + v42)), (9, .int v22), (8, .int v8), (0, hw_vr b (some x0)), (1, .int l1), (2, .int l2), (3, .int l3), (4, .int l4), (5, .int l5), (6, .int l6), (7, .int l7)]) hx hb dX12_turnsAs_67 hl (by decide) (by decide) rfl (fun ls hl => ?_)
  refine lv_iload hx hb dX12_turnsAs_69 (hl.at 3 rfl) ?_
  refine hw_istore (lv' := [(12, .int v8), (11, .int (v8 + v65)), (10, .int (v8 + v42)), (9, .int v22), (8, .int v8), (0, hw_vr b (some x0)), (1, .int l1), (2, .int l2), (3, .int l3), (4, .int l4), (5, .int l5), (6, .int l6), (7, .int l7)]) hx hb dX12_turnsAs_71 hl (by decide) (by decide) rfl (fun ls hl => ?_)
  refine hw_aload_n hx hb dX12_turnsAs_73 rfl (hl.at 5 rfl) ?_
  obtain ⟨v74, e74, hm⟩ := hw_bs hm
  refine hw_getP hx hb hw_cf12 hts hown hK hR e74 (by decide) rfl (hts _ hw_m76) (fun _ h9 => h9) dX12_turnsAs_74 ?_
  refine lv_sipush (v := 140) hx hb dX12_turnsAs_77 (by decide) ?_
  refine lv_iload_n hx hb dX12_turnsAs_80 rfl (hl.at 6 rfl) ?_
  refine lv_iadd hx hb dX12_turnsAs_81 ?_
  obtain ⟨v82, e82, hm⟩ := hw_bs hm
  refine hw_iald hx hb hK hR e82 dX12_turnsAs_82 ?_
  refine hw_case v82 (1) (fun c83_0 => ?_) (fun c83_0 => ?_)
  · have hm := hw_ip hm c83_0
    refine lv_tableIn (off := 37) (tgt := 120) hx hb dX12_turnsAs_83 (by rw [c83_0]; decide) (by rw [c83_0]; decide) (by rw [c83_0]; rfl) (by decide) ?_
    refine lv_iload hx hb dX12_turnsAs_120 (hl.at 4 rfl) ?_
    refine lv_iload hx hb dX12_turnsAs_122 (hl.at 3 rfl) ?_
    refine lv_iload hx hb dX12_turnsAs_124 (hl.at 9 rfl) ?_
    refine lv_imul hx hb dX12_turnsAs_126 ?_
    refine lv_iload_n hx hb dX12_turnsAs_127 rfl (hl.at 8 rfl) ?_
    obtain ⟨v128, e128, hm⟩ := hw_bs hm
    refine hw_idiv hx hb e128 dX12_turnsAs_128 ?_
    refine lv_iadd hx hb dX12_turnsAs_129 ?_
    refine hw_istore (lv' := [(12, .int (v8 + v128)), (11, .int (v8 + v65)), (10, .int (v8 + v42)), (9, .int v22), (8, .int v8), (0, hw_vr b (some x0)), (1, .int l1), (2, .int l2), (3, .int l3), (4, .int l4), (5, .int l5), (6, .int l6), (7, .int l7)]) hx hb dX12_turnsAs_130 hl (by decide) (by decide) rfl (fun ls hl => ?_)
    refine lv_goto (tgt := 199) hx hb dX12_turnsAs_132 (by decide) ?_
    exact w12_turnsAs_b199 C0 hm hR hS (hl.sub [5, 0] rfl)
  · have hm := hw_in hm c83_0
    refine hw_case v82 (2) (fun c83_1 => ?_) (fun c83_1 => ?_)
    · have hm := hw_ip hm c83_1
      refine lv_tableIn (off := 52) (tgt := 135) hx hb dX12_turnsAs_83 (by rw [c83_1]; decide) (by rw [c83_1]; decide) (by rw [c83_1]; rfl) (by decide) ?_
      exact w12_turnsAs_b135 C0 hm hR hS (hl.sub [5, 2] rfl)
    · have hm := hw_in hm c83_1
      refine hw_case v82 (3) (fun c83_2 => ?_) (fun c83_2 => ?_)
      · have hm := hw_ip hm c83_2
        refine lv_tableIn (off := 59) (tgt := 142) hx hb dX12_turnsAs_83 (by rw [c83_2]; decide) (by rw [c83_2]; decide) (by rw [c83_2]; rfl) (by decide) ?_
        refine lv_iload hx hb dX12_turnsAs_142 (hl.at 1 rfl) ?_
        refine hw_istore (lv' := [(12, .int (v8 + v65)), (11, .int (v8 + v65)), (10, .int (v8 + v42)), (9, .int v22), (8, .int v8), (0, hw_vr b (some x0)), (1, .int l1), (2, .int l2), (3, .int l3), (4, .int l4), (5, .int l5), (6, .int l6), (7, .int l7)]) hx hb dX12_turnsAs_144 hl (by decide) (by decide) rfl (fun ls hl => ?_)
        refine lv_goto (tgt := 199) hx hb dX12_turnsAs_146 (by decide) ?_
        exact w12_turnsAs_b199 C0 hm hR hS (hl.sub [5, 0] rfl)
      · have hm := hw_in hm c83_2
        refine hw_case v82 (4) (fun c83_3 => ?_) (fun c83_3 => ?_)
        · have hm := hw_ip hm c83_3
          refine lv_tableIn (off := 66) (tgt := 149) hx hb dX12_turnsAs_83 (by rw [c83_3]; decide) (by rw [c83_3]; decide) (by rw [c83_3]; rfl) (by decide) ?_
          refine lv_iload hx hb dX12_turnsAs_149 (hl.at 2 rfl) ?_
          refine lv_iload hx hb dX12_turnsAs_151 (hl.at 11 rfl) ?_
          refine lv_if_eq (tgt := 161) hx hb dX12_turnsAs_153 (by decide) (fun c153 => ?_) (fun c153 => ?_)
          · have hm := hw_ip hm c153
            refine lv_iconst (v := 0) hx hb dX12_turnsAs_161 (by decide) ?_
            exact w12_turnsAs_b162 C0 hm hR hS (hl.sub [5] rfl)
          · have hm := hw_in hm c153
            refine lv_iload hx hb dX12_turnsAs_156 (hl.at 3 rfl) ?_
            refine lv_goto (tgt := 162) hx hb dX12_turnsAs_158 (by decide) ?_
            exact w12_turnsAs_b162 C0 hm hR hS (hl.sub [5] rfl)
        · have hm := hw_in hm c83_3
          refine hw_case v82 (5) (fun c83_4 => ?_) (fun c83_4 => ?_)
          · have hm := hw_ip hm c83_4
            refine lv_tableIn (off := 52) (tgt := 135) hx hb dX12_turnsAs_83 (by rw [c83_4]; decide) (by rw [c83_4]; decide) (by rw [c83_4]; rfl) (by decide) ?_
            exact w12_turnsAs_b135 C0 hm hR hS (hl.sub [5, 2] rfl)
          · have hm := hw_in hm c83_4
            refine hw_case v82 (6) (fun c83_5 => ?_) (fun c83_5 => ?_)
            · have hm := hw_ip hm c83_5
              refine lv_tableIn (off := 85) (tgt := 168) hx hb dX12_turnsAs_83 (by rw [c83_5]; decide) (by rw [c83_5]; decide) (by rw [c83_5]; rfl) (by decide) ?_
              refine lv_iload hx hb dX12_turnsAs_168 (hl.at 1 rfl) ?_
              refine lv_iload hx hb dX12_turnsAs_170 (hl.at 4 rfl) ?_
              refine lv_bipush (v := 9) hx hb dX12_turnsAs_172 (by decide) ?_
              refine lv_iload hx hb dX12_turnsAs_174 (hl.at 3 rfl) ?_
              refine lv_imul hx hb dX12_turnsAs_176 ?_
              refine lv_iadd hx hb dX12_turnsAs_177 ?_
              refine lv_icmp_le (tgt := 192) hx hb dX12_turnsAs_178 (by decide) (fun c178 => ?_) (fun c178 => ?_)
              · have hm := hw_ip hm c178
                refine lv_iload hx hb dX12_turnsAs_192 (hl.at 1 rfl) ?_
                exact w12_turnsAs_b194 C0 hm hR hS (hl.sub [5] rfl)
              · have hm := hw_in hm c178
                refine lv_iload hx hb dX12_turnsAs_181 (hl.at 4 rfl) ?_
                refine lv_bipush (v := 9) hx hb dX12_turnsAs_183 (by decide) ?_
                refine lv_iload hx hb dX12_turnsAs_185 (hl.at 3 rfl) ?_
                refine lv_imul hx hb dX12_turnsAs_187 ?_
                refine lv_iadd hx hb dX12_turnsAs_188 ?_
                refine lv_goto (tgt := 194) hx hb dX12_turnsAs_189 (by decide) ?_
                exact w12_turnsAs_b194 C0 hm hR hS (hl.sub [5] rfl)
            · have hm := hw_in hm c83_5
              refine lv_tableOut (tgt := 199) hx hb dX12_turnsAs_83 (by have h0 := hw_ne (1) c83_0 rfl; have h1 := hw_ne (2) c83_1 rfl; have h2 := hw_ne (3) c83_2 rfl; have h3 := hw_ne (4) c83_3 rfl; have h4 := hw_ne (5) c83_4 rfl; have h5 := hw_ne (6) c83_5 rfl; omega) (by decide) ?_
              exact w12_turnsAs_b199 C0 hm hR hS (hl.sub [5, 0] rfl)
set_option maxRecDepth 100000 in
theorem c12_turnsAs (l : Launch) (D : hw_D) (b : Nat) {x0 : Nat} {l1 : Int32} {l2 : Int32} {l3 : Int32} {l4 : Int32} {l5 : Int32} {l6 : Int32} {l7 : Int32} {σ : hw_S} {r : Int32} {τ : hw_S} (hm : m12_turnsAs x0 l1 l2 l3 l4 l5 l6 l7 σ = some (r, τ)) : Met l yX12_turnsAs (Cond.code yX12_turnsAs cX12_turnsAs 13 (some .int) :: wsL_law) rm12_turnsAs (hw_P1 D b σ [hw_vr b (some x0), .int l1, .int l2, .int l3, .int l4, .int l5, .int l6, .int l7]) (hw_QI D b τ r) 0 0 (fun q => b ≤ q) := by
  refine hw_start1 (by decide +kernel) (by exact Nat.le_of_ble_eq_true rfl) ?_
  intro p e s m below meth c ls C0 hR hS hl
  have hl : lv_has ls 13 [(0, hw_vr b (some x0)), (1, .int l1), (2, .int l2), (3, .int l3), (4, .int l4), (5, .int l5), (6, .int l6), (7, .int l7)] := by exact hl
  exact w12_turnsAs_s hm C0 hR hS ⟨hl, (List.forall_mem_cons.mpr ⟨(fun h => by rw [show (hw_vr b (some x0) : Value).category = 1 from (hw_vr_cat _ _)] at h; cases h), (List.forall_mem_cons.mpr ⟨(fun h => absurd (show (1 : Nat) = 2 from h) (by decide)), (List.forall_mem_cons.mpr ⟨(fun h => absurd (show (1 : Nat) = 2 from h) (by decide)), (List.forall_mem_cons.mpr ⟨(fun h => absurd (show (1 : Nat) = 2 from h) (by decide)), (List.forall_mem_cons.mpr ⟨(fun h => absurd (show (1 : Nat) = 2 from h) (by decide)), (List.forall_mem_cons.mpr ⟨(fun h => absurd (show (1 : Nat) = 2 from h) (by decide)), (List.forall_mem_cons.mpr ⟨(fun h => absurd (show (1 : Nat) = 2 from h) (by decide)), (List.forall_mem_cons.mpr ⟨(fun h => absurd (show (1 : Nat) = 2 from h) (by decide)), (fun _ h => absurd h List.not_mem_nil)⟩)⟩)⟩)⟩)⟩)⟩)⟩)⟩)⟩

abbrev rm12_turnsOf : Room := { frames := 3, cells := 0, slots := 0, locals := 85 }
def m12_turnsOf_b30 (x0 : Nat) (l2 : Int32) (t0 : Nat) (t1 : Int32) (t2 : Int32) (t3 : Int32) (t4 : Int32) (t5 : Int32) (t6 : Int32) (σ : hw_S) : Option (Int32 × hw_S) :=
  (hw_gP (hw_q 12) 1 (some x0) σ).bind fun v31 =>
  (hw_aI 0 v31 ((130 : Int32) + l2) σ).bind fun v39 =>
  (hw_rv (hw_q 12) (some t0) σ).bind fun a40 =>
  hw_b2 (m12_turnsAs t0 t1 t2 t3 t4 t5 t6 v39 σ) fun v40 σ40 =>
  some (v40, σ40)
set_option maxRecDepth 100000 in
theorem w12_turnsOf_b30 {p : Program} {l : Launch} {e : Env} {s : State} {m : MethodId} {args : Array Value} {below : List Frame} {meth : Method} {c : Code} {D : hw_D} {b : Nat} {r : Int32} {τ : hw_S} (C0 : hw_C p s m args meth c D yX12_turnsOf cX12_turnsOf 6 (some .int)) {x0 : Nat} {l2 : Int32} {t0 : Nat} {t1 : Int32} {t2 : Int32} {t3 : Int32} {t4 : Int32} {t5 : Int32} {t6 : Int32} {σ : hw_S} {H : Heap} {locs : List Loc} (hm : m12_turnsOf_b30 x0 l2 t0 t1 t2 t3 t4 t5 t6 σ = some (r, τ)) (hR : hw_R D b σ H) (hS : va_S (fun q => b ≤ q) s.heap H locs) {ls : Array Slot} (hl : hw_L ls 6 255 [(0, hw_vr b (some x0)), (2, .int l2)]) : W p l e rm12_turnsOf s m args below meth c H locs 0 0 (MQ below (hw_QI D b τ r) args s 0 0 (fun q => b ≤ q)) (F0 m 30 ls [.int t6, .int t5, .int t4, .int t3, .int t2, .int t1, hw_vr b (some t0)]) := by
  obtain ⟨hx, hb, hml, hr, hown, hts, hlk, hE, hnm⟩ := id C0
  have hown : s.vm.findClass RX12 = some m.cls := hown
  have hK := hE.1
  unfold m12_turnsOf_b30 at hm
  refine hw_aload_n hx hb dX12_turnsOf_30 rfl (hl.at 0 rfl) ?_
  obtain ⟨v31, e31, hm⟩ := hw_bs hm
  refine hw_getP hx hb hw_cf12 hts hown hK hR e31 (by decide) rfl (hts _ hw_m76) (fun _ h9 => h9) dX12_turnsOf_31 ?_
  refine lv_sipush (v := 130) hx hb dX12_turnsOf_34 (by decide) ?_
  refine lv_iload_n hx hb dX12_turnsOf_37 rfl (hl.at 1 rfl) ?_
  refine lv_iadd hx hb dX12_turnsOf_38 ?_
  obtain ⟨v39, e39, hm⟩ := hw_bs hm
  refine hw_iald hx hb hK hR e39 dX12_turnsOf_39 ?_
  obtain ⟨a40, g40, hm⟩ := hw_bs hm
  obtain ⟨rfl, ht40⟩ := hw_rv_th g40
  obtain ⟨v40, σ40, e40, hm⟩ := hw_bs2 hm
  refine hw_cWI (va_runV (As := [.int t1, .int t2, .int t3, .int t4, .int t5, .int t6, .int v39]) (rest := []) ⟨hx, hb, hml, hown, hts⟩ (c12_turnsAs l D b e40) (cwV 7 hts (hw_gV hw_m588 hw_m589 hw_m590 hw_m5 hw_m591) rfl rfl rfl (by decide +kernel) ⟨(Nat.le_of_ble_eq_true rfl), (Nat.le_of_ble_eq_true rfl)⟩) (hw_preV (ci := 12) hE hR rfl (by decide) (hw_q_of ht40)) rfl rfl hl.sz rfl (lv_room (Nat.le_of_ble_eq_true rfl)) dX12_turnsOf_40 ⟨(Nat.le_of_ble_eq_true rfl), (Nat.le_of_ble_eq_true rfl)⟩) hS (fun _ _ hR hS => ?_)
  exact hw_rWI hx hb hr hlk hR hS hm dX12_turnsOf_43
def m12_turnsOf (x0 : Nat) (l1 : Int32) (l2 : Int32) (l3 : Int32) (l4 : Int32) (l5 : Int32) (σ : hw_S) : Option (Int32 × hw_S) :=
  (hw_gP (hw_q 12) 1 (some x0) σ).bind fun v12 =>
  (hw_aI 0 v12 ((148 : Int32) + l1) σ).bind fun v20 =>
  (if l3 ≤ ((10 : Int32) * v20) then
  m12_turnsOf_b30 x0 l2 x0 l1 l2 l3 l4 l5 (0 : Int32) σ
  else
  m12_turnsOf_b30 x0 l2 x0 l1 l2 l3 l4 l5 (1 : Int32) σ)
set_option maxRecDepth 100000 in
theorem w12_turnsOf_s {p : Program} {l : Launch} {e : Env} {s : State} {m : MethodId} {args : Array Value} {below : List Frame} {meth : Method} {c : Code} {D : hw_D} {b : Nat} {x0 : Nat} {l1 : Int32} {l2 : Int32} {l3 : Int32} {l4 : Int32} {l5 : Int32} {σ : hw_S} {r : Int32} {τ : hw_S} {H : Heap} {locs : List Loc} (hm : m12_turnsOf x0 l1 l2 l3 l4 l5 σ = some (r, τ)) (C0 : hw_C p s m args meth c D yX12_turnsOf cX12_turnsOf 6 (some .int)) (hR : hw_R D b σ H) (hS : va_S (fun q => b ≤ q) s.heap H locs) {ls : Array Slot} (hl : hw_L ls 6 255 [(0, hw_vr b (some x0)), (1, .int l1), (2, .int l2), (3, .int l3), (4, .int l4), (5, .int l5)]) : W p l e rm12_turnsOf s m args below meth c H locs 0 0 (MQ below (hw_QI D b τ r) args s 0 0 (fun q => b ≤ q)) (F0 m 0 ls []) := by
  obtain ⟨hx, hb, hml, hr, hown, hts, hlk, hE, hnm⟩ := id C0
  have hown : s.vm.findClass RX12 = some m.cls := hown
  have hK := hE.1
  unfold m12_turnsOf at hm
  refine hw_aload_n hx hb dX12_turnsOf_0 rfl (hl.at 0 rfl) ?_
  refine lv_iload_n hx hb dX12_turnsOf_1 rfl (hl.at 1 rfl) ?_
  refine lv_iload_n hx hb dX12_turnsOf_2 rfl (hl.at 2 rfl) ?_
  refine lv_iload_n hx hb dX12_turnsOf_3 rfl (hl.at 3 rfl) ?_
  refine lv_iload hx hb dX12_turnsOf_4 (hl.at 4 rfl) ?_
  refine lv_iload hx hb dX12_turnsOf_6 (hl.at 5 rfl) ?_
  refine lv_iload_n hx hb dX12_turnsOf_8 rfl (hl.at 3 rfl) ?_
  refine lv_bipush (v := 10) hx hb dX12_turnsOf_9 (by decide) ?_
  refine hw_aload_n hx hb dX12_turnsOf_11 rfl (hl.at 0 rfl) ?_
  obtain ⟨v12, e12, hm⟩ := hw_bs hm
  refine hw_getP hx hb hw_cf12 hts hown hK hR e12 (by decide) rfl (hts _ hw_m76) (fun _ h9 => h9) dX12_turnsOf_12 ?_
  refine lv_sipush (v := 148) hx hb dX12_turnsOf_15 (by decide) ?_
  refine lv_iload_n hx hb dX12_turnsOf_18 rfl (hl.at 1 rfl) ?_
  refine lv_iadd hx hb dX12_turnsOf_19 ?_
  obtain ⟨v20, e20, hm⟩ := hw_bs hm
  refine hw_iald hx hb hK hR e20 dX12_turnsOf_20 ?_
  refine lv_imul hx hb dX12_turnsOf_21 ?_
  refine lv_icmp_le (tgt := 29) hx hb dX12_turnsOf_22 (by decide) (fun c22 => ?_) (fun c22 => ?_)
  · have hm := hw_ip hm c22
    refine lv_iconst (v := 0) hx hb dX12_turnsOf_29 (by decide) ?_
    exact w12_turnsOf_b30 C0 hm hR hS (hl.sub [0, 2] rfl)
  · have hm := hw_in hm c22
    refine lv_iconst (v := 1) hx hb dX12_turnsOf_25 (by decide) ?_
    refine lv_goto (tgt := 30) hx hb dX12_turnsOf_26 (by decide) ?_
    exact w12_turnsOf_b30 C0 hm hR hS (hl.sub [0, 2] rfl)
set_option maxRecDepth 100000 in
theorem c12_turnsOf (l : Launch) (D : hw_D) (b : Nat) {x0 : Nat} {l1 : Int32} {l2 : Int32} {l3 : Int32} {l4 : Int32} {l5 : Int32} {σ : hw_S} {r : Int32} {τ : hw_S} (hm : m12_turnsOf x0 l1 l2 l3 l4 l5 σ = some (r, τ)) : Met l yX12_turnsOf (Cond.code yX12_turnsOf cX12_turnsOf 6 (some .int) :: wsL_law) rm12_turnsOf (hw_P1 D b σ [hw_vr b (some x0), .int l1, .int l2, .int l3, .int l4, .int l5]) (hw_QI D b τ r) 0 0 (fun q => b ≤ q) := by
  refine hw_start1 (by decide +kernel) (by exact Nat.le_of_ble_eq_true rfl) ?_
  intro p e s m below meth c ls C0 hR hS hl
  have hl : lv_has ls 6 [(0, hw_vr b (some x0)), (1, .int l1), (2, .int l2), (3, .int l3), (4, .int l4), (5, .int l5)] := by exact hl
  exact w12_turnsOf_s hm C0 hR hS ⟨hl, (List.forall_mem_cons.mpr ⟨(fun h => by rw [show (hw_vr b (some x0) : Value).category = 1 from (hw_vr_cat _ _)] at h; cases h), (List.forall_mem_cons.mpr ⟨(fun h => absurd (show (1 : Nat) = 2 from h) (by decide)), (List.forall_mem_cons.mpr ⟨(fun h => absurd (show (1 : Nat) = 2 from h) (by decide)), (List.forall_mem_cons.mpr ⟨(fun h => absurd (show (1 : Nat) = 2 from h) (by decide)), (List.forall_mem_cons.mpr ⟨(fun h => absurd (show (1 : Nat) = 2 from h) (by decide)), (List.forall_mem_cons.mpr ⟨(fun h => absurd (show (1 : Nat) = 2 from h) (by decide)), (fun _ h => absurd h List.not_mem_nil)⟩)⟩)⟩)⟩)⟩)⟩)⟩

abbrev rm12_formBy : Room := { frames := 0, cells := 0, slots := 0, locals := 0 }
def m12_formBy_b43 (x0 : Nat) (l5 : Int32) (σ : hw_S) : Option Int32 :=
  some l5
set_option maxRecDepth 100000 in
theorem w12_formBy_b43 {p : Program} {l : Launch} {e : Env} {s : State} {m : MethodId} {args : Array Value} {below : List Frame} {meth : Method} {c : Code} {D : hw_D} {b : Nat} {r : Int32} (C0 : hw_C p s m args meth c D yX12_formBy cX12_formBy 6 (some .int)) {x0 : Nat} {l5 : Int32} {σ : hw_S} (hm : m12_formBy_b43 x0 l5 σ = some r) (hR : hw_R D b σ s.heap) {ls : Array Slot} (hl : hw_L ls 6 255 [(0, hw_vr b (some x0)), (5, .int l5)]) : W p l e rm12_formBy s m args below meth c s.heap [] 0 0 (MQ below (hw_RI r) args s 0 0 hw_nof) (F0 m 43 ls []) := by
  obtain ⟨hx, hb, hml, hr, hown, hts, hlk, hE, hnm⟩ := id C0
  have hown : s.vm.findClass RX12 = some m.cls := hown
  have hK := hE.1
  unfold m12_formBy_b43 at hm
  refine lv_iload hx hb dX12_formBy_43 (hl.at 1 rfl) ?_
  exact hw_rRI hx hb hr hlk hm dX12_formBy_45
def m12_formBy_b11 : Nat → Nat → Int32 → Int32 → Int32 → hw_S → Option Int32
  | 0, _, _, _, _, _ => none
  | n + 1, x0, l1, l4, l5, σ =>
  (if (4 : Int32) ≤ l5 then
  m12_formBy_b43 x0 l5 σ
  else
  (hw_gP (hw_q 12) 1 (some x0) σ).bind fun v20 =>
  (hw_aI 0 v20 (((172 : Int32) + ((4 : Int32) * l1)) + l5) σ).bind fun v33 =>
  (if l4 < v33 then
  m12_formBy_b43 x0 l5 σ
  else
  m12_formBy_b11 n x0 l1 l4 (l5 + 1) σ))
set_option maxRecDepth 100000 in
theorem w12_formBy_b11 {p : Program} {l : Launch} {e : Env} {s : State} {m : MethodId} {args : Array Value} {below : List Frame} {meth : Method} {c : Code} {D : hw_D} {b : Nat} {r : Int32} (C0 : hw_C p s m args meth c D yX12_formBy cX12_formBy 6 (some .int)) : ∀ (n : Nat) {x0 : Nat} {l1 : Int32} {l4 : Int32} {l5 : Int32} {σ : hw_S} {ls : Array Slot}, m12_formBy_b11 n x0 l1 l4 l5 σ = some r → hw_R D b σ s.heap → hw_L ls 6 255 [(0, hw_vr b (some x0)), (1, .int l1), (4, .int l4), (5, .int l5)] → W p l e rm12_formBy s m args below meth c s.heap [] 0 0 (MQ below (hw_RI r) args s 0 0 hw_nof) (F0 m 11 ls []) := by
  obtain ⟨hx, hb, hml, hr, hown, hts, hlk, hE, hnm⟩ := id C0
  have hown : s.vm.findClass RX12 = some m.cls := hown
  have hK := hE.1
  intro n
  induction n with
  | zero => intro _ _ _ _ _ _ hm; cases hm
  | succ n ih =>
    intro x0 l1 l4 l5 σ ls hm hR hl
    rw [m12_formBy_b11] at hm
    refine lv_iload hx hb dX12_formBy_11 (hl.at 3 rfl) ?_
    refine lv_iconst (v := 4) hx hb dX12_formBy_13 (by decide) ?_
    refine lv_icmp_ge (tgt := 43) hx hb dX12_formBy_14 (by decide) (fun c14 => ?_) (fun c14 => ?_)
    · have hm := hw_ip hm c14
      exact w12_formBy_b43 C0 hm hR (hl.sub [0, 3] rfl)
    · have hm := hw_in hm c14
      refine lv_iload hx hb dX12_formBy_17 (hl.at 2 rfl) ?_
      refine hw_aload_n hx hb dX12_formBy_19 rfl (hl.at 0 rfl) ?_
      obtain ⟨v20, e20, hm⟩ := hw_bs hm
      refine hw_getP hx hb hw_cf12 hts hown hK hR e20 (by decide) rfl (hts _ hw_m76) (fun _ h9 => h9) dX12_formBy_20 ?_
      refine lv_sipush (v := 172) hx hb dX12_formBy_23 (by decide) ?_
      refine lv_iconst (v := 4) hx hb dX12_formBy_26 (by decide) ?_
      refine lv_iload_n hx hb dX12_formBy_27 rfl (hl.at 1 rfl) ?_
      refine lv_imul hx hb dX12_formBy_28 ?_
      refine lv_iadd hx hb dX12_formBy_29 ?_
      refine lv_iload hx hb dX12_formBy_30 (hl.at 3 rfl) ?_
      refine lv_iadd hx hb dX12_formBy_32 ?_
      obtain ⟨v33, e33, hm⟩ := hw_bs hm
      refine hw_iald hx hb hK hR e33 dX12_formBy_33 ?_
      refine lv_icmp_lt (tgt := 43) hx hb dX12_formBy_34 (by decide) (fun c34 => ?_) (fun c34 => ?_)
      · have hm := hw_ip hm c34
        exact w12_formBy_b43 C0 hm hR (hl.sub [0, 3] rfl)
      · have hm := hw_in hm c34
        refine hw_iinc (v := (l5 + 1)) (lv' := [(5, .int (l5 + 1)), (0, hw_vr b (some x0)), (1, .int l1), (4, .int l4)]) hx hb dX12_formBy_37 hl (k := 3) rfl rfl (by decide) (by decide) rfl (fun ls hl => ?_)
        refine lv_goto (tgt := 11) hx hb dX12_formBy_40 (by decide) ?_
        exact ih hm hR (hl.sub [1, 2, 3, 0] rfl)
def m12_formBy (x0 : Nat) (l1 : Int32) (l2 : Int32) (l3 : Int32) (σ : hw_S) : Option Int32 :=
  (hw_dv ((10 : Int32) * l2) l3).bind fun v5 =>
  m12_formBy_b11 hw_fu x0 l1 v5 (0 : Int32) σ
set_option maxRecDepth 100000 in
theorem w12_formBy_s {p : Program} {l : Launch} {e : Env} {s : State} {m : MethodId} {args : Array Value} {below : List Frame} {meth : Method} {c : Code} {D : hw_D} {b : Nat} {x0 : Nat} {l1 : Int32} {l2 : Int32} {l3 : Int32} {σ : hw_S} {r : Int32} (hm : m12_formBy x0 l1 l2 l3 σ = some r) (C0 : hw_C p s m args meth c D yX12_formBy cX12_formBy 6 (some .int)) (hR : hw_R D b σ s.heap) {ls : Array Slot} (hl : hw_L ls 6 255 [(0, hw_vr b (some x0)), (1, .int l1), (2, .int l2), (3, .int l3)]) : W p l e rm12_formBy s m args below meth c s.heap [] 0 0 (MQ below (hw_RI r) args s 0 0 hw_nof) (F0 m 0 ls []) := by
  obtain ⟨hx, hb, hml, hr, hown, hts, hlk, hE, hnm⟩ := id C0
  have hown : s.vm.findClass RX12 = some m.cls := hown
  have hK := hE.1
  unfold m12_formBy at hm
  refine lv_bipush (v := 10) hx hb dX12_formBy_0 (by decide) ?_
  refine lv_iload_n hx hb dX12_formBy_2 rfl (hl.at 2 rfl) ?_
  refine lv_imul hx hb dX12_formBy_3 ?_
  refine lv_iload_n hx hb dX12_formBy_4 rfl (hl.at 3 rfl) ?_
  obtain ⟨v5, e5, hm⟩ := hw_bs hm
  refine hw_idiv hx hb e5 dX12_formBy_5 ?_
  refine hw_istore (lv' := [(4, .int v5), (0, hw_vr b (some x0)), (1, .int l1), (2, .int l2), (3, .int l3)]) hx hb dX12_formBy_6 hl (by decide) (by decide) rfl (fun ls hl => ?_)
  refine lv_iconst (v := 0) hx hb dX12_formBy_8 (by decide) ?_
  refine hw_istore (lv' := [(5, .int (0 : Int32)), (4, .int v5), (0, hw_vr b (some x0)), (1, .int l1), (2, .int l2), (3, .int l3)]) hx hb dX12_formBy_9 hl (by decide) (by decide) rfl (fun ls hl => ?_)
  exact w12_formBy_b11 C0 hw_fu hm hR (hl.sub [2, 3, 1, 0] rfl)
set_option maxRecDepth 100000 in
theorem c12_formBy (l : Launch) (D : hw_D) (b : Nat) {x0 : Nat} {l1 : Int32} {l2 : Int32} {l3 : Int32} {σ : hw_S} {r : Int32} (hm : m12_formBy x0 l1 l2 l3 σ = some r) : Met l yX12_formBy (Cond.code yX12_formBy cX12_formBy 6 (some .int) :: wsL_law) rm12_formBy (hw_P1 D b σ [hw_vr b (some x0), .int l1, .int l2, .int l3]) (hw_RI r) 0 0 hw_nof := by
  refine hw_start1 (by decide +kernel) (by exact Nat.le_of_ble_eq_true rfl) ?_
  intro p e s m below meth c ls C0 hR hS hl
  have hl : lv_has ls 6 [(0, hw_vr b (some x0)), (1, .int l1), (2, .int l2), (3, .int l3)] := by exact hl
  exact w12_formBy_s hm C0 hR ⟨hl, (List.forall_mem_cons.mpr ⟨(fun h => by rw [show (hw_vr b (some x0) : Value).category = 1 from (hw_vr_cat _ _)] at h; cases h), (List.forall_mem_cons.mpr ⟨(fun h => absurd (show (1 : Nat) = 2 from h) (by decide)), (List.forall_mem_cons.mpr ⟨(fun h => absurd (show (1 : Nat) = 2 from h) (by decide)), (List.forall_mem_cons.mpr ⟨(fun h => absurd (show (1 : Nat) = 2 from h) (by decide)), (fun _ h => absurd h List.not_mem_nil)⟩)⟩)⟩)⟩)⟩

abbrev rm12_formOf : Room := { frames := 4, cells := 0, slots := 0, locals := 110 }
def m12_formOf (x0 : Nat) (l1 : Int32) (l2 : Int32) (l3 : Int32) (l4 : Int32) (l5 : Int32) (σ : hw_S) : Option (Int32 × hw_S) :=
  (hw_rv (hw_q 12) (some x0) σ).bind fun a12 =>
  hw_b2 (m12_turnsOf x0 l1 l2 l3 l4 l5 σ) fun v12 σ12 =>
  (hw_rv (hw_q 12) (some x0) σ12).bind fun a15 =>
  (m12_formBy x0 l1 l5 v12 σ12).bind fun v15 =>
  some (v15, σ12)
set_option maxRecDepth 100000 in
theorem w12_formOf_s {p : Program} {l : Launch} {e : Env} {s : State} {m : MethodId} {args : Array Value} {below : List Frame} {meth : Method} {c : Code} {D : hw_D} {b : Nat} {x0 : Nat} {l1 : Int32} {l2 : Int32} {l3 : Int32} {l4 : Int32} {l5 : Int32} {σ : hw_S} {r : Int32} {τ : hw_S} {H : Heap} {locs : List Loc} (hm : m12_formOf x0 l1 l2 l3 l4 l5 σ = some (r, τ)) (C0 : hw_C p s m args meth c D yX12_formOf cX12_formOf 6 (some .int)) (hR : hw_R D b σ H) (hS : va_S (fun q => b ≤ q) s.heap H locs) {ls : Array Slot} (hl : hw_L ls 6 255 [(0, hw_vr b (some x0)), (1, .int l1), (2, .int l2), (3, .int l3), (4, .int l4), (5, .int l5)]) : W p l e rm12_formOf s m args below meth c H locs 0 0 (MQ below (hw_QI D b τ r) args s 0 0 (fun q => b ≤ q)) (F0 m 0 ls []) := by
  obtain ⟨hx, hb, hml, hr, hown, hts, hlk, hE, hnm⟩ := id C0
  have hown : s.vm.findClass RX12 = some m.cls := hown
  have hK := hE.1
  unfold m12_formOf at hm
  refine hw_aload_n hx hb dX12_formOf_0 rfl (hl.at 0 rfl) ?_
  refine lv_iload_n hx hb dX12_formOf_1 rfl (hl.at 1 rfl) ?_
  refine lv_iload hx hb dX12_formOf_2 (hl.at 5 rfl) ?_
  refine hw_aload_n hx hb dX12_formOf_4 rfl (hl.at 0 rfl) ?_
  refine lv_iload_n hx hb dX12_formOf_5 rfl (hl.at 1 rfl) ?_
  refine lv_iload_n hx hb dX12_formOf_6 rfl (hl.at 2 rfl) ?_
  refine lv_iload_n hx hb dX12_formOf_7 rfl (hl.at 3 rfl) ?_
  refine lv_iload hx hb dX12_formOf_8 (hl.at 4 rfl) ?_
  refine lv_iload hx hb dX12_formOf_10 (hl.at 5 rfl) ?_
  obtain ⟨a12, g12, hm⟩ := hw_bs hm
  obtain ⟨rfl, ht12⟩ := hw_rv_th g12
  obtain ⟨v12, σ12, e12, hm⟩ := hw_bs2 hm
  refine hw_cWI (va_runV (As := [.int l1, .int l2, .int l3, .int l4, .int l5]) (rest := [.int l5, .int l1, hw_vr b (some x0)]) ⟨hx, hb, hml, hown, hts⟩ (c12_turnsOf l D b e12) (cwV 5 hts (hw_gV hw_m584 hw_m585 hw_m586 hw_m5 hw_m587) rfl rfl rfl (by decide +kernel) ⟨(Nat.le_of_ble_eq_true rfl), (Nat.le_of_ble_eq_true rfl)⟩) (hw_preV (ci := 12) hE hR rfl (by decide) (hw_q_of ht12)) rfl rfl hl.sz rfl (lv_room (hw_sm (List.forall_mem_cons.mpr ⟨rfl, (List.forall_mem_cons.mpr ⟨rfl, (List.forall_mem_cons.mpr ⟨(hw_vr_cat _ _), (fun _ h => absurd h List.not_mem_nil)⟩)⟩)⟩) (Nat.le_of_ble_eq_true rfl))) dX12_formOf_12 ⟨(Nat.le_of_ble_eq_true rfl), (Nat.le_of_ble_eq_true rfl)⟩) hS (fun _ _ hR hS => ?_)
  obtain ⟨a15, g15, hm⟩ := hw_bs hm
  obtain ⟨rfl, ht15⟩ := hw_rv_th g15
  obtain ⟨v15, e15, hm⟩ := hw_bs hm
  refine hw_cRI (va_runV (As := [.int l1, .int l5, .int v12]) (rest := []) ⟨hx, hb, hml, hown, hts⟩ (c12_formBy l D b e15) (cwV 3 hts (hw_gV hw_m596 hw_m597 hw_m598 hw_m5 hw_m599) rfl rfl rfl (by decide +kernel) ⟨(Nat.le_of_ble_eq_true rfl), (Nat.le_of_ble_eq_true rfl)⟩) (hw_preV (ci := 12) hE hR rfl (by decide) (hw_q_of ht15)) rfl rfl hl.sz rfl (lv_room (Nat.le_of_ble_eq_true rfl)) dX12_formOf_15 ⟨(Nat.le_of_ble_eq_true rfl), (Nat.le_of_ble_eq_true rfl)⟩) ?_
  exact hw_rWI hx hb hr hlk hR hS hm dX12_formOf_18
set_option maxRecDepth 100000 in
theorem c12_formOf (l : Launch) (D : hw_D) (b : Nat) {x0 : Nat} {l1 : Int32} {l2 : Int32} {l3 : Int32} {l4 : Int32} {l5 : Int32} {σ : hw_S} {r : Int32} {τ : hw_S} (hm : m12_formOf x0 l1 l2 l3 l4 l5 σ = some (r, τ)) : Met l yX12_formOf (Cond.code yX12_formOf cX12_formOf 6 (some .int) :: wsL_law) rm12_formOf (hw_P1 D b σ [hw_vr b (some x0), .int l1, .int l2, .int l3, .int l4, .int l5]) (hw_QI D b τ r) 0 0 (fun q => b ≤ q) := by
  refine hw_start1 (by decide +kernel) (by exact Nat.le_of_ble_eq_true rfl) ?_
  intro p e s m below meth c ls C0 hR hS hl
  have hl : lv_has ls 6 [(0, hw_vr b (some x0)), (1, .int l1), (2, .int l2), (3, .int l3), (4, .int l4), (5, .int l5)] := by exact hl
  exact w12_formOf_s hm C0 hR hS ⟨hl, (List.forall_mem_cons.mpr ⟨(fun h => by rw [show (hw_vr b (some x0) : Value).category = 1 from (hw_vr_cat _ _)] at h; cases h), (List.forall_mem_cons.mpr ⟨(fun h => absurd (show (1 : Nat) = 2 from h) (by decide)), (List.forall_mem_cons.mpr ⟨(fun h => absurd (show (1 : Nat) = 2 from h) (by decide)), (List.forall_mem_cons.mpr ⟨(fun h => absurd (show (1 : Nat) = 2 from h) (by decide)), (List.forall_mem_cons.mpr ⟨(fun h => absurd (show (1 : Nat) = 2 from h) (by decide)), (List.forall_mem_cons.mpr ⟨(fun h => absurd (show (1 : Nat) = 2 from h) (by decide)), (fun _ h => absurd h List.not_mem_nil)⟩)⟩)⟩)⟩)⟩)⟩)⟩

abbrev rm12_winds : Room := { frames := 5, cells := 0, slots := 0, locals := 135 }
def m12_winds_b26 (x0 : Nat) (σ : hw_S) : Option (Int32 × hw_S) :=
  some (((-1) : Int32), σ)
set_option maxRecDepth 100000 in
theorem w12_winds_b26 {p : Program} {l : Launch} {e : Env} {s : State} {m : MethodId} {args : Array Value} {below : List Frame} {meth : Method} {c : Code} {D : hw_D} {b : Nat} {r : Int32} {τ : hw_S} (C0 : hw_C p s m args meth c D yX12_winds cX12_winds 8 (some .int)) {x0 : Nat} {σ : hw_S} {H : Heap} {locs : List Loc} (hm : m12_winds_b26 x0 σ = some (r, τ)) (hR : hw_R D b σ H) (hS : va_S (fun q => b ≤ q) s.heap H locs) {ls : Array Slot} (hl : hw_L ls 8 255 [(0, hw_vr b (some x0))]) : W p l e rm12_winds s m args below meth c H locs 0 0 (MQ below (hw_QI D b τ r) args s 0 0 (fun q => b ≤ q)) (F0 m 26 ls []) := by
  obtain ⟨hx, hb, hml, hr, hown, hts, hlk, hE, hnm⟩ := id C0
  have hown : s.vm.findClass RX12 = some m.cls := hown
  have hK := hE.1
  unfold m12_winds_b26 at hm
  refine lv_iconst (v := (-1)) hx hb dX12_winds_26 (by decide) ?_
  exact hw_rWI hx hb hr hlk hR hS hm dX12_winds_27
def m12_winds_b113 (x0 : Nat) (t0 : Int32) (σ : hw_S) : Option (Int32 × hw_S) :=
  some (t0, σ)
set_option maxRecDepth 100000 in
theorem w12_winds_b113 {p : Program} {l : Launch} {e : Env} {s : State} {m : MethodId} {args : Array Value} {below : List Frame} {meth : Method} {c : Code} {D : hw_D} {b : Nat} {r : Int32} {τ : hw_S} (C0 : hw_C p s m args meth c D yX12_winds cX12_winds 8 (some .int)) {x0 : Nat} {t0 : Int32} {σ : hw_S} {H : Heap} {locs : List Loc} (hm : m12_winds_b113 x0 t0 σ = some (r, τ)) (hR : hw_R D b σ H) (hS : va_S (fun q => b ≤ q) s.heap H locs) {ls : Array Slot} (hl : hw_L ls 8 255 [(0, hw_vr b (some x0))]) : W p l e rm12_winds s m args below meth c H locs 0 0 (MQ below (hw_QI D b τ r) args s 0 0 (fun q => b ≤ q)) (F0 m 113 ls [.int t0]) := by
  obtain ⟨hx, hb, hml, hr, hown, hts, hlk, hE, hnm⟩ := id C0
  have hown : s.vm.findClass RX12 = some m.cls := hown
  have hK := hE.1
  unfold m12_winds_b113 at hm
  exact hw_rWI hx hb hr hlk hR hS hm dX12_winds_113
def m12_winds (x0 : Nat) (l1 : Int32) (l2 : Int32) (l3 : Int32) (l4 : Int32) (σ : hw_S) : Option (Int32 × hw_S) :=
  (hw_rv (hw_q 12) (some x0) σ).bind fun a2 =>
  (m12_isLaw x0 l1 σ).bind fun v2 =>
  (if v2 = 0 then
  m12_winds_b26 x0 σ
  else
  (hw_rv (hw_q 12) (some x0) σ).bind fun a10 =>
  (m12_isStuff x0 l2 σ).bind fun v10 =>
  (if v10 = 0 then
  m12_winds_b26 x0 σ
  else
  (m12_in l4 (0 : Int32) (2 : Int32)).bind fun v20 =>
  (if v20 = 0 then
  m12_winds_b26 x0 σ
  else
  (m12_isDoing l3).bind fun v29 =>
  (if v29 = 0 then
  some (((-2) : Int32), σ)
  else
  (hw_dv l3 (10000 : Int32)).bind fun v42 =>
  (hw_dv l3 (100 : Int32)).bind fun v48 =>
  (hw_rm v48 (100 : Int32)).bind fun v51 =>
  (hw_rm l3 (100 : Int32)).bind fun v57 =>
  (if l4 = 0 then
  (hw_rv (hw_q 12) (some x0) σ).bind fun a74 =>
  hw_b2 (m12_baseOf x0 l1 l2 v42 v51 v57 σ) fun v74 σ74 =>
  m12_winds_b113 x0 v74 σ74
  else
  (if l4 = (1 : Int32) then
  (hw_rv (hw_q 12) (some x0) σ).bind fun a95 =>
  hw_b2 (m12_turnsOf x0 l1 l2 v42 v51 v57 σ) fun v95 σ95 =>
  m12_winds_b113 x0 v95 σ95
  else
  (hw_rv (hw_q 12) (some x0) σ).bind fun a110 =>
  hw_b2 (m12_formOf x0 l1 l2 v42 v51 v57 σ) fun v110 σ110 =>
  m12_winds_b113 x0 v110 σ110))))))
set_option maxRecDepth 100000 in
theorem w12_winds_s {p : Program} {l : Launch} {e : Env} {s : State} {m : MethodId} {args : Array Value} {below : List Frame} {meth : Method} {c : Code} {D : hw_D} {b : Nat} {x0 : Nat} {l1 : Int32} {l2 : Int32} {l3 : Int32} {l4 : Int32} {σ : hw_S} {r : Int32} {τ : hw_S} {H : Heap} {locs : List Loc} (hm : m12_winds x0 l1 l2 l3 l4 σ = some (r, τ)) (C0 : hw_C p s m args meth c D yX12_winds cX12_winds 8 (some .int)) (hR : hw_R D b σ H) (hS : va_S (fun q => b ≤ q) s.heap H locs) {ls : Array Slot} (hl : hw_L ls 8 255 [(0, hw_vr b (some x0)), (1, .int l1), (2, .int l2), (3, .int l3), (4, .int l4)]) : W p l e rm12_winds s m args below meth c H locs 0 0 (MQ below (hw_QI D b τ r) args s 0 0 (fun q => b ≤ q)) (F0 m 0 ls []) := by
  obtain ⟨hx, hb, hml, hr, hown, hts, hlk, hE, hnm⟩ := id C0
  have hown : s.vm.findClass RX12 = some m.cls := hown
  have hK := hE.1
  unfold m12_winds at hm
  refine hw_aload_n hx hb dX12_winds_0 rfl (hl.at 0 rfl) ?_
  refine lv_iload_n hx hb dX12_winds_1 rfl (hl.at 1 rfl) ?_
  obtain ⟨a2, g2, hm⟩ := hw_bs hm
  obtain ⟨rfl, ht2⟩ := hw_rv_th g2
  obtain ⟨v2, e2, hm⟩ := hw_bs hm
  refine hw_cRI (va_runV (As := [.int l1]) (rest := []) ⟨hx, hb, hml, hown, hts⟩ (c12_isLaw l D b e2) (cwV 1 hts (hw_gV hw_m434 hw_m435 hw_m436 hw_m5 hw_m437) rfl rfl rfl (by decide +kernel) ⟨(Nat.le_of_ble_eq_true rfl), (Nat.le_of_ble_eq_true rfl)⟩) (hw_preV (ci := 12) hE hR rfl (by decide) (hw_q_of ht2)) rfl rfl hl.sz rfl (lv_room (Nat.le_of_ble_eq_true rfl)) dX12_winds_2 ⟨(Nat.le_of_ble_eq_true rfl), (Nat.le_of_ble_eq_true rfl)⟩) ?_
  refine lv_if_eq (tgt := 26) hx hb dX12_winds_5 (by decide) (fun c5 => ?_) (fun c5 => ?_)
  · have hm := hw_ip hm c5
    exact w12_winds_b26 C0 hm hR hS (hl.sub [0] rfl)
  · have hm := hw_in hm c5
    refine hw_aload_n hx hb dX12_winds_8 rfl (hl.at 0 rfl) ?_
    refine lv_iload_n hx hb dX12_winds_9 rfl (hl.at 2 rfl) ?_
    obtain ⟨a10, g10, hm⟩ := hw_bs hm
    obtain ⟨rfl, ht10⟩ := hw_rv_th g10
    obtain ⟨v10, e10, hm⟩ := hw_bs hm
    refine hw_cRI (va_runV (As := [.int l2]) (rest := []) ⟨hx, hb, hml, hown, hts⟩ (c12_isStuff l D b e10) (cwV 1 hts (hw_gV hw_m129 hw_m130 hw_m131 hw_m5 hw_m132) rfl rfl rfl (by decide +kernel) ⟨(Nat.le_of_ble_eq_true rfl), (Nat.le_of_ble_eq_true rfl)⟩) (hw_preV (ci := 12) hE hR rfl (by decide) (hw_q_of ht10)) rfl rfl hl.sz rfl (lv_room (Nat.le_of_ble_eq_true rfl)) dX12_winds_10 ⟨(Nat.le_of_ble_eq_true rfl), (Nat.le_of_ble_eq_true rfl)⟩) ?_
    refine lv_if_eq (tgt := 26) hx hb dX12_winds_13 (by decide) (fun c13 => ?_) (fun c13 => ?_)
    · have hm := hw_ip hm c13
      exact w12_winds_b26 C0 hm hR hS (hl.sub [0] rfl)
    · have hm := hw_in hm c13
      refine lv_iload hx hb dX12_winds_16 (hl.at 4 rfl) ?_
      refine lv_iconst (v := 0) hx hb dX12_winds_18 (by decide) ?_
      refine lv_iconst (v := 2) hx hb dX12_winds_19 (by decide) ?_
      obtain ⟨v20, e20, hm⟩ := hw_bs hm
      refine hw_cRI (va_runS (As := [.int l4, .int (0 : Int32), .int (2 : Int32)]) (rest := []) ⟨hx, hb, hml, hown, hts⟩ (c12_in l D e20) (cwS 3 hts (hw_gS hw_m112 hw_m113 hw_m5 hw_m114) rfl rfl rfl (by decide +kernel) ⟨(Nat.le_of_ble_eq_true rfl), (Nat.le_of_ble_eq_true rfl)⟩) (hw_pre0 hE) rfl rfl hl.sz rfl (lv_room (Nat.le_of_ble_eq_true rfl)) dX12_winds_20 ⟨(Nat.le_of_ble_eq_true rfl), (Nat.le_of_ble_eq_true rfl)⟩) ?_
      refine lv_if_ne (tgt := 28) hx hb dX12_winds_23 (by decide) (fun c23 => ?_) (fun c23 => ?_)
      · have hm := hw_in hm c23
        refine lv_iload_n hx hb dX12_winds_28 rfl (hl.at 3 rfl) ?_
        obtain ⟨v29, e29, hm⟩ := hw_bs hm
        refine hw_cRI (va_runS (As := [.int l3]) (rest := []) ⟨hx, hb, hml, hown, hts⟩ (c12_isDoing l D e29) (cwS 1 hts (hw_gS hw_m572 hw_m573 hw_m5 hw_m574) rfl rfl rfl (by decide +kernel) ⟨(Nat.le_of_ble_eq_true rfl), (Nat.le_of_ble_eq_true rfl)⟩) (hw_pre0 hE) rfl rfl hl.sz rfl (lv_room (Nat.le_of_ble_eq_true rfl)) dX12_winds_29 ⟨(Nat.le_of_ble_eq_true rfl), (Nat.le_of_ble_eq_true rfl)⟩) ?_
        refine lv_if_ne (tgt := 38) hx hb dX12_winds_32 (by decide) (fun c32 => ?_) (fun c32 => ?_)
        · have hm := hw_in hm c32
          refine lv_iload_n hx hb dX12_winds_38 rfl (hl.at 3 rfl) ?_
          refine lv_sipush (v := 10000) hx hb dX12_winds_39 (by decide) ?_
          obtain ⟨v42, e42, hm⟩ := hw_bs hm
          refine hw_idiv hx hb e42 dX12_winds_42 ?_
          refine hw_istore (lv' := [(5, .int v42), (0, hw_vr b (some x0)), (1, .int l1), (2, .int l2), (3, .int l3), (4, .int l4)]) hx hb dX12_winds_43 hl (by decide) (by decide) rfl (fun ls hl => ?_)
          refine lv_iload_n hx hb dX12_winds_45 rfl (hl.at 4 rfl) ?_
          refine lv_bipush (v := 100) hx hb dX12_winds_46 (by decide) ?_
          obtain ⟨v48, e48, hm⟩ := hw_bs hm
          refine hw_idiv hx hb e48 dX12_winds_48 ?_
          refine lv_bipush (v := 100) hx hb dX12_winds_49 (by decide) ?_
          obtain ⟨v51, e51, hm⟩ := hw_bs hm
          refine hw_irem hx hb e51 dX12_winds_51 ?_
          refine hw_istore (lv' := [(6, .int v51), (5, .int v42), (0, hw_vr b (some x0)), (1, .int l1), (2, .int l2), (3, .int l3), (4, .int l4)]) hx hb dX12_winds_52 hl (by decide) (by decide) rfl (fun ls hl => ?_)
          refine lv_iload_n hx hb dX12_winds_54 rfl (hl.at 5 rfl) ?_
          refine lv_bipush (v := 100) hx hb dX12_winds_55 (by decide) ?_
          obtain ⟨v57, e57, hm⟩ := hw_bs hm
          refine hw_irem hx hb e57 dX12_winds_57 ?_
          refine hw_istore (lv' := [(7, .int v57), (6, .int v51), (5, .int v42), (0, hw_vr b (some x0)), (1, .int l1), (2, .int l2), (3, .int l3), (4, .int l4)]) hx hb dX12_winds_58 hl (by decide) (by decide) rfl (fun ls hl => ?_)
          refine lv_iload hx hb dX12_winds_60 (hl.at 7 rfl) ?_
          refine lv_if_ne (tgt := 80) hx hb dX12_winds_62 (by decide) (fun c62 => ?_) (fun c62 => ?_)
          · have hm := hw_in hm c62
            refine lv_iload hx hb dX12_winds_80 (hl.at 7 rfl) ?_
            refine lv_iconst (v := 1) hx hb dX12_winds_82 (by decide) ?_
            refine lv_icmp_ne (tgt := 101) hx hb dX12_winds_83 (by decide) (fun c83 => ?_) (fun c83 => ?_)
            · have hm := hw_in hm c83
              refine hw_aload_n hx hb dX12_winds_101 rfl (hl.at 3 rfl) ?_
              refine lv_iload_n hx hb dX12_winds_102 rfl (hl.at 4 rfl) ?_
              refine lv_iload_n hx hb dX12_winds_103 rfl (hl.at 5 rfl) ?_
              refine lv_iload hx hb dX12_winds_104 (hl.at 2 rfl) ?_
              refine lv_iload hx hb dX12_winds_106 (hl.at 1 rfl) ?_
              refine lv_iload hx hb dX12_winds_108 (hl.at 0 rfl) ?_
              obtain ⟨a110, g110, hm⟩ := hw_bs hm
              obtain ⟨rfl, ht110⟩ := hw_rv_th g110
              obtain ⟨v110, σ110, e110, hm⟩ := hw_bs2 hm
              refine hw_cWI (va_runV (As := [.int l1, .int l2, .int v42, .int v51, .int v57]) (rest := []) ⟨hx, hb, hml, hown, hts⟩ (c12_formOf l D b e110) (cwV 5 hts (hw_gV hw_m592 hw_m593 hw_m594 hw_m5 hw_m595) rfl rfl rfl (by decide +kernel) ⟨(Nat.le_of_ble_eq_true rfl), (Nat.le_of_ble_eq_true rfl)⟩) (hw_preV (ci := 12) hE hR rfl (by decide) (hw_q_of ht110)) rfl rfl hl.sz rfl (lv_room (Nat.le_of_ble_eq_true rfl)) dX12_winds_110 ⟨(Nat.le_of_ble_eq_true rfl), (Nat.le_of_ble_eq_true rfl)⟩) hS (fun _ _ hR hS => ?_)
              exact w12_winds_b113 C0 hm hR hS (hl.sub [3] rfl)
            · have hm := hw_ip hm c83
              refine hw_aload_n hx hb dX12_winds_86 rfl (hl.at 3 rfl) ?_
              refine lv_iload_n hx hb dX12_winds_87 rfl (hl.at 4 rfl) ?_
              refine lv_iload_n hx hb dX12_winds_88 rfl (hl.at 5 rfl) ?_
              refine lv_iload hx hb dX12_winds_89 (hl.at 2 rfl) ?_
              refine lv_iload hx hb dX12_winds_91 (hl.at 1 rfl) ?_
              refine lv_iload hx hb dX12_winds_93 (hl.at 0 rfl) ?_
              obtain ⟨a95, g95, hm⟩ := hw_bs hm
              obtain ⟨rfl, ht95⟩ := hw_rv_th g95
              obtain ⟨v95, σ95, e95, hm⟩ := hw_bs2 hm
              refine hw_cWI (va_runV (As := [.int l1, .int l2, .int v42, .int v51, .int v57]) (rest := []) ⟨hx, hb, hml, hown, hts⟩ (c12_turnsOf l D b e95) (cwV 5 hts (hw_gV hw_m584 hw_m585 hw_m586 hw_m5 hw_m587) rfl rfl rfl (by decide +kernel) ⟨(Nat.le_of_ble_eq_true rfl), (Nat.le_of_ble_eq_true rfl)⟩) (hw_preV (ci := 12) hE hR rfl (by decide) (hw_q_of ht95)) rfl rfl hl.sz rfl (lv_room (Nat.le_of_ble_eq_true rfl)) dX12_winds_95 ⟨(Nat.le_of_ble_eq_true rfl), (Nat.le_of_ble_eq_true rfl)⟩) hS (fun _ _ hR hS => ?_)
              refine lv_goto (tgt := 113) hx hb dX12_winds_98 (by decide) ?_
              exact w12_winds_b113 C0 hm hR hS (hl.sub [3] rfl)
          · have hm := hw_ip hm c62
            refine hw_aload_n hx hb dX12_winds_65 rfl (hl.at 3 rfl) ?_
            refine lv_iload_n hx hb dX12_winds_66 rfl (hl.at 4 rfl) ?_
            refine lv_iload_n hx hb dX12_winds_67 rfl (hl.at 5 rfl) ?_
            refine lv_iload hx hb dX12_winds_68 (hl.at 2 rfl) ?_
            refine lv_iload hx hb dX12_winds_70 (hl.at 1 rfl) ?_
            refine lv_iload hx hb dX12_winds_72 (hl.at 0 rfl) ?_
            obtain ⟨a74, g74, hm⟩ := hw_bs hm
            obtain ⟨rfl, ht74⟩ := hw_rv_th g74
            obtain ⟨v74, σ74, e74, hm⟩ := hw_bs2 hm
            refine hw_cWI (va_runV (As := [.int l1, .int l2, .int v42, .int v51, .int v57]) (rest := []) ⟨hx, hb, hml, hown, hts⟩ (c12_baseOf l D b e74) (cwV 5 hts (hw_gV hw_m576 hw_m577 hw_m578 hw_m5 hw_m579) rfl rfl rfl (by decide +kernel) ⟨(Nat.le_of_ble_eq_true rfl), (Nat.le_of_ble_eq_true rfl)⟩) (hw_preV (ci := 12) hE hR rfl (by decide) (hw_q_of ht74)) rfl rfl hl.sz rfl (lv_room (Nat.le_of_ble_eq_true rfl)) dX12_winds_74 ⟨(Nat.le_of_ble_eq_true rfl), (Nat.le_of_ble_eq_true rfl)⟩) hS (fun _ _ hR hS => ?_)
            refine lv_goto (tgt := 113) hx hb dX12_winds_77 (by decide) ?_
            exact w12_winds_b113 C0 hm hR hS (hl.sub [3] rfl)
        · have hm := hw_ip hm c32
          refine lv_bipush (v := (-2)) hx hb dX12_winds_35 (by decide) ?_
          exact hw_rWI hx hb hr hlk hR hS hm dX12_winds_37
      · have hm := hw_ip hm c23
        exact w12_winds_b26 C0 hm hR hS (hl.sub [0] rfl)
set_option maxRecDepth 100000 in
theorem c12_winds (l : Launch) (D : hw_D) (b : Nat) {x0 : Nat} {l1 : Int32} {l2 : Int32} {l3 : Int32} {l4 : Int32} {σ : hw_S} {r : Int32} {τ : hw_S} (hm : m12_winds x0 l1 l2 l3 l4 σ = some (r, τ)) : Met l yX12_winds (Cond.code yX12_winds cX12_winds 8 (some .int) :: wsL_law) rm12_winds (hw_P1 D b σ [hw_vr b (some x0), .int l1, .int l2, .int l3, .int l4]) (hw_QI D b τ r) 0 0 (fun q => b ≤ q) := by
  refine hw_start1 (by decide +kernel) (by exact Nat.le_of_ble_eq_true rfl) ?_
  intro p e s m below meth c ls C0 hR hS hl
  have hl : lv_has ls 8 [(0, hw_vr b (some x0)), (1, .int l1), (2, .int l2), (3, .int l3), (4, .int l4)] := by exact hl
  exact w12_winds_s hm C0 hR hS ⟨hl, (List.forall_mem_cons.mpr ⟨(fun h => by rw [show (hw_vr b (some x0) : Value).category = 1 from (hw_vr_cat _ _)] at h; cases h), (List.forall_mem_cons.mpr ⟨(fun h => absurd (show (1 : Nat) = 2 from h) (by decide)), (List.forall_mem_cons.mpr ⟨(fun h => absurd (show (1 : Nat) = 2 from h) (by decide)), (List.forall_mem_cons.mpr ⟨(fun h => absurd (show (1 : Nat) = 2 from h) (by decide)), (List.forall_mem_cons.mpr ⟨(fun h => absurd (show (1 : Nat) = 2 from h) (by decide)), (fun _ h => absurd h List.not_mem_nil)⟩)⟩)⟩)⟩)⟩)⟩

abbrev rm11_tick : Room := { frames := 3, cells := 0, slots := 0, locals := 62 }
def m11_tick (x0 : Nat) (l1 : Int32) (σ : hw_S) : Option (Int32 × hw_S) :=
  (if l1 = ((-1) : Int32) then
  (hw_gP (hw_q 11) 0 (some x0) σ).bind fun v6 =>
  (hw_pI (hw_q 8) 7 v6 (0 : Int32) σ).bind fun σ10 =>
  some ((0 : Int32), σ10)
  else
  (m11_isDoing l1).bind fun v16 =>
  (if v16 = 0 then
  some (((-2) : Int32), σ)
  else
  (hw_gP (hw_q 11) 0 (some x0) σ).bind fun v26 =>
  (hw_gI (hw_q 8) 7 v26 σ).bind fun v29 =>
  (if v29 < (20 : Int32) then
  (hw_gP (hw_q 11) 0 (some x0) σ).bind fun v41 =>
  (hw_gP (hw_q 8) 6 v41 σ).bind fun v44 =>
  (hw_gP (hw_q 11) 0 (some x0) σ).bind fun v48 =>
  (hw_gI (hw_q 8) 7 v48 σ).bind fun v51 =>
  (hw_sI v44 v51 l1 σ).bind fun σ55 =>
  (hw_gP (hw_q 11) 0 (some x0) σ55).bind fun v57 =>
  (hw_gI (hw_q 8) 7 v57 σ55).bind fun v61 =>
  (hw_pI (hw_q 8) 7 v57 (v61 + (1 : Int32)) σ55).bind fun σ66 =>
  (hw_gP (hw_q 11) 0 (some x0) σ66).bind fun v70 =>
  (hw_gI (hw_q 8) 7 v70 σ66).bind fun v73 =>
  some (v73, σ66)
  else
  some (((-4) : Int32), σ))))
set_option maxRecDepth 100000 in
theorem w11_tick_s {p : Program} {l : Launch} {e : Env} {s : State} {m : MethodId} {args : Array Value} {below : List Frame} {meth : Method} {c : Code} {D : hw_D} {b : Nat} {x0 : Nat} {l1 : Int32} {σ : hw_S} {r : Int32} {τ : hw_S} {H : Heap} {locs : List Loc} (hm : m11_tick x0 l1 σ = some (r, τ)) (C0 : hw_C p s m args meth c D yX11_tick cX11_tick 2 (some .int)) (hR : hw_R D b σ H) (hS : va_S (fun q => b ≤ q) s.heap H locs) {ls : Array Slot} (hl : hw_L ls 2 255 [(0, hw_vr b (some x0)), (1, .int l1)]) : W p l e rm11_tick s m args below meth c H locs 0 0 (MQ below (hw_QI D b τ r) args s 0 0 (fun q => b ≤ q)) (F0 m 0 ls []) := by
  obtain ⟨hx, hb, hml, hr, hown, hts, hlk, hE, hnm⟩ := id C0
  have hown : s.vm.findClass RX11 = some m.cls := hown
  have hK := hE.1
  unfold m11_tick at hm
  refine lv_iload_n hx hb dX11_tick_0 rfl (hl.at 1 rfl) ?_
  refine lv_iconst (v := (-1)) hx hb dX11_tick_1 (by decide) ?_
  refine lv_icmp_ne (tgt := 15) hx hb dX11_tick_2 (by decide) (fun c2 => ?_) (fun c2 => ?_)
  · have hm := hw_in hm c2
    refine lv_iload_n hx hb dX11_tick_15 rfl (hl.at 1 rfl) ?_
    obtain ⟨v16, e16, hm⟩ := hw_bs hm
    refine hw_cRI (va_runS (As := [.int l1]) (rest := []) ⟨hx, hb, hml, hown, hts⟩ (c11_isDoing l D e16) (cwS 1 hts (hw_gS hw_m442 hw_m443 hw_m2 hw_m444) rfl rfl rfl (by decide +kernel) ⟨(Nat.le_of_ble_eq_true rfl), (Nat.le_of_ble_eq_true rfl)⟩) (hw_pre0 hE) rfl rfl hl.sz rfl (lv_room (Nat.le_of_ble_eq_true rfl)) dX11_tick_16 ⟨(Nat.le_of_ble_eq_true rfl), (Nat.le_of_ble_eq_true rfl)⟩) ?_
    refine lv_if_ne (tgt := 25) hx hb dX11_tick_19 (by decide) (fun c19 => ?_) (fun c19 => ?_)
    · have hm := hw_in hm c19
      refine hw_aload_n hx hb dX11_tick_25 rfl (hl.at 0 rfl) ?_
      obtain ⟨v26, e26, hm⟩ := hw_bs hm
      refine hw_getP hx hb hw_cf11 hts hown hK hR e26 (by decide) rfl (hts _ hw_m16) (fun _ h9 => h9) dX11_tick_26 ?_
      obtain ⟨v29, e29, hm⟩ := hw_bs hm
      refine hw_getI hx hb hw_cf8 hts hown hK hR e29 (by decide) rfl (hts _ hw_m604) (fun _ h9 => h9) dX11_tick_29 ?_
      refine lv_bipush (v := 20) hx hb dX11_tick_32 (by decide) ?_
      refine lv_icmp_lt (tgt := 40) hx hb dX11_tick_34 (by decide) (fun c34 => ?_) (fun c34 => ?_)
      · have hm := hw_ip hm c34
        refine hw_aload_n hx hb dX11_tick_40 rfl (hl.at 0 rfl) ?_
        obtain ⟨v41, e41, hm⟩ := hw_bs hm
        refine hw_getP hx hb hw_cf11 hts hown hK hR e41 (by decide) rfl (hts _ hw_m16) (fun _ h9 => h9) dX11_tick_41 ?_
        obtain ⟨v44, e44, hm⟩ := hw_bs hm
        refine hw_getP hx hb hw_cf8 hts hown hK hR e44 (by decide) rfl (hts _ hw_m605) (fun _ h9 => h9) dX11_tick_44 ?_
        refine hw_aload_n hx hb dX11_tick_47 rfl (hl.at 0 rfl) ?_
        obtain ⟨v48, e48, hm⟩ := hw_bs hm
        refine hw_getP hx hb hw_cf11 hts hown hK hR e48 (by decide) rfl (hts _ hw_m16) (fun _ h9 => h9) dX11_tick_48 ?_
        obtain ⟨v51, e51, hm⟩ := hw_bs hm
        refine hw_getI hx hb hw_cf8 hts hown hK hR e51 (by decide) rfl (hts _ hw_m604) (fun _ h9 => h9) dX11_tick_51 ?_
        refine lv_iload_n hx hb dX11_tick_54 rfl (hl.at 1 rfl) ?_
        obtain ⟨σ55, e55, hm⟩ := hw_bs hm
        refine hw_iast hx hb hK hR hS e55 dX11_tick_55 (fun _ _ hR hS => ?_)
        refine hw_aload_n hx hb dX11_tick_56 rfl (hl.at 0 rfl) ?_
        obtain ⟨v57, e57, hm⟩ := hw_bs hm
        refine hw_getP hx hb hw_cf11 hts hown hK hR e57 (by decide) rfl (hts _ hw_m16) (fun _ h9 => h9) dX11_tick_57 ?_
        refine lv_dup hx hb dX11_tick_60 (hw_vr_cat _ _) ?_
        obtain ⟨v61, e61, hm⟩ := hw_bs hm
        refine hw_getI hx hb hw_cf8 hts hown hK hR e61 (by decide) rfl (hts _ hw_m604) (fun _ h9 => h9) dX11_tick_61 ?_
        refine lv_iconst (v := 1) hx hb dX11_tick_64 (by decide) ?_
        refine lv_iadd hx hb dX11_tick_65 ?_
        obtain ⟨σ66, e66, hm⟩ := hw_bs hm
        refine hw_putI hx hb hw_cf8 hts hown hK hR hS e66 (by decide) rfl rfl (hts _ hw_m604) (fun _ h9 => h9) (Or.inl rfl) dX11_tick_66 (fun _ _ hR hS => ?_)
        refine hw_aload_n hx hb dX11_tick_69 rfl (hl.at 0 rfl) ?_
        obtain ⟨v70, e70, hm⟩ := hw_bs hm
        refine hw_getP hx hb hw_cf11 hts hown hK hR e70 (by decide) rfl (hts _ hw_m16) (fun _ h9 => h9) dX11_tick_70 ?_
        obtain ⟨v73, e73, hm⟩ := hw_bs hm
        refine hw_getI hx hb hw_cf8 hts hown hK hR e73 (by decide) rfl (hts _ hw_m604) (fun _ h9 => h9) dX11_tick_73 ?_
        exact hw_rWI hx hb hr hlk hR hS hm dX11_tick_76
      · have hm := hw_in hm c34
        refine lv_bipush (v := (-4)) hx hb dX11_tick_37 (by decide) ?_
        exact hw_rWI hx hb hr hlk hR hS hm dX11_tick_39
    · have hm := hw_ip hm c19
      refine lv_bipush (v := (-2)) hx hb dX11_tick_22 (by decide) ?_
      exact hw_rWI hx hb hr hlk hR hS hm dX11_tick_24
  · have hm := hw_ip hm c2
    refine hw_aload_n hx hb dX11_tick_5 rfl (hl.at 0 rfl) ?_
    obtain ⟨v6, e6, hm⟩ := hw_bs hm
    refine hw_getP hx hb hw_cf11 hts hown hK hR e6 (by decide) rfl (hts _ hw_m16) (fun _ h9 => h9) dX11_tick_6 ?_
    refine lv_iconst (v := 0) hx hb dX11_tick_9 (by decide) ?_
    obtain ⟨σ10, e10, hm⟩ := hw_bs hm
    refine hw_putI hx hb hw_cf8 hts hown hK hR hS e10 (by decide) rfl rfl (hts _ hw_m604) (fun _ h9 => h9) (Or.inl rfl) dX11_tick_10 (fun _ _ hR hS => ?_)
    refine lv_iconst (v := 0) hx hb dX11_tick_13 (by decide) ?_
    exact hw_rWI hx hb hr hlk hR hS hm dX11_tick_14
set_option maxRecDepth 100000 in
theorem c11_tick (l : Launch) (D : hw_D) (b : Nat) {x0 : Nat} {l1 : Int32} {σ : hw_S} {r : Int32} {τ : hw_S} (hm : m11_tick x0 l1 σ = some (r, τ)) : Met l yX11_tick (Cond.code yX11_tick cX11_tick 2 (some .int) :: wsL_law) rm11_tick (hw_P1 D b σ [hw_vr b (some x0), .int l1]) (hw_QI D b τ r) 0 0 (fun q => b ≤ q) := by
  refine hw_start1 (by decide +kernel) (by exact Nat.le_of_ble_eq_true rfl) ?_
  intro p e s m below meth c ls C0 hR hS hl
  have hl : lv_has ls 2 [(0, hw_vr b (some x0)), (1, .int l1)] := by exact hl
  exact w11_tick_s hm C0 hR hS ⟨hl, (List.forall_mem_cons.mpr ⟨(fun h => by rw [show (hw_vr b (some x0) : Value).category = 1 from (hw_vr_cat _ _)] at h; cases h), (List.forall_mem_cons.mpr ⟨(fun h => absurd (show (1 : Nat) = 2 from h) (by decide)), (fun _ h => absurd h List.not_mem_nil)⟩)⟩)⟩

abbrev rm12_tick : Room := { frames := 2, cells := 0, slots := 0, locals := 42 }
def m12_tick (x0 : Nat) (l1 : Int32) (σ : hw_S) : Option (Int32 × hw_S) :=
  (if l1 = ((-1) : Int32) then
  (hw_gP (hw_q 12) 1 (some x0) σ).bind fun v6 =>
  (hw_sI v6 (3 : Int32) (0 : Int32) σ).bind fun σ11 =>
  some ((0 : Int32), σ11)
  else
  (m12_isDoing l1).bind fun v15 =>
  (if v15 = 0 then
  some (((-2) : Int32), σ)
  else
  (hw_gP (hw_q 12) 1 (some x0) σ).bind fun v25 =>
  (hw_aI 0 v25 (3 : Int32) σ).bind fun v29 =>
  (if v29 = (20 : Int32) then
  some (((-4) : Int32), σ)
  else
  (hw_gP (hw_q 12) 1 (some x0) σ).bind fun v39 =>
  (hw_gP (hw_q 12) 1 (some x0) σ).bind fun v46 =>
  (hw_aI 0 v46 (3 : Int32) σ).bind fun v50 =>
  (hw_sI v39 ((1332 : Int32) + v50) l1 σ).bind fun σ53 =>
  (hw_gP (hw_q 12) 1 (some x0) σ53).bind fun v55 =>
  (hw_aI 0 v55 (3 : Int32) σ53).bind fun v60 =>
  (hw_sI v55 (3 : Int32) (v60 + (1 : Int32)) σ53).bind fun σ63 =>
  (hw_gP (hw_q 12) 1 (some x0) σ63).bind fun v65 =>
  (hw_aI 0 v65 (3 : Int32) σ63).bind fun v69 =>
  some (v69, σ63))))
set_option maxRecDepth 100000 in
theorem w12_tick_s {p : Program} {l : Launch} {e : Env} {s : State} {m : MethodId} {args : Array Value} {below : List Frame} {meth : Method} {c : Code} {D : hw_D} {b : Nat} {x0 : Nat} {l1 : Int32} {σ : hw_S} {r : Int32} {τ : hw_S} {H : Heap} {locs : List Loc} (hm : m12_tick x0 l1 σ = some (r, τ)) (C0 : hw_C p s m args meth c D yX12_tick cX12_tick 2 (some .int)) (hR : hw_R D b σ H) (hS : va_S (fun q => b ≤ q) s.heap H locs) {ls : Array Slot} (hl : hw_L ls 2 255 [(0, hw_vr b (some x0)), (1, .int l1)]) : W p l e rm12_tick s m args below meth c H locs 0 0 (MQ below (hw_QI D b τ r) args s 0 0 (fun q => b ≤ q)) (F0 m 0 ls []) := by
  obtain ⟨hx, hb, hml, hr, hown, hts, hlk, hE, hnm⟩ := id C0
  have hown : s.vm.findClass RX12 = some m.cls := hown
  have hK := hE.1
  unfold m12_tick at hm
  refine lv_iload_n hx hb dX12_tick_0 rfl (hl.at 1 rfl) ?_
  refine lv_iconst (v := (-1)) hx hb dX12_tick_1 (by decide) ?_
  refine lv_icmp_ne (tgt := 14) hx hb dX12_tick_2 (by decide) (fun c2 => ?_) (fun c2 => ?_)
  · have hm := hw_in hm c2
    refine lv_iload_n hx hb dX12_tick_14 rfl (hl.at 1 rfl) ?_
    obtain ⟨v15, e15, hm⟩ := hw_bs hm
    refine hw_cRI (va_runS (As := [.int l1]) (rest := []) ⟨hx, hb, hml, hown, hts⟩ (c12_isDoing l D e15) (cwS 1 hts (hw_gS hw_m572 hw_m573 hw_m5 hw_m574) rfl rfl rfl (by decide +kernel) ⟨(Nat.le_of_ble_eq_true rfl), (Nat.le_of_ble_eq_true rfl)⟩) (hw_pre0 hE) rfl rfl hl.sz rfl (lv_room (Nat.le_of_ble_eq_true rfl)) dX12_tick_15 ⟨(Nat.le_of_ble_eq_true rfl), (Nat.le_of_ble_eq_true rfl)⟩) ?_
    refine lv_if_ne (tgt := 24) hx hb dX12_tick_18 (by decide) (fun c18 => ?_) (fun c18 => ?_)
    · have hm := hw_in hm c18
      refine hw_aload_n hx hb dX12_tick_24 rfl (hl.at 0 rfl) ?_
      obtain ⟨v25, e25, hm⟩ := hw_bs hm
      refine hw_getP hx hb hw_cf12 hts hown hK hR e25 (by decide) rfl (hts _ hw_m76) (fun _ h9 => h9) dX12_tick_25 ?_
      refine lv_iconst (v := 3) hx hb dX12_tick_28 (by decide) ?_
      obtain ⟨v29, e29, hm⟩ := hw_bs hm
      refine hw_iald hx hb hK hR e29 dX12_tick_29 ?_
      refine lv_bipush (v := 20) hx hb dX12_tick_30 (by decide) ?_
      refine lv_icmp_ne (tgt := 38) hx hb dX12_tick_32 (by decide) (fun c32 => ?_) (fun c32 => ?_)
      · have hm := hw_in hm c32
        refine hw_aload_n hx hb dX12_tick_38 rfl (hl.at 0 rfl) ?_
        obtain ⟨v39, e39, hm⟩ := hw_bs hm
        refine hw_getP hx hb hw_cf12 hts hown hK hR e39 (by decide) rfl (hts _ hw_m76) (fun _ h9 => h9) dX12_tick_39 ?_
        refine lv_sipush (v := 1332) hx hb dX12_tick_42 (by decide) ?_
        refine hw_aload_n hx hb dX12_tick_45 rfl (hl.at 0 rfl) ?_
        obtain ⟨v46, e46, hm⟩ := hw_bs hm
        refine hw_getP hx hb hw_cf12 hts hown hK hR e46 (by decide) rfl (hts _ hw_m76) (fun _ h9 => h9) dX12_tick_46 ?_
        refine lv_iconst (v := 3) hx hb dX12_tick_49 (by decide) ?_
        obtain ⟨v50, e50, hm⟩ := hw_bs hm
        refine hw_iald hx hb hK hR e50 dX12_tick_50 ?_
        refine lv_iadd hx hb dX12_tick_51 ?_
        refine lv_iload_n hx hb dX12_tick_52 rfl (hl.at 1 rfl) ?_
        obtain ⟨σ53, e53, hm⟩ := hw_bs hm
        refine hw_iast hx hb hK hR hS e53 dX12_tick_53 (fun _ _ hR hS => ?_)
        refine hw_aload_n hx hb dX12_tick_54 rfl (hl.at 0 rfl) ?_
        obtain ⟨v55, e55, hm⟩ := hw_bs hm
        refine hw_getP hx hb hw_cf12 hts hown hK hR e55 (by decide) rfl (hts _ hw_m76) (fun _ h9 => h9) dX12_tick_55 ?_
        refine lv_iconst (v := 3) hx hb dX12_tick_58 (by decide) ?_
        refine lv_dup2_11 hx hb dX12_tick_59 rfl (hw_vr_cat _ _) ?_
        obtain ⟨v60, e60, hm⟩ := hw_bs hm
        refine hw_iald hx hb hK hR e60 dX12_tick_60 ?_
        refine lv_iconst (v := 1) hx hb dX12_tick_61 (by decide) ?_
        refine lv_iadd hx hb dX12_tick_62 ?_
        obtain ⟨σ63, e63, hm⟩ := hw_bs hm
        refine hw_iast hx hb hK hR hS e63 dX12_tick_63 (fun _ _ hR hS => ?_)
        refine hw_aload_n hx hb dX12_tick_64 rfl (hl.at 0 rfl) ?_
        obtain ⟨v65, e65, hm⟩ := hw_bs hm
        refine hw_getP hx hb hw_cf12 hts hown hK hR e65 (by decide) rfl (hts _ hw_m76) (fun _ h9 => h9) dX12_tick_65 ?_
        refine lv_iconst (v := 3) hx hb dX12_tick_68 (by decide) ?_
        obtain ⟨v69, e69, hm⟩ := hw_bs hm
        refine hw_iald hx hb hK hR e69 dX12_tick_69 ?_
        exact hw_rWI hx hb hr hlk hR hS hm dX12_tick_70
      · have hm := hw_ip hm c32
        refine lv_bipush (v := (-4)) hx hb dX12_tick_35 (by decide) ?_
        exact hw_rWI hx hb hr hlk hR hS hm dX12_tick_37
    · have hm := hw_ip hm c18
      refine lv_bipush (v := (-2)) hx hb dX12_tick_21 (by decide) ?_
      exact hw_rWI hx hb hr hlk hR hS hm dX12_tick_23
  · have hm := hw_ip hm c2
    refine hw_aload_n hx hb dX12_tick_5 rfl (hl.at 0 rfl) ?_
    obtain ⟨v6, e6, hm⟩ := hw_bs hm
    refine hw_getP hx hb hw_cf12 hts hown hK hR e6 (by decide) rfl (hts _ hw_m76) (fun _ h9 => h9) dX12_tick_6 ?_
    refine lv_iconst (v := 3) hx hb dX12_tick_9 (by decide) ?_
    refine lv_iconst (v := 0) hx hb dX12_tick_10 (by decide) ?_
    obtain ⟨σ11, e11, hm⟩ := hw_bs hm
    refine hw_iast hx hb hK hR hS e11 dX12_tick_11 (fun _ _ hR hS => ?_)
    refine lv_iconst (v := 0) hx hb dX12_tick_12 (by decide) ?_
    exact hw_rWI hx hb hr hlk hR hS hm dX12_tick_13
set_option maxRecDepth 100000 in
theorem c12_tick (l : Launch) (D : hw_D) (b : Nat) {x0 : Nat} {l1 : Int32} {σ : hw_S} {r : Int32} {τ : hw_S} (hm : m12_tick x0 l1 σ = some (r, τ)) : Met l yX12_tick (Cond.code yX12_tick cX12_tick 2 (some .int) :: wsL_law) rm12_tick (hw_P1 D b σ [hw_vr b (some x0), .int l1]) (hw_QI D b τ r) 0 0 (fun q => b ≤ q) := by
  refine hw_start1 (by decide +kernel) (by exact Nat.le_of_ble_eq_true rfl) ?_
  intro p e s m below meth c ls C0 hR hS hl
  have hl : lv_has ls 2 [(0, hw_vr b (some x0)), (1, .int l1)] := by exact hl
  exact w12_tick_s hm C0 hR hS ⟨hl, (List.forall_mem_cons.mpr ⟨(fun h => by rw [show (hw_vr b (some x0) : Value).category = 1 from (hw_vr_cat _ _)] at h; cases h), (List.forall_mem_cons.mpr ⟨(fun h => absurd (show (1 : Nat) = 2 from h) (by decide)), (fun _ h => absurd h List.not_mem_nil)⟩)⟩)⟩

abbrev rm11_isToldOfRun : Room := { frames := 1, cells := 0, slots := 0, locals := 22 }
def m11_isToldOfRun_b42 (x0 : Nat) (t0 : Int32) (σ : hw_S) : Option Int32 :=
  (hw_tf t0).bind fun _ =>
  some t0
set_option maxRecDepth 100000 in
theorem w11_isToldOfRun_b42 {p : Program} {l : Launch} {e : Env} {s : State} {m : MethodId} {args : Array Value} {below : List Frame} {meth : Method} {c : Code} {D : hw_D} {b : Nat} {r : Int32} (C0 : hw_C p s m args meth c D yX11_isToldOfRun cX11_isToldOfRun 2 (some .boolean)) {x0 : Nat} {t0 : Int32} {σ : hw_S} (hm : m11_isToldOfRun_b42 x0 t0 σ = some r) (hR : hw_R D b σ s.heap) {ls : Array Slot} (hl : hw_L ls 2 255 [(0, hw_vr b (some x0))]) : W p l e rm11_isToldOfRun s m args below meth c s.heap [] 0 0 (MQ below (hw_RI r) args s 0 0 hw_nof) (F0 m 42 ls [.int t0]) := by
  obtain ⟨hx, hb, hml, hr, hown, hts, hlk, hE, hnm⟩ := id C0
  have hown : s.vm.findClass RX11 = some m.cls := hown
  have hK := hE.1
  unfold m11_isToldOfRun_b42 at hm
  obtain ⟨_, z42, hm⟩ := hw_bs hm
  exact hw_rRZ hx hb hr hlk z42 hm dX11_isToldOfRun_42
def m11_isToldOfRun_b41 (x0 : Nat) (σ : hw_S) : Option Int32 :=
  m11_isToldOfRun_b42 x0 (0 : Int32) σ
set_option maxRecDepth 100000 in
theorem w11_isToldOfRun_b41 {p : Program} {l : Launch} {e : Env} {s : State} {m : MethodId} {args : Array Value} {below : List Frame} {meth : Method} {c : Code} {D : hw_D} {b : Nat} {r : Int32} (C0 : hw_C p s m args meth c D yX11_isToldOfRun cX11_isToldOfRun 2 (some .boolean)) {x0 : Nat} {σ : hw_S} (hm : m11_isToldOfRun_b41 x0 σ = some r) (hR : hw_R D b σ s.heap) {ls : Array Slot} (hl : hw_L ls 2 255 [(0, hw_vr b (some x0))]) : W p l e rm11_isToldOfRun s m args below meth c s.heap [] 0 0 (MQ below (hw_RI r) args s 0 0 hw_nof) (F0 m 41 ls []) := by
  obtain ⟨hx, hb, hml, hr, hown, hts, hlk, hE, hnm⟩ := id C0
  have hown : s.vm.findClass RX11 = some m.cls := hown
  have hK := hE.1
  unfold m11_isToldOfRun_b41 at hm
  refine lv_iconst (v := 0) hx hb dX11_isToldOfRun_41 (by decide) ?_
  exact w11_isToldOfRun_b42 C0 hm hR (hl.sub [0] rfl)
def m11_isToldOfRun (x0 : Nat) (l1 : Int32) (σ : hw_S) : Option Int32 :=
  (m11_isWithin l1 (0 : Int32) (2 : Int32)).bind fun v3 =>
  (if v3 = 0 then
  (m11_isWithin l1 (100 : Int32) (399 : Int32)).bind fun v17 =>
  (if v17 = 0 then
  m11_isToldOfRun_b41 x0 σ
  else
  (hw_rm l1 (100 : Int32)).bind fun v26 =>
  (hw_gP (hw_q 11) 0 (some x0) σ).bind fun v28 =>
  (hw_gI (hw_q 8) 7 v28 σ).bind fun v31 =>
  (if v31 ≤ v26 then
  m11_isToldOfRun_b41 x0 σ
  else
  m11_isToldOfRun_b42 x0 (1 : Int32) σ))
  else
  (hw_tf (1 : Int32)).bind fun _ =>
  some (1 : Int32))
set_option maxRecDepth 100000 in
theorem w11_isToldOfRun_s {p : Program} {l : Launch} {e : Env} {s : State} {m : MethodId} {args : Array Value} {below : List Frame} {meth : Method} {c : Code} {D : hw_D} {b : Nat} {x0 : Nat} {l1 : Int32} {σ : hw_S} {r : Int32} (hm : m11_isToldOfRun x0 l1 σ = some r) (C0 : hw_C p s m args meth c D yX11_isToldOfRun cX11_isToldOfRun 2 (some .boolean)) (hR : hw_R D b σ s.heap) {ls : Array Slot} (hl : hw_L ls 2 255 [(0, hw_vr b (some x0)), (1, .int l1)]) : W p l e rm11_isToldOfRun s m args below meth c s.heap [] 0 0 (MQ below (hw_RI r) args s 0 0 hw_nof) (F0 m 0 ls []) := by
  obtain ⟨hx, hb, hml, hr, hown, hts, hlk, hE, hnm⟩ := id C0
  have hown : s.vm.findClass RX11 = some m.cls := hown
  have hK := hE.1
  unfold m11_isToldOfRun at hm
  refine lv_iload_n hx hb dX11_isToldOfRun_0 rfl (hl.at 1 rfl) ?_
  refine lv_iconst (v := 0) hx hb dX11_isToldOfRun_1 (by decide) ?_
  refine lv_iconst (v := 2) hx hb dX11_isToldOfRun_2 (by decide) ?_
  obtain ⟨v3, e3, hm⟩ := hw_bs hm
  refine hw_cRI (va_runS (As := [.int l1, .int (0 : Int32), .int (2 : Int32)]) (rest := []) ⟨hx, hb, hml, hown, hts⟩ (c11_isWithin l D e3) (cwS 3 hts (hw_gS hw_m99 hw_m100 hw_m2 hw_m101) rfl rfl rfl (by decide +kernel) ⟨(Nat.le_of_ble_eq_true rfl), (Nat.le_of_ble_eq_true rfl)⟩) (hw_pre0 hE) rfl rfl hl.sz rfl (lv_room (Nat.le_of_ble_eq_true rfl)) dX11_isToldOfRun_3 ⟨(Nat.le_of_ble_eq_true rfl), (Nat.le_of_ble_eq_true rfl)⟩) ?_
  refine lv_if_eq (tgt := 11) hx hb dX11_isToldOfRun_6 (by decide) (fun c6 => ?_) (fun c6 => ?_)
  · have hm := hw_ip hm c6
    refine lv_iload_n hx hb dX11_isToldOfRun_11 rfl (hl.at 1 rfl) ?_
    refine lv_bipush (v := 100) hx hb dX11_isToldOfRun_12 (by decide) ?_
    refine lv_sipush (v := 399) hx hb dX11_isToldOfRun_14 (by decide) ?_
    obtain ⟨v17, e17, hm⟩ := hw_bs hm
    refine hw_cRI (va_runS (As := [.int l1, .int (100 : Int32), .int (399 : Int32)]) (rest := []) ⟨hx, hb, hml, hown, hts⟩ (c11_isWithin l D e17) (cwS 3 hts (hw_gS hw_m99 hw_m100 hw_m2 hw_m101) rfl rfl rfl (by decide +kernel) ⟨(Nat.le_of_ble_eq_true rfl), (Nat.le_of_ble_eq_true rfl)⟩) (hw_pre0 hE) rfl rfl hl.sz rfl (lv_room (Nat.le_of_ble_eq_true rfl)) dX11_isToldOfRun_17 ⟨(Nat.le_of_ble_eq_true rfl), (Nat.le_of_ble_eq_true rfl)⟩) ?_
    refine lv_if_eq (tgt := 41) hx hb dX11_isToldOfRun_20 (by decide) (fun c20 => ?_) (fun c20 => ?_)
    · have hm := hw_ip hm c20
      exact w11_isToldOfRun_b41 C0 hm hR (hl.sub [0] rfl)
    · have hm := hw_in hm c20
      refine lv_iload_n hx hb dX11_isToldOfRun_23 rfl (hl.at 1 rfl) ?_
      refine lv_bipush (v := 100) hx hb dX11_isToldOfRun_24 (by decide) ?_
      obtain ⟨v26, e26, hm⟩ := hw_bs hm
      refine hw_irem hx hb e26 dX11_isToldOfRun_26 ?_
      refine hw_aload_n hx hb dX11_isToldOfRun_27 rfl (hl.at 0 rfl) ?_
      obtain ⟨v28, e28, hm⟩ := hw_bs hm
      refine hw_getP hx hb hw_cf11 hts hown hK hR e28 (by decide) rfl (hts _ hw_m16) (fun _ h9 => h9) dX11_isToldOfRun_28 ?_
      obtain ⟨v31, e31, hm⟩ := hw_bs hm
      refine hw_getI hx hb hw_cf8 hts hown hK hR e31 (by decide) rfl (hts _ hw_m604) (fun _ h9 => h9) dX11_isToldOfRun_31 ?_
      refine lv_icmp_ge (tgt := 41) hx hb dX11_isToldOfRun_34 (by decide) (fun c34 => ?_) (fun c34 => ?_)
      · have hm := hw_ip hm c34
        exact w11_isToldOfRun_b41 C0 hm hR (hl.sub [0] rfl)
      · have hm := hw_in hm c34
        refine lv_iconst (v := 1) hx hb dX11_isToldOfRun_37 (by decide) ?_
        refine lv_goto (tgt := 42) hx hb dX11_isToldOfRun_38 (by decide) ?_
        exact w11_isToldOfRun_b42 C0 hm hR (hl.sub [0] rfl)
  · have hm := hw_in hm c6
    refine lv_iconst (v := 1) hx hb dX11_isToldOfRun_9 (by decide) ?_
    obtain ⟨_, z10, hm⟩ := hw_bs hm
    exact hw_rRZ hx hb hr hlk z10 hm dX11_isToldOfRun_10
set_option maxRecDepth 100000 in
theorem c11_isToldOfRun (l : Launch) (D : hw_D) (b : Nat) {x0 : Nat} {l1 : Int32} {σ : hw_S} {r : Int32} (hm : m11_isToldOfRun x0 l1 σ = some r) : Met l yX11_isToldOfRun (Cond.code yX11_isToldOfRun cX11_isToldOfRun 2 (some .boolean) :: wsL_law) rm11_isToldOfRun (hw_P1 D b σ [hw_vr b (some x0), .int l1]) (hw_RI r) 0 0 hw_nof := by
  refine hw_start1 (by decide +kernel) (by exact Nat.le_of_ble_eq_true rfl) ?_
  intro p e s m below meth c ls C0 hR hS hl
  have hl : lv_has ls 2 [(0, hw_vr b (some x0)), (1, .int l1)] := by exact hl
  exact w11_isToldOfRun_s hm C0 hR ⟨hl, (List.forall_mem_cons.mpr ⟨(fun h => by rw [show (hw_vr b (some x0) : Value).category = 1 from (hw_vr_cat _ _)] at h; cases h), (List.forall_mem_cons.mpr ⟨(fun h => absurd (show (1 : Nat) = 2 from h) (by decide)), (fun _ h => absurd h List.not_mem_nil)⟩)⟩)⟩

abbrev rm3_isHighAfter : Room := { frames := 1, cells := 0, slots := 0, locals := 21 }
def m3_isHighAfter_b27 (x0 : Nat) (t0 : Int32) (σ : hw_S) : Option Int32 :=
  (hw_tf t0).bind fun _ =>
  some t0
set_option maxRecDepth 100000 in
theorem w3_isHighAfter_b27 {p : Program} {l : Launch} {e : Env} {s : State} {m : MethodId} {args : Array Value} {below : List Frame} {meth : Method} {c : Code} {D : hw_D} {b : Nat} {r : Int32} (C0 : hw_C p s m args meth c D yX3_isHighAfter cX3_isHighAfter 3 (some .boolean)) {x0 : Nat} {t0 : Int32} {σ : hw_S} (hm : m3_isHighAfter_b27 x0 t0 σ = some r) (hR : hw_R D b σ s.heap) {ls : Array Slot} (hl : hw_L ls 3 255 [(0, hw_vr b (some x0))]) : W p l e rm3_isHighAfter s m args below meth c s.heap [] 0 0 (MQ below (hw_RI r) args s 0 0 hw_nof) (F0 m 27 ls [.int t0]) := by
  obtain ⟨hx, hb, hml, hr, hown, hts, hlk, hE, hnm⟩ := id C0
  have hown : s.vm.findClass RX3 = some m.cls := hown
  have hK := hE.1
  unfold m3_isHighAfter_b27 at hm
  obtain ⟨_, z27, hm⟩ := hw_bs hm
  exact hw_rRZ hx hb hr hlk z27 hm dX3_isHighAfter_27
def m3_isHighAfter_b22 (x0 : Nat) (σ : hw_S) : Option Int32 :=
  m3_isHighAfter_b27 x0 (1 : Int32) σ
set_option maxRecDepth 100000 in
theorem w3_isHighAfter_b22 {p : Program} {l : Launch} {e : Env} {s : State} {m : MethodId} {args : Array Value} {below : List Frame} {meth : Method} {c : Code} {D : hw_D} {b : Nat} {r : Int32} (C0 : hw_C p s m args meth c D yX3_isHighAfter cX3_isHighAfter 3 (some .boolean)) {x0 : Nat} {σ : hw_S} (hm : m3_isHighAfter_b22 x0 σ = some r) (hR : hw_R D b σ s.heap) {ls : Array Slot} (hl : hw_L ls 3 255 [(0, hw_vr b (some x0))]) : W p l e rm3_isHighAfter s m args below meth c s.heap [] 0 0 (MQ below (hw_RI r) args s 0 0 hw_nof) (F0 m 22 ls []) := by
  obtain ⟨hx, hb, hml, hr, hown, hts, hlk, hE, hnm⟩ := id C0
  have hown : s.vm.findClass RX3 = some m.cls := hown
  have hK := hE.1
  unfold m3_isHighAfter_b22 at hm
  refine lv_iconst (v := 1) hx hb dX3_isHighAfter_22 (by decide) ?_
  refine lv_goto (tgt := 27) hx hb dX3_isHighAfter_23 (by decide) ?_
  exact w3_isHighAfter_b27 C0 hm hR (hl.sub [0] rfl)
def m3_isHighAfter_b26 (x0 : Nat) (σ : hw_S) : Option Int32 :=
  m3_isHighAfter_b27 x0 (0 : Int32) σ
set_option maxRecDepth 100000 in
theorem w3_isHighAfter_b26 {p : Program} {l : Launch} {e : Env} {s : State} {m : MethodId} {args : Array Value} {below : List Frame} {meth : Method} {c : Code} {D : hw_D} {b : Nat} {r : Int32} (C0 : hw_C p s m args meth c D yX3_isHighAfter cX3_isHighAfter 3 (some .boolean)) {x0 : Nat} {σ : hw_S} (hm : m3_isHighAfter_b26 x0 σ = some r) (hR : hw_R D b σ s.heap) {ls : Array Slot} (hl : hw_L ls 3 255 [(0, hw_vr b (some x0))]) : W p l e rm3_isHighAfter s m args below meth c s.heap [] 0 0 (MQ below (hw_RI r) args s 0 0 hw_nof) (F0 m 26 ls []) := by
  obtain ⟨hx, hb, hml, hr, hown, hts, hlk, hE, hnm⟩ := id C0
  have hown : s.vm.findClass RX3 = some m.cls := hown
  have hK := hE.1
  unfold m3_isHighAfter_b26 at hm
  refine lv_iconst (v := 0) hx hb dX3_isHighAfter_26 (by decide) ?_
  exact w3_isHighAfter_b27 C0 hm hR (hl.sub [0] rfl)
def m3_isHighAfter (x0 : Nat) (l1 : Int32) (l2 : Int32) (σ : hw_S) : Option Int32 :=
  (hw_rv hw_qL (some x0) σ).bind fun a2 =>
  (m3_isHighAt x0 l2 σ).bind fun v2 =>
  (if v2 = 0 then
  (if l1 = 0 then
  m3_isHighAfter_b26 x0 σ
  else
  (hw_gI hw_qL 2 (some x0) σ).bind fun v15 =>
  (if l2 < ((5 : Int32) * v15) then
  m3_isHighAfter_b26 x0 σ
  else
  m3_isHighAfter_b22 x0 σ))
  else
  m3_isHighAfter_b22 x0 σ)
set_option maxRecDepth 100000 in
theorem w3_isHighAfter_s {p : Program} {l : Launch} {e : Env} {s : State} {m : MethodId} {args : Array Value} {below : List Frame} {meth : Method} {c : Code} {D : hw_D} {b : Nat} {x0 : Nat} {l1 : Int32} {l2 : Int32} {σ : hw_S} {r : Int32} (hm : m3_isHighAfter x0 l1 l2 σ = some r) (C0 : hw_C p s m args meth c D yX3_isHighAfter cX3_isHighAfter 3 (some .boolean)) (hR : hw_R D b σ s.heap) {ls : Array Slot} (hl : hw_L ls 3 255 [(0, hw_vr b (some x0)), (1, .int l1), (2, .int l2)]) : W p l e rm3_isHighAfter s m args below meth c s.heap [] 0 0 (MQ below (hw_RI r) args s 0 0 hw_nof) (F0 m 0 ls []) := by
  obtain ⟨hx, hb, hml, hr, hown, hts, hlk, hE, hnm⟩ := id C0
  have hown : s.vm.findClass RX3 = some m.cls := hown
  have hK := hE.1
  unfold m3_isHighAfter at hm
  refine hw_aload_n hx hb dX3_isHighAfter_0 rfl (hl.at 0 rfl) ?_
  refine lv_iload_n hx hb dX3_isHighAfter_1 rfl (hl.at 2 rfl) ?_
  obtain ⟨a2, g2, hm⟩ := hw_bs hm
  obtain ⟨rfl, ht2⟩ := hw_rv_th g2
  obtain ⟨ci2, C2, f2_1, f2_2, f2_3, f2_4⟩ := hw_sel7 (y := fun _ => yX3_isHighAt) ht2 hw_m487 hw_m490 hw_m491 hw_m493 hw_m494 hw_m495 hw_m496
  obtain ⟨v2, e2, hm⟩ := hw_bs hm
  refine hw_cRI (va_runU (C := C2) (owner := RX3) (As := [.int l2]) (rest := []) ⟨hx, hb, hml, hown, hts⟩ (c3_isHighAt l D b e2) (va_cwU 1 hts (hw_gU hw_m627 hw_m486 f2_4 hw_m488 hw_m285 hw_m489) rfl rfl rfl rfl (by decide +kernel) ⟨(Nat.le_of_ble_eq_true rfl), (Nat.le_of_ble_eq_true rfl)⟩) (hw_preV hE hR f2_3 f2_2 f2_1) rfl rfl hl.sz rfl (lv_room (Nat.le_of_ble_eq_true rfl)) dX3_isHighAfter_2 ⟨(Nat.le_of_ble_eq_true rfl), (Nat.le_of_ble_eq_true rfl)⟩) ?_
  refine lv_if_ne (tgt := 22) hx hb dX3_isHighAfter_5 (by decide) (fun c5 => ?_) (fun c5 => ?_)
  · have hm := hw_in hm c5
    exact w3_isHighAfter_b22 C0 hm hR (hl.sub [0] rfl)
  · have hm := hw_ip hm c5
    refine lv_iload_n hx hb dX3_isHighAfter_8 rfl (hl.at 1 rfl) ?_
    refine lv_if_eq (tgt := 26) hx hb dX3_isHighAfter_9 (by decide) (fun c9 => ?_) (fun c9 => ?_)
    · have hm := hw_ip hm c9
      exact w3_isHighAfter_b26 C0 hm hR (hl.sub [0] rfl)
    · have hm := hw_in hm c9
      refine lv_iload_n hx hb dX3_isHighAfter_12 rfl (hl.at 2 rfl) ?_
      refine lv_iconst (v := 5) hx hb dX3_isHighAfter_13 (by decide) ?_
      refine hw_aload_n hx hb dX3_isHighAfter_14 rfl (hl.at 0 rfl) ?_
      obtain ⟨v15, e15, hm⟩ := hw_bs hm
      refine hw_getI hx hb hw_cfL hts hown hK hR e15 (by decide) rfl (hts _ hw_m296) (fun _ h9 => h9) dX3_isHighAfter_15 ?_
      refine lv_imul hx hb dX3_isHighAfter_18 ?_
      refine lv_icmp_lt (tgt := 26) hx hb dX3_isHighAfter_19 (by decide) (fun c19 => ?_) (fun c19 => ?_)
      · have hm := hw_ip hm c19
        exact w3_isHighAfter_b26 C0 hm hR (hl.sub [0] rfl)
      · have hm := hw_in hm c19
        exact w3_isHighAfter_b22 C0 hm hR (hl.sub [0] rfl)
set_option maxRecDepth 100000 in
theorem c3_isHighAfter (l : Launch) (D : hw_D) (b : Nat) {x0 : Nat} {l1 : Int32} {l2 : Int32} {σ : hw_S} {r : Int32} (hm : m3_isHighAfter x0 l1 l2 σ = some r) : Met l yX3_isHighAfter (Cond.code yX3_isHighAfter cX3_isHighAfter 3 (some .boolean) :: wsL_law) rm3_isHighAfter (hw_P1 D b σ [hw_vr b (some x0), .int l1, .int l2]) (hw_RI r) 0 0 hw_nof := by
  refine hw_start1 (by decide +kernel) (by exact Nat.le_of_ble_eq_true rfl) ?_
  intro p e s m below meth c ls C0 hR hS hl
  have hl : lv_has ls 3 [(0, hw_vr b (some x0)), (1, .int l1), (2, .int l2)] := by exact hl
  exact w3_isHighAfter_s hm C0 hR ⟨hl, (List.forall_mem_cons.mpr ⟨(fun h => by rw [show (hw_vr b (some x0) : Value).category = 1 from (hw_vr_cat _ _)] at h; cases h), (List.forall_mem_cons.mpr ⟨(fun h => absurd (show (1 : Nat) = 2 from h) (by decide)), (List.forall_mem_cons.mpr ⟨(fun h => absurd (show (1 : Nat) = 2 from h) (by decide)), (fun _ h => absurd h List.not_mem_nil)⟩)⟩)⟩)⟩

abbrev rm3_stiffAt : Room := { frames := 0, cells := 0, slots := 0, locals := 0 }
def m3_stiffAt (x0 : Nat) (l1 : Option Nat) (l2 : Int32) (σ : hw_S) : Option Int32 :=
  (hw_gI (hw_q 9) 0 l1 σ).bind fun v1 =>
  some v1
set_option maxRecDepth 100000 in
theorem w3_stiffAt_s {p : Program} {l : Launch} {e : Env} {s : State} {m : MethodId} {args : Array Value} {below : List Frame} {meth : Method} {c : Code} {D : hw_D} {b : Nat} {x0 : Nat} {l1 : Option Nat} {l2 : Int32} {σ : hw_S} {r : Int32} (hm : m3_stiffAt x0 l1 l2 σ = some r) (C0 : hw_C p s m args meth c D yX3_stiffAt cX3_stiffAt 3 (some .int)) (hR : hw_R D b σ s.heap) {ls : Array Slot} (hl : hw_L ls 3 255 [(0, hw_vr b (some x0)), (1, hw_vr b l1), (2, .int l2)]) : W p l e rm3_stiffAt s m args below meth c s.heap [] 0 0 (MQ below (hw_RI r) args s 0 0 hw_nof) (F0 m 0 ls []) := by
  obtain ⟨hx, hb, hml, hr, hown, hts, hlk, hE, hnm⟩ := id C0
  have hown : s.vm.findClass RX3 = some m.cls := hown
  have hK := hE.1
  unfold m3_stiffAt at hm
  refine hw_aload_n hx hb dX3_stiffAt_0 rfl (hl.at 1 rfl) ?_
  obtain ⟨v1, e1, hm⟩ := hw_bs hm
  refine hw_getI hx hb hw_cf9 hts hown hK hR e1 (by decide) rfl (hts _ hw_m470) (fun _ h9 => h9) dX3_stiffAt_1 ?_
  exact hw_rRI hx hb hr hlk hm dX3_stiffAt_4
set_option maxRecDepth 100000 in
theorem c3_stiffAt (l : Launch) (D : hw_D) (b : Nat) {x0 : Nat} {l1 : Option Nat} {l2 : Int32} {σ : hw_S} {r : Int32} (hm : m3_stiffAt x0 l1 l2 σ = some r) : Met l yX3_stiffAt (Cond.code yX3_stiffAt cX3_stiffAt 3 (some .int) :: wsL_law) rm3_stiffAt (hw_P1 D b σ [hw_vr b (some x0), hw_vr b l1, .int l2]) (hw_RI r) 0 0 hw_nof := by
  refine hw_start1 (by decide +kernel) (by cases l1 <;> exact Nat.le_of_ble_eq_true rfl) ?_
  intro p e s m below meth c ls C0 hR hS hl
  have hl : lv_has ls 3 [(0, hw_vr b (some x0)), (1, hw_vr b l1), (2, .int l2)] := by cases l1 <;> exact hl
  exact w3_stiffAt_s hm C0 hR ⟨hl, (List.forall_mem_cons.mpr ⟨(fun h => by rw [show (hw_vr b (some x0) : Value).category = 1 from (hw_vr_cat _ _)] at h; cases h), (List.forall_mem_cons.mpr ⟨(fun h => by rw [show (hw_vr b l1 : Value).category = 1 from (hw_vr_cat _ _)] at h; cases h), (List.forall_mem_cons.mpr ⟨(fun h => absurd (show (1 : Nat) = 2 from h) (by decide)), (fun _ h => absurd h List.not_mem_nil)⟩)⟩)⟩)⟩

abbrev rm6_stiffAt : Room := { frames := 1, cells := 0, slots := 0, locals := 21 }
def m6_stiffAt (x0 : Nat) (l1 : Option Nat) (l2 : Int32) (σ : hw_S) : Option Int32 :=
  (hw_gI (hw_q 9) 0 l1 σ).bind fun v3 =>
  (hw_gI hw_qL 4 (some x0) σ).bind fun v7 =>
  some (hw_min (99 : Int32) (v3 + (v7 * l2)))
set_option maxRecDepth 100000 in
theorem w6_stiffAt_s {p : Program} {l : Launch} {e : Env} {s : State} {m : MethodId} {args : Array Value} {below : List Frame} {meth : Method} {c : Code} {D : hw_D} {b : Nat} {x0 : Nat} {l1 : Option Nat} {l2 : Int32} {σ : hw_S} {r : Int32} (hm : m6_stiffAt x0 l1 l2 σ = some r) (C0 : hw_C p s m args meth c D yX6_stiffAt cX6_stiffAt 3 (some .int)) (hR : hw_R D b σ s.heap) {ls : Array Slot} (hl : hw_L ls 3 255 [(0, hw_vr b (some x0)), (1, hw_vr b l1), (2, .int l2)]) : W p l e rm6_stiffAt s m args below meth c s.heap [] 0 0 (MQ below (hw_RI r) args s 0 0 hw_nof) (F0 m 0 ls []) := by
  obtain ⟨hx, hb, hml, hr, hown, hts, hlk, hE, hnm⟩ := id C0
  have hown : s.vm.findClass RX6 = some m.cls := hown
  have hK := hE.1
  unfold m6_stiffAt at hm
  refine lv_bipush (v := 99) hx hb dX6_stiffAt_0 (by decide) ?_
  refine hw_aload_n hx hb dX6_stiffAt_2 rfl (hl.at 1 rfl) ?_
  obtain ⟨v3, e3, hm⟩ := hw_bs hm
  refine hw_getI hx hb hw_cf9 hts hown hK hR e3 (by decide) rfl (hts _ hw_m650) (fun _ h9 => h9) dX6_stiffAt_3 ?_
  refine hw_aload_n hx hb dX6_stiffAt_6 rfl (hl.at 0 rfl) ?_
  obtain ⟨v7, e7, hm⟩ := hw_bs hm
  refine hw_getI hx hb hw_cfL hts hown hK hR e7 (by decide) rfl (hts _ hw_m651) (fun x9 h9 => u_same (hts _ hw_m652) x9 h9) dX6_stiffAt_7 ?_
  refine lv_iload_n hx hb dX6_stiffAt_10 rfl (hl.at 2 rfl) ?_
  refine lv_imul hx hb dX6_stiffAt_11 ?_
  refine lv_iadd hx hb dX6_stiffAt_12 ?_
  refine hw_mmin hx hb hml hl hown (hts _ hw_m653) (hts _ hw_m156) (hts _ hw_m157) (hts _ hw_m158) (Nat.le_of_ble_eq_true rfl) ⟨Nat.le_of_ble_eq_true rfl, (Nat.le_of_ble_eq_true rfl)⟩ (Nat.le_of_ble_eq_true rfl) (Nat.le_of_ble_eq_true rfl) dX6_stiffAt_13 ?_
  exact hw_rRI hx hb hr hlk hm dX6_stiffAt_16
set_option maxRecDepth 100000 in
theorem c6_stiffAt (l : Launch) (D : hw_D) (b : Nat) {x0 : Nat} {l1 : Option Nat} {l2 : Int32} {σ : hw_S} {r : Int32} (hm : m6_stiffAt x0 l1 l2 σ = some r) : Met l yX6_stiffAt (Cond.code yX6_stiffAt cX6_stiffAt 3 (some .int) :: wsL_law) rm6_stiffAt (hw_P1 D b σ [hw_vr b (some x0), hw_vr b l1, .int l2]) (hw_RI r) 0 0 hw_nof := by
  refine hw_start1 (by decide +kernel) (by cases l1 <;> exact Nat.le_of_ble_eq_true rfl) ?_
  intro p e s m below meth c ls C0 hR hS hl
  have hl : lv_has ls 3 [(0, hw_vr b (some x0)), (1, hw_vr b l1), (2, .int l2)] := by cases l1 <;> exact hl
  exact w6_stiffAt_s hm C0 hR ⟨hl, (List.forall_mem_cons.mpr ⟨(fun h => by rw [show (hw_vr b (some x0) : Value).category = 1 from (hw_vr_cat _ _)] at h; cases h), (List.forall_mem_cons.mpr ⟨(fun h => by rw [show (hw_vr b l1 : Value).category = 1 from (hw_vr_cat _ _)] at h; cases h), (List.forall_mem_cons.mpr ⟨(fun h => absurd (show (1 : Nat) = 2 from h) (by decide)), (fun _ h => absurd h List.not_mem_nil)⟩)⟩)⟩)⟩

abbrev rm11_heapBehind : Room := { frames := 0, cells := 0, slots := 0, locals := 0 }
def m11_heapBehind_b18 (t0 : Int32) : Option Int32 :=
  some t0
set_option maxRecDepth 100000 in
theorem w11_heapBehind_b18 {p : Program} {l : Launch} {e : Env} {s : State} {m : MethodId} {args : Array Value} {below : List Frame} {meth : Method} {c : Code} {D : hw_D} {r : Int32} (C0 : hw_C p s m args meth c D yX11_heapBehind cX11_heapBehind 3 (some .int)) {t0 : Int32} (hm : m11_heapBehind_b18 t0 = some r) {ls : Array Slot} (hl : hw_L ls 3 255 []) : W p l e rm11_heapBehind s m args below meth c s.heap [] 0 0 (MQ below (hw_RI r) args s 0 0 hw_nof) (F0 m 18 ls [.int t0]) := by
  obtain ⟨hx, hb, hml, hr, hown, hts, hlk, hE, hnm⟩ := id C0
  have hown : s.vm.findClass RX11 = some m.cls := hown
  unfold m11_heapBehind_b18 at hm
  exact hw_rRI hx hb hr hlk hm dX11_heapBehind_18
def m11_heapBehind (l0 : Int32) (l1 : Int32) (l2 : Int32) : Option Int32 :=
  (if l1 = 0 then
  some (l0 + l2)
  else
  (if l1 = (4 : Int32) then
  m11_heapBehind_b18 (0 : Int32)
  else
  m11_heapBehind_b18 l0))
set_option maxRecDepth 100000 in
theorem w11_heapBehind_s {p : Program} {l : Launch} {e : Env} {s : State} {m : MethodId} {args : Array Value} {below : List Frame} {meth : Method} {c : Code} {D : hw_D} {l0 : Int32} {l1 : Int32} {l2 : Int32} {r : Int32} (hm : m11_heapBehind l0 l1 l2 = some r) (C0 : hw_C p s m args meth c D yX11_heapBehind cX11_heapBehind 3 (some .int)) {ls : Array Slot} (hl : hw_L ls 3 255 [(0, .int l0), (1, .int l1), (2, .int l2)]) : W p l e rm11_heapBehind s m args below meth c s.heap [] 0 0 (MQ below (hw_RI r) args s 0 0 hw_nof) (F0 m 0 ls []) := by
  obtain ⟨hx, hb, hml, hr, hown, hts, hlk, hE, hnm⟩ := id C0
  have hown : s.vm.findClass RX11 = some m.cls := hown
  unfold m11_heapBehind at hm
  refine lv_iload_n hx hb dX11_heapBehind_0 rfl (hl.at 1 rfl) ?_
  refine lv_if_ne (tgt := 8) hx hb dX11_heapBehind_1 (by decide) (fun c1 => ?_) (fun c1 => ?_)
  · have hm := hw_in hm c1
    refine lv_iload_n hx hb dX11_heapBehind_8 rfl (hl.at 1 rfl) ?_
    refine lv_iconst (v := 4) hx hb dX11_heapBehind_9 (by decide) ?_
    refine lv_icmp_ne (tgt := 17) hx hb dX11_heapBehind_10 (by decide) (fun c10 => ?_) (fun c10 => ?_)
    · have hm := hw_in hm c10
      refine lv_iload_n hx hb dX11_heapBehind_17 rfl (hl.at 0 rfl) ?_
      exact w11_heapBehind_b18 C0 hm (hl.sub [] rfl)
    · have hm := hw_ip hm c10
      refine lv_iconst (v := 0) hx hb dX11_heapBehind_13 (by decide) ?_
      refine lv_goto (tgt := 18) hx hb dX11_heapBehind_14 (by decide) ?_
      exact w11_heapBehind_b18 C0 hm (hl.sub [] rfl)
  · have hm := hw_ip hm c1
    refine lv_iload_n hx hb dX11_heapBehind_4 rfl (hl.at 0 rfl) ?_
    refine lv_iload_n hx hb dX11_heapBehind_5 rfl (hl.at 2 rfl) ?_
    refine lv_iadd hx hb dX11_heapBehind_6 ?_
    exact hw_rRI hx hb hr hlk hm dX11_heapBehind_7
set_option maxRecDepth 100000 in
theorem c11_heapBehind (l : Launch) (D : hw_D) {l0 : Int32} {l1 : Int32} {l2 : Int32} {r : Int32} (hm : m11_heapBehind l0 l1 l2 = some r) : Met l yX11_heapBehind (Cond.code yX11_heapBehind cX11_heapBehind 3 (some .int) :: wsL_law) rm11_heapBehind (hw_P0 D [.int l0, .int l1, .int l2]) (hw_RI r) 0 0 hw_nof := by
  refine hw_start0 (by decide +kernel) (by exact Nat.le_of_ble_eq_true rfl) ?_
  intro p e s m below meth c ls C0 hl
  have hl : lv_has ls 3 [(0, .int l0), (1, .int l1), (2, .int l2)] := by exact hl
  exact w11_heapBehind_s hm C0 ⟨hl, (List.forall_mem_cons.mpr ⟨(fun h => absurd (show (1 : Nat) = 2 from h) (by decide)), (List.forall_mem_cons.mpr ⟨(fun h => absurd (show (1 : Nat) = 2 from h) (by decide)), (List.forall_mem_cons.mpr ⟨(fun h => absurd (show (1 : Nat) = 2 from h) (by decide)), (fun _ h => absurd h List.not_mem_nil)⟩)⟩)⟩)⟩

def mv_stiffAt (x0 : Nat) (l1 : Option Nat) (l2 : Int32) (σ : hw_S) : Option Int32 :=
  (if σ.1 x0 = 1 then m3_stiffAt x0 l1 l2 σ else (if σ.1 x0 = 2 then m3_stiffAt x0 l1 l2 σ else (if σ.1 x0 = 3 then m3_stiffAt x0 l1 l2 σ else (if σ.1 x0 = 4 then m3_stiffAt x0 l1 l2 σ else (if σ.1 x0 = 6 then m3_stiffAt x0 l1 l2 σ else (if σ.1 x0 = 7 then m6_stiffAt x0 l1 l2 σ else (if σ.1 x0 = 8 then m3_stiffAt x0 l1 l2 σ else  none)))))))
theorem mv_stiffAt_0 {x0 : Nat} {l1 : Option Nat} {l2 : Int32} {σ : hw_S} (h : σ.1 x0 = 1) : mv_stiffAt x0 l1 l2 σ = m3_stiffAt x0 l1 l2 σ := by simp [mv_stiffAt, h]
theorem mv_stiffAt_1 {x0 : Nat} {l1 : Option Nat} {l2 : Int32} {σ : hw_S} (h : σ.1 x0 = 2) : mv_stiffAt x0 l1 l2 σ = m3_stiffAt x0 l1 l2 σ := by simp [mv_stiffAt, h]
theorem mv_stiffAt_2 {x0 : Nat} {l1 : Option Nat} {l2 : Int32} {σ : hw_S} (h : σ.1 x0 = 3) : mv_stiffAt x0 l1 l2 σ = m3_stiffAt x0 l1 l2 σ := by simp [mv_stiffAt, h]
theorem mv_stiffAt_3 {x0 : Nat} {l1 : Option Nat} {l2 : Int32} {σ : hw_S} (h : σ.1 x0 = 4) : mv_stiffAt x0 l1 l2 σ = m3_stiffAt x0 l1 l2 σ := by simp [mv_stiffAt, h]
theorem mv_stiffAt_5 {x0 : Nat} {l1 : Option Nat} {l2 : Int32} {σ : hw_S} (h : σ.1 x0 = 6) : mv_stiffAt x0 l1 l2 σ = m3_stiffAt x0 l1 l2 σ := by simp [mv_stiffAt, h]
theorem mv_stiffAt_6 {x0 : Nat} {l1 : Option Nat} {l2 : Int32} {σ : hw_S} (h : σ.1 x0 = 7) : mv_stiffAt x0 l1 l2 σ = m6_stiffAt x0 l1 l2 σ := by simp [mv_stiffAt, h]
theorem mv_stiffAt_7 {x0 : Nat} {l1 : Option Nat} {l2 : Int32} {σ : hw_S} (h : σ.1 x0 = 8) : mv_stiffAt x0 l1 l2 σ = m3_stiffAt x0 l1 l2 σ := by simp [mv_stiffAt, h]

abbrev rm11_goThroughRun : Room := { frames := 4, cells := 0, slots := 0, locals := 95 }
def m11_goThroughRun_b105 (k11 : Nat → Option Nat → Option Nat → Int32 → Int32 → Int32 → Int32 → hw_S → Option (Int32 × hw_S)) (x0 : Nat) (l1 : Option Nat) (l2 : Option Nat) (l3 : Int32) (l4 : Int32) (l5 : Int32) (l6 : Int32) (l8 : Int32) (l9 : Int32) (σ : hw_S) : Option (Int32 × hw_S) :=
  (hw_gP (hw_q 11) 6 (some x0) σ).bind fun v106 =>
  (hw_sI v106 l6 l8 σ).bind fun σ113 =>
  (hw_gP (hw_q 11) 5 (some x0) σ113).bind fun v115 =>
  (hw_sI v115 l6 l9 σ113).bind fun σ122 =>
  (hw_gP (hw_q 11) 7 (some x0) σ122).bind fun v124 =>
  (hw_sI v124 l6 l4 σ122).bind fun σ131 =>
  k11 x0 l1 l2 l3 l4 l5 (l6 + 1) σ131
set_option maxRecDepth 100000 in
theorem w11_goThroughRun_b105 {p : Program} {l : Launch} {e : Env} {s : State} {m : MethodId} {args : Array Value} {below : List Frame} {meth : Method} {c : Code} {D : hw_D} {b : Nat} {k11 : Nat → Option Nat → Option Nat → Int32 → Int32 → Int32 → Int32 → hw_S → Option (Int32 × hw_S)} {r : Int32} {τ : hw_S} (C0 : hw_C p s m args meth c D yX11_goThroughRun cX11_goThroughRun 10 (some .int)) (hk11 : ∀ {x0 : Nat} {l1 : Option Nat} {l2 : Option Nat} {l3 : Int32} {l4 : Int32} {l5 : Int32} {l6 : Int32} {σ : hw_S} {H : Heap} {locs : List Loc} {ls : Array Slot}, k11 x0 l1 l2 l3 l4 l5 l6 σ = some (r, τ) → hw_R D b σ H → va_S (fun q => b ≤ q) s.heap H locs → hw_L ls 10 255 [(0, hw_vr b (some x0)), (1, hw_vr b l1), (2, hw_vr b l2), (3, .int l3), (4, .int l4), (5, .int l5), (6, .int l6)] → W p l e rm11_goThroughRun s m args below meth c H locs 0 0 (MQ below (hw_QI D b τ r) args s 0 0 (fun q => b ≤ q)) (F0 m 11 ls [])) {x0 : Nat} {l1 : Option Nat} {l2 : Option Nat} {l3 : Int32} {l4 : Int32} {l5 : Int32} {l6 : Int32} {l8 : Int32} {l9 : Int32} {σ : hw_S} {H : Heap} {locs : List Loc} (hm : m11_goThroughRun_b105 k11 x0 l1 l2 l3 l4 l5 l6 l8 l9 σ = some (r, τ)) (hR : hw_R D b σ H) (hS : va_S (fun q => b ≤ q) s.heap H locs) {ls : Array Slot} (hl : hw_L ls 10 255 [(0, hw_vr b (some x0)), (1, hw_vr b l1), (2, hw_vr b l2), (3, .int l3), (4, .int l4), (5, .int l5), (6, .int l6), (8, .int l8), (9, .int l9)]) : W p l e rm11_goThroughRun s m args below meth c H locs 0 0 (MQ below (hw_QI D b τ r) args s 0 0 (fun q => b ≤ q)) (F0 m 105 ls []) := by
  obtain ⟨hx, hb, hml, hr, hown, hts, hlk, hE, hnm⟩ := id C0
  have hown : s.vm.findClass RX11 = some m.cls := hown
  have hK := hE.1
  unfold m11_goThroughRun_b105 at hm
  refine hw_aload_n hx hb dX11_goThroughRun_105 rfl (hl.at 0 rfl) ?_
  obtain ⟨v106, e106, hm⟩ := hw_bs hm
  refine hw_getP hx hb hw_cf11 hts hown hK hR e106 (by decide) rfl (hts _ hw_m29) (fun _ h9 => h9) dX11_goThroughRun_106 ?_
  refine lv_iload hx hb dX11_goThroughRun_109 (hl.at 6 rfl) ?_
  refine lv_iload hx hb dX11_goThroughRun_111 (hl.at 7 rfl) ?_
  obtain ⟨σ113, e113, hm⟩ := hw_bs hm
  refine hw_iast hx hb hK hR hS e113 dX11_goThroughRun_113 (fun _ _ hR hS => ?_)
  refine hw_aload_n hx hb dX11_goThroughRun_114 rfl (hl.at 0 rfl) ?_
  obtain ⟨v115, e115, hm⟩ := hw_bs hm
  refine hw_getP hx hb hw_cf11 hts hown hK hR e115 (by decide) rfl (hts _ hw_m28) (fun _ h9 => h9) dX11_goThroughRun_115 ?_
  refine lv_iload hx hb dX11_goThroughRun_118 (hl.at 6 rfl) ?_
  refine lv_iload hx hb dX11_goThroughRun_120 (hl.at 8 rfl) ?_
  obtain ⟨σ122, e122, hm⟩ := hw_bs hm
  refine hw_iast hx hb hK hR hS e122 dX11_goThroughRun_122 (fun _ _ hR hS => ?_)
  refine hw_aload_n hx hb dX11_goThroughRun_123 rfl (hl.at 0 rfl) ?_
  obtain ⟨v124, e124, hm⟩ := hw_bs hm
  refine hw_getP hx hb hw_cf11 hts hown hK hR e124 (by decide) rfl (hts _ hw_m30) (fun _ h9 => h9) dX11_goThroughRun_124 ?_
  refine lv_iload hx hb dX11_goThroughRun_127 (hl.at 6 rfl) ?_
  refine lv_iload hx hb dX11_goThroughRun_129 (hl.at 4 rfl) ?_
  obtain ⟨σ131, e131, hm⟩ := hw_bs hm
  refine hw_iast hx hb hK hR hS e131 dX11_goThroughRun_131 (fun _ _ hR hS => ?_)
  refine hw_iinc (v := (l6 + 1)) (lv' := [(6, .int (l6 + 1)), (0, hw_vr b (some x0)), (1, hw_vr b l1), (2, hw_vr b l2), (3, .int l3), (4, .int l4), (5, .int l5), (8, .int l8), (9, .int l9)]) hx hb dX11_goThroughRun_132 hl (k := 6) rfl rfl (by decide) (by decide) rfl (fun ls hl => ?_)
  refine lv_goto (tgt := 11) hx hb dX11_goThroughRun_135 (by decide) ?_
  exact hk11 hm hR hS (hl.sub [1, 2, 3, 4, 5, 6, 0] rfl)
def m11_goThroughRun_b11 : Nat → Nat → Option Nat → Option Nat → Int32 → Int32 → Int32 → Int32 → hw_S → Option (Int32 × hw_S)
  | 0, _, _, _, _, _, _, _, _ => none
  | n + 1, x0, l1, l2, l3, l4, l5, l6, σ =>
  (hw_gP (hw_q 11) 0 (some x0) σ).bind fun v14 =>
  (hw_gI (hw_q 8) 7 v14 σ).bind fun v17 =>
  (if v17 ≤ l6 then
  some (l5, σ)
  else
  (hw_gP (hw_q 11) 0 (some x0) σ).bind fun v24 =>
  (hw_gP (hw_q 8) 6 v24 σ).bind fun v27 =>
  (hw_aI 0 v27 l6 σ).bind fun v32 =>
  (m11_heightOf v32).bind fun v39 =>
  (hw_rv hw_qL l1 σ).bind fun a42 =>
  (m3_isHighAfter a42 l3 v39 σ).bind fun v42 =>
  (hw_rv hw_qL l1 σ).bind fun a52 =>
  (mv_stiffAt a52 l2 l6 σ).bind fun v52 =>
  (hw_rv hw_qL (some a52) σ).bind fun a58 =>
  (m3_turnsIn a52 l2 v52 v32 v42 σ).bind fun v58 =>
  (m11_paceOf v32).bind fun v68 =>
  (hw_rv hw_qL l1 σ).bind fun a71 =>
  (m3_formAt a71 v58 v68 σ).bind fun v71 =>
  (m11_flowOf v32).bind fun v82 =>
  (m11_heapBehind l4 v71 v82).bind fun v85 =>
  (hw_gI hw_qL 3 l1 σ).bind fun v93 =>
  (if v85 ≤ v93 then
  m11_goThroughRun_b105 (m11_goThroughRun_b11 n) x0 l1 l2 v42 v85 l5 l6 v58 v71 σ
  else
  m11_goThroughRun_b105 (m11_goThroughRun_b11 n) x0 l1 l2 v42 (0 : Int32) (l5 + 1) l6 v58 v71 σ))
set_option maxRecDepth 100000 in
theorem w11_goThroughRun_b11 {p : Program} {l : Launch} {e : Env} {s : State} {m : MethodId} {args : Array Value} {below : List Frame} {meth : Method} {c : Code} {D : hw_D} {b : Nat} {r : Int32} {τ : hw_S} (C0 : hw_C p s m args meth c D yX11_goThroughRun cX11_goThroughRun 10 (some .int)) : ∀ (n : Nat) {x0 : Nat} {l1 : Option Nat} {l2 : Option Nat} {l3 : Int32} {l4 : Int32} {l5 : Int32} {l6 : Int32} {σ : hw_S} {H : Heap} {locs : List Loc} {ls : Array Slot}, m11_goThroughRun_b11 n x0 l1 l2 l3 l4 l5 l6 σ = some (r, τ) → hw_R D b σ H → va_S (fun q => b ≤ q) s.heap H locs → hw_L ls 10 255 [(0, hw_vr b (some x0)), (1, hw_vr b l1), (2, hw_vr b l2), (3, .int l3), (4, .int l4), (5, .int l5), (6, .int l6)] → W p l e rm11_goThroughRun s m args below meth c H locs 0 0 (MQ below (hw_QI D b τ r) args s 0 0 (fun q => b ≤ q)) (F0 m 11 ls []) := by
  obtain ⟨hx, hb, hml, hr, hown, hts, hlk, hE, hnm⟩ := id C0
  have hown : s.vm.findClass RX11 = some m.cls := hown
  have hK := hE.1
  intro n
  induction n with
  | zero => intro _ _ _ _ _ _ _ _ _ _ _ hm; cases hm
  | succ n ih =>
    intro x0 l1 l2 l3 l4 l5 l6 σ H locs ls hm hR hS hl
    rw [m11_goThroughRun_b11] at hm
    refine lv_iload hx hb dX11_goThroughRun_11 (hl.at 6 rfl) ?_
    refine hw_aload_n hx hb dX11_goThroughRun_13 rfl (hl.at 0 rfl) ?_
    obtain ⟨v14, e14, hm⟩ := hw_bs hm
    refine hw_getP hx hb hw_cf11 hts hown hK hR e14 (by decide) rfl (hts _ hw_m16) (fun _ h9 => h9) dX11_goThroughRun_14 ?_
    obtain ⟨v17, e17, hm⟩ := hw_bs hm
    refine hw_getI hx hb hw_cf8 hts hown hK hR e17 (by decide) rfl (hts _ hw_m604) (fun _ h9 => h9) dX11_goThroughRun_17 ?_
    refine lv_icmp_ge (tgt := 138) hx hb dX11_goThroughRun_20 (by decide) (fun c20 => ?_) (fun c20 => ?_)
    · have hm := hw_ip hm c20
      refine lv_iload hx hb dX11_goThroughRun_138 (hl.at 5 rfl) ?_
      exact hw_rWI hx hb hr hlk hR hS hm dX11_goThroughRun_140
    · have hm := hw_in hm c20
      refine hw_aload_n hx hb dX11_goThroughRun_23 rfl (hl.at 0 rfl) ?_
      obtain ⟨v24, e24, hm⟩ := hw_bs hm
      refine hw_getP hx hb hw_cf11 hts hown hK hR e24 (by decide) rfl (hts _ hw_m16) (fun _ h9 => h9) dX11_goThroughRun_24 ?_
      obtain ⟨v27, e27, hm⟩ := hw_bs hm
      refine hw_getP hx hb hw_cf8 hts hown hK hR e27 (by decide) rfl (hts _ hw_m605) (fun _ h9 => h9) dX11_goThroughRun_27 ?_
      refine lv_iload hx hb dX11_goThroughRun_30 (hl.at 6 rfl) ?_
      obtain ⟨v32, e32, hm⟩ := hw_bs hm
      refine hw_iald hx hb hK hR e32 dX11_goThroughRun_32 ?_
      refine hw_istore (lv' := [(7, .int v32), (0, hw_vr b (some x0)), (1, hw_vr b l1), (2, hw_vr b l2), (3, .int l3), (4, .int l4), (5, .int l5), (6, .int l6)]) hx hb dX11_goThroughRun_33 hl (by decide) (by decide) rfl (fun ls hl => ?_)
      refine hw_aload_n hx hb dX11_goThroughRun_35 rfl (hl.at 2 rfl) ?_
      refine lv_iload_n hx hb dX11_goThroughRun_36 rfl (hl.at 4 rfl) ?_
      refine lv_iload hx hb dX11_goThroughRun_37 (hl.at 0 rfl) ?_
      obtain ⟨v39, e39, hm⟩ := hw_bs hm
      refine hw_cRI (va_runS (As := [.int v32]) (rest := [.int l3, hw_vr b l1]) ⟨hx, hb, hml, hown, hts⟩ (c11_heightOf l D e39) (cwS 1 hts (hw_gS hw_m445 hw_m446 hw_m2 hw_m447) rfl rfl rfl (by decide +kernel) ⟨(Nat.le_of_ble_eq_true rfl), (Nat.le_of_ble_eq_true rfl)⟩) (hw_pre0 hE) rfl rfl hl.sz rfl (lv_room (hw_sm (List.forall_mem_cons.mpr ⟨rfl, (List.forall_mem_cons.mpr ⟨(hw_vr_cat _ _), (fun _ h => absurd h List.not_mem_nil)⟩)⟩) (Nat.le_of_ble_eq_true rfl))) dX11_goThroughRun_39 ⟨(Nat.le_of_ble_eq_true rfl), (Nat.le_of_ble_eq_true rfl)⟩) ?_
      obtain ⟨a42, g42, hm⟩ := hw_bs hm
      obtain ⟨h42, ht42⟩ := hw_rv_of g42
      rw [h42]
      obtain ⟨ci42, C42, f42_1, f42_2, f42_3, f42_4⟩ := hw_sel7 (y := fun _ => yX3_isHighAfter) ht42 hw_m624 hw_m629 hw_m630 hw_m632 hw_m633 hw_m634 hw_m635
      obtain ⟨v42, e42, hm⟩ := hw_bs hm
      refine hw_cRI (va_runU (C := C42) (owner := RX3) (As := [.int l3, .int v39]) (rest := []) ⟨hx, hb, hml, hown, hts⟩ (c3_isHighAfter l D b e42) (va_cwU 2 hts (hw_gU hw_m622 hw_m623 f42_4 hw_m625 hw_m285 hw_m626) rfl rfl rfl rfl (by decide +kernel) ⟨(Nat.le_of_ble_eq_true rfl), (Nat.le_of_ble_eq_true rfl)⟩) (hw_preV hE hR f42_3 f42_2 f42_1) rfl rfl hl.sz rfl (lv_room (Nat.le_of_ble_eq_true rfl)) dX11_goThroughRun_42 ⟨(Nat.le_of_ble_eq_true rfl), (Nat.le_of_ble_eq_true rfl)⟩) ?_
      refine hw_istore_n (lv' := [(3, .int v42), (7, .int v32), (0, hw_vr b (some x0)), (1, hw_vr b l1), (2, hw_vr b l2), (4, .int l4), (5, .int l5), (6, .int l6)]) hx hb dX11_goThroughRun_45 rfl hl (by decide) (by decide) rfl (fun ls hl => ?_)
      refine hw_aload_n hx hb dX11_goThroughRun_46 rfl (hl.at 3 rfl) ?_
      refine hw_aload_n hx hb dX11_goThroughRun_47 rfl (hl.at 4 rfl) ?_
      refine hw_aload_n hx hb dX11_goThroughRun_48 rfl (hl.at 3 rfl) ?_
      refine hw_aload_n hx hb dX11_goThroughRun_49 rfl (hl.at 4 rfl) ?_
      refine lv_iload hx hb dX11_goThroughRun_50 (hl.at 7 rfl) ?_
      obtain ⟨a52, g52, hm⟩ := hw_bs hm
      obtain ⟨h52, ht52⟩ := hw_rv_of g52
      rw [h52]
      obtain ⟨v52, e52, hm⟩ := hw_bs hm
      refine hw_cRI (r := v52) (rest := [hw_vr b l2, hw_vr b (some a52)]) (a := (Value.ref (b + a52) :: [hw_vr b l2, .int l6]).toArray) ?_ ?_
      · rcases hw_qL_or ht52 with ht52_0 | ht52_1 | ht52_2 | ht52_3 | ht52_5 | ht52_6 | ht52_7
        · exact va_runU (C := RX0) (owner := RX3) (As := [hw_vr b l2, .int l6]) (rest := [hw_vr b l2, hw_vr b (some a52)]) ⟨hx, hb, hml, hown, hts⟩ (c3_stiffAt l D b ((mv_stiffAt_0 ht52_0).symm.trans e52)) (va_cwU 2 hts (hw_gU hw_m636 hw_m637 hw_m638 hw_m639 hw_m285 hw_m640) rfl rfl rfl rfl (by decide +kernel) ⟨(Nat.le_of_ble_eq_true rfl), (Nat.le_of_ble_eq_true rfl)⟩) (hw_preV (ci := 0) hE hR rfl (by decide) ht52_0) rfl rfl hl.sz rfl (lv_room (hw_sm (List.forall_mem_cons.mpr ⟨(hw_vr_cat _ _), (List.forall_mem_cons.mpr ⟨(hw_vr_cat _ _), (fun _ h => absurd h List.not_mem_nil)⟩)⟩) (Nat.le_of_ble_eq_true rfl))) dX11_goThroughRun_52 ⟨(Nat.le_of_ble_eq_true rfl), (Nat.le_of_ble_eq_true rfl)⟩
        · exact va_runU (C := RX1) (owner := RX3) (As := [hw_vr b l2, .int l6]) (rest := [hw_vr b l2, hw_vr b (some a52)]) ⟨hx, hb, hml, hown, hts⟩ (c3_stiffAt l D b ((mv_stiffAt_1 ht52_1).symm.trans e52)) (va_cwU 2 hts (hw_gU hw_m636 hw_m637 hw_m641 hw_m639 hw_m285 hw_m640) rfl rfl rfl rfl (by decide +kernel) ⟨(Nat.le_of_ble_eq_true rfl), (Nat.le_of_ble_eq_true rfl)⟩) (hw_preV (ci := 1) hE hR rfl (by decide) ht52_1) rfl rfl hl.sz rfl (lv_room (hw_sm (List.forall_mem_cons.mpr ⟨(hw_vr_cat _ _), (List.forall_mem_cons.mpr ⟨(hw_vr_cat _ _), (fun _ h => absurd h List.not_mem_nil)⟩)⟩) (Nat.le_of_ble_eq_true rfl))) dX11_goThroughRun_52 ⟨(Nat.le_of_ble_eq_true rfl), (Nat.le_of_ble_eq_true rfl)⟩
        · exact va_runU (C := RX2) (owner := RX3) (As := [hw_vr b l2, .int l6]) (rest := [hw_vr b l2, hw_vr b (some a52)]) ⟨hx, hb, hml, hown, hts⟩ (c3_stiffAt l D b ((mv_stiffAt_2 ht52_2).symm.trans e52)) (va_cwU 2 hts (hw_gU hw_m636 hw_m637 hw_m642 hw_m639 hw_m285 hw_m640) rfl rfl rfl rfl (by decide +kernel) ⟨(Nat.le_of_ble_eq_true rfl), (Nat.le_of_ble_eq_true rfl)⟩) (hw_preV (ci := 2) hE hR rfl (by decide) ht52_2) rfl rfl hl.sz rfl (lv_room (hw_sm (List.forall_mem_cons.mpr ⟨(hw_vr_cat _ _), (List.forall_mem_cons.mpr ⟨(hw_vr_cat _ _), (fun _ h => absurd h List.not_mem_nil)⟩)⟩) (Nat.le_of_ble_eq_true rfl))) dX11_goThroughRun_52 ⟨(Nat.le_of_ble_eq_true rfl), (Nat.le_of_ble_eq_true rfl)⟩
        · exact va_runU (C := RX3) (owner := RX3) (As := [hw_vr b l2, .int l6]) (rest := [hw_vr b l2, hw_vr b (some a52)]) ⟨hx, hb, hml, hown, hts⟩ (c3_stiffAt l D b ((mv_stiffAt_3 ht52_3).symm.trans e52)) (va_cwU 2 hts (hw_gU hw_m636 hw_m637 hw_m644 hw_m639 hw_m285 hw_m640) rfl rfl rfl rfl (by decide +kernel) ⟨(Nat.le_of_ble_eq_true rfl), (Nat.le_of_ble_eq_true rfl)⟩) (hw_preV (ci := 3) hE hR rfl (by decide) ht52_3) rfl rfl hl.sz rfl (lv_room (hw_sm (List.forall_mem_cons.mpr ⟨(hw_vr_cat _ _), (List.forall_mem_cons.mpr ⟨(hw_vr_cat _ _), (fun _ h => absurd h List.not_mem_nil)⟩)⟩) (Nat.le_of_ble_eq_true rfl))) dX11_goThroughRun_52 ⟨(Nat.le_of_ble_eq_true rfl), (Nat.le_of_ble_eq_true rfl)⟩
        · exact va_runU (C := RX5) (owner := RX3) (As := [hw_vr b l2, .int l6]) (rest := [hw_vr b l2, hw_vr b (some a52)]) ⟨hx, hb, hml, hown, hts⟩ (c3_stiffAt l D b ((mv_stiffAt_5 ht52_5).symm.trans e52)) (va_cwU 2 hts (hw_gU hw_m636 hw_m637 hw_m645 hw_m639 hw_m285 hw_m640) rfl rfl rfl rfl (by decide +kernel) ⟨(Nat.le_of_ble_eq_true rfl), (Nat.le_of_ble_eq_true rfl)⟩) (hw_preV (ci := 5) hE hR rfl (by decide) ht52_5) rfl rfl hl.sz rfl (lv_room (hw_sm (List.forall_mem_cons.mpr ⟨(hw_vr_cat _ _), (List.forall_mem_cons.mpr ⟨(hw_vr_cat _ _), (fun _ h => absurd h List.not_mem_nil)⟩)⟩) (Nat.le_of_ble_eq_true rfl))) dX11_goThroughRun_52 ⟨(Nat.le_of_ble_eq_true rfl), (Nat.le_of_ble_eq_true rfl)⟩
        · exact va_runU (C := RX6) (owner := RX3) (As := [hw_vr b l2, .int l6]) (rest := [hw_vr b l2, hw_vr b (some a52)]) ⟨hx, hb, hml, hown, hts⟩ (c6_stiffAt l D b ((mv_stiffAt_6 ht52_6).symm.trans e52)) (va_cwO 2 hts (hw_gO hw_m636 hw_m637 hw_m639 hw_m647 hw_m648 hw_m279 hw_m649) rfl rfl rfl hw_m640 (by decide +kernel) ⟨(Nat.le_of_ble_eq_true rfl), (Nat.le_of_ble_eq_true rfl)⟩) (hw_preV (ci := 6) hE hR rfl (by decide) ht52_6) rfl rfl hl.sz rfl (lv_room (hw_sm (List.forall_mem_cons.mpr ⟨(hw_vr_cat _ _), (List.forall_mem_cons.mpr ⟨(hw_vr_cat _ _), (fun _ h => absurd h List.not_mem_nil)⟩)⟩) (Nat.le_of_ble_eq_true rfl))) dX11_goThroughRun_52 ⟨(Nat.le_of_ble_eq_true rfl), (Nat.le_of_ble_eq_true rfl)⟩
        · exact va_runU (C := RX7) (owner := RX3) (As := [hw_vr b l2, .int l6]) (rest := [hw_vr b l2, hw_vr b (some a52)]) ⟨hx, hb, hml, hown, hts⟩ (c3_stiffAt l D b ((mv_stiffAt_7 ht52_7).symm.trans e52)) (va_cwU 2 hts (hw_gU hw_m636 hw_m637 hw_m654 hw_m639 hw_m285 hw_m640) rfl rfl rfl rfl (by decide +kernel) ⟨(Nat.le_of_ble_eq_true rfl), (Nat.le_of_ble_eq_true rfl)⟩) (hw_preV (ci := 7) hE hR rfl (by decide) ht52_7) rfl rfl hl.sz rfl (lv_room (hw_sm (List.forall_mem_cons.mpr ⟨(hw_vr_cat _ _), (List.forall_mem_cons.mpr ⟨(hw_vr_cat _ _), (fun _ h => absurd h List.not_mem_nil)⟩)⟩) (Nat.le_of_ble_eq_true rfl))) dX11_goThroughRun_52 ⟨(Nat.le_of_ble_eq_true rfl), (Nat.le_of_ble_eq_true rfl)⟩
      refine lv_iload hx hb dX11_goThroughRun_55 (hl.at 1 rfl) ?_
      refine lv_iload_n hx hb dX11_goThroughRun_57 rfl (hl.at 0 rfl) ?_
      obtain ⟨a58, g58, hm⟩ := hw_bs hm
      obtain ⟨rfl, ht58⟩ := hw_rv_th g58
      obtain ⟨ci58, C58, f58_1, f58_2, f58_3, f58_4⟩ := hw_sel7 (y := fun _ => yX3_turnsIn) ht58 hw_m499 hw_m545 hw_m546 hw_m548 hw_m549 hw_m550 hw_m551
      obtain ⟨v58, e58, hm⟩ := hw_bs hm
      refine hw_cRI (va_runU (C := C58) (owner := RX3) (As := [hw_vr b l2, .int v52, .int v32, .int v42]) (rest := []) ⟨hx, hb, hml, hown, hts⟩ (c3_turnsIn l D b e58) (va_cwU 4 hts (hw_gU hw_m497 hw_m498 f58_4 hw_m500 hw_m285 hw_m501) rfl rfl rfl rfl (by decide +kernel) ⟨(Nat.le_of_ble_eq_true rfl), (Nat.le_of_ble_eq_true rfl)⟩) (hw_preV hE hR f58_3 f58_2 f58_1) rfl rfl hl.sz rfl (lv_room (Nat.le_of_ble_eq_true rfl)) dX11_goThroughRun_58 ⟨(Nat.le_of_ble_eq_true rfl), (Nat.le_of_ble_eq_true rfl)⟩) ?_
      refine hw_istore (lv' := [(8, .int v58), (3, .int v42), (7, .int v32), (0, hw_vr b (some x0)), (1, hw_vr b l1), (2, hw_vr b l2), (4, .int l4), (5, .int l5), (6, .int l6)]) hx hb dX11_goThroughRun_61 hl (by decide) (by decide) rfl (fun ls hl => ?_)
      refine hw_aload_n hx hb dX11_goThroughRun_63 rfl (hl.at 4 rfl) ?_
      refine lv_iload hx hb dX11_goThroughRun_64 (hl.at 0 rfl) ?_
      refine lv_iload hx hb dX11_goThroughRun_66 (hl.at 2 rfl) ?_
      obtain ⟨v68, e68, hm⟩ := hw_bs hm
      refine hw_cRI (va_runS (As := [.int v32]) (rest := [.int v58, hw_vr b l1]) ⟨hx, hb, hml, hown, hts⟩ (c11_paceOf l D e68) (cwS 1 hts (hw_gS hw_m555 hw_m465 hw_m2 hw_m466) rfl rfl rfl (by decide +kernel) ⟨(Nat.le_of_ble_eq_true rfl), (Nat.le_of_ble_eq_true rfl)⟩) (hw_pre0 hE) rfl rfl hl.sz rfl (lv_room (hw_sm (List.forall_mem_cons.mpr ⟨rfl, (List.forall_mem_cons.mpr ⟨(hw_vr_cat _ _), (fun _ h => absurd h List.not_mem_nil)⟩)⟩) (Nat.le_of_ble_eq_true rfl))) dX11_goThroughRun_68 ⟨(Nat.le_of_ble_eq_true rfl), (Nat.le_of_ble_eq_true rfl)⟩) ?_
      obtain ⟨a71, g71, hm⟩ := hw_bs hm
      obtain ⟨h71, ht71⟩ := hw_rv_of g71
      rw [h71]
      obtain ⟨ci71, C71, f71_1, f71_2, f71_3, f71_4⟩ := hw_sel7 (y := fun _ => yX3_formAt) ht71 hw_m558 hw_m561 hw_m562 hw_m564 hw_m565 hw_m566 hw_m567
      obtain ⟨v71, e71, hm⟩ := hw_bs hm
      refine hw_cRI (va_runU (C := C71) (owner := RX3) (As := [.int v58, .int v68]) (rest := []) ⟨hx, hb, hml, hown, hts⟩ (c3_formAt l D b e71) (va_cwU 2 hts (hw_gU hw_m556 hw_m557 f71_4 hw_m559 hw_m285 hw_m560) rfl rfl rfl rfl (by decide +kernel) ⟨(Nat.le_of_ble_eq_true rfl), (Nat.le_of_ble_eq_true rfl)⟩) (hw_preV hE hR f71_3 f71_2 f71_1) rfl rfl hl.sz rfl (lv_room (Nat.le_of_ble_eq_true rfl)) dX11_goThroughRun_71 ⟨(Nat.le_of_ble_eq_true rfl), (Nat.le_of_ble_eq_true rfl)⟩) ?_
      refine hw_istore (lv' := [(9, .int v71), (8, .int v58), (3, .int v42), (7, .int v32), (0, hw_vr b (some x0)), (1, hw_vr b l1), (2, hw_vr b l2), (4, .int l4), (5, .int l5), (6, .int l6)]) hx hb dX11_goThroughRun_74 hl (by decide) (by decide) rfl (fun ls hl => ?_)
      refine lv_iload hx hb dX11_goThroughRun_76 (hl.at 7 rfl) ?_
      refine lv_iload hx hb dX11_goThroughRun_78 (hl.at 0 rfl) ?_
      refine lv_iload hx hb dX11_goThroughRun_80 (hl.at 3 rfl) ?_
      obtain ⟨v82, e82, hm⟩ := hw_bs hm
      refine hw_cRI (va_runS (As := [.int v32]) (rest := [.int v71, .int l4]) ⟨hx, hb, hml, hown, hts⟩ (c11_flowOf l D e82) (cwS 1 hts (hw_gS hw_m451 hw_m452 hw_m2 hw_m453) rfl rfl rfl (by decide +kernel) ⟨(Nat.le_of_ble_eq_true rfl), (Nat.le_of_ble_eq_true rfl)⟩) (hw_pre0 hE) rfl rfl hl.sz rfl (lv_room (Nat.le_of_ble_eq_true rfl)) dX11_goThroughRun_82 ⟨(Nat.le_of_ble_eq_true rfl), (Nat.le_of_ble_eq_true rfl)⟩) ?_
      obtain ⟨v85, e85, hm⟩ := hw_bs hm
      refine hw_cRI (va_runS (As := [.int l4, .int v71, .int v82]) (rest := []) ⟨hx, hb, hml, hown, hts⟩ (c11_heapBehind l D e85) (cwS 3 hts (hw_gS hw_m655 hw_m656 hw_m2 hw_m657) rfl rfl rfl (by decide +kernel) ⟨(Nat.le_of_ble_eq_true rfl), (Nat.le_of_ble_eq_true rfl)⟩) (hw_pre0 hE) rfl rfl hl.sz rfl (lv_room (Nat.le_of_ble_eq_true rfl)) dX11_goThroughRun_85 ⟨(Nat.le_of_ble_eq_true rfl), (Nat.le_of_ble_eq_true rfl)⟩) ?_
      refine hw_istore (lv' := [(4, .int v85), (9, .int v71), (8, .int v58), (3, .int v42), (7, .int v32), (0, hw_vr b (some x0)), (1, hw_vr b l1), (2, hw_vr b l2), (5, .int l5), (6, .int l6)]) hx hb dX11_goThroughRun_88 hl (by decide) (by decide) rfl (fun ls hl => ?_)
      refine lv_iload hx hb dX11_goThroughRun_90 (hl.at 0 rfl) ?_
      refine hw_aload_n hx hb dX11_goThroughRun_92 rfl (hl.at 6 rfl) ?_
      obtain ⟨v93, e93, hm⟩ := hw_bs hm
      refine hw_getI hx hb hw_cfL hts hown hK hR e93 (by decide) rfl (hts _ hw_m424) (fun _ h9 => h9) dX11_goThroughRun_93 ?_
      refine lv_icmp_le (tgt := 105) hx hb dX11_goThroughRun_96 (by decide) (fun c96 => ?_) (fun c96 => ?_)
      · have hm := hw_ip hm c96
        exact w11_goThroughRun_b105 C0 ih hm hR hS (hl.sub [5, 6, 7, 3, 0, 8, 9, 2, 1] rfl)
      · have hm := hw_in hm c96
        refine hw_iinc (v := (l5 + 1)) (lv' := [(5, .int (l5 + 1)), (4, .int v85), (9, .int v71), (8, .int v58), (3, .int v42), (7, .int v32), (0, hw_vr b (some x0)), (1, hw_vr b l1), (2, hw_vr b l2), (6, .int l6)]) hx hb dX11_goThroughRun_99 hl (k := 8) rfl rfl (by decide) (by decide) rfl (fun ls hl => ?_)
        refine lv_iconst (v := 0) hx hb dX11_goThroughRun_102 (by decide) ?_
        refine hw_istore (lv' := [(4, .int (0 : Int32)), (5, .int (l5 + 1)), (9, .int v71), (8, .int v58), (3, .int v42), (7, .int v32), (0, hw_vr b (some x0)), (1, hw_vr b l1), (2, hw_vr b l2), (6, .int l6)]) hx hb dX11_goThroughRun_103 hl (by decide) (by decide) rfl (fun ls hl => ?_)
        exact w11_goThroughRun_b105 C0 ih hm hR hS (hl.sub [6, 7, 8, 4, 0, 1, 9, 3, 2] rfl)
def m11_goThroughRun (x0 : Nat) (l1 : Option Nat) (l2 : Option Nat) (σ : hw_S) : Option (Int32 × hw_S) :=
  m11_goThroughRun_b11 hw_fu x0 l1 l2 (0 : Int32) (0 : Int32) (0 : Int32) (0 : Int32) σ
set_option maxRecDepth 100000 in
theorem w11_goThroughRun_s {p : Program} {l : Launch} {e : Env} {s : State} {m : MethodId} {args : Array Value} {below : List Frame} {meth : Method} {c : Code} {D : hw_D} {b : Nat} {x0 : Nat} {l1 : Option Nat} {l2 : Option Nat} {σ : hw_S} {r : Int32} {τ : hw_S} {H : Heap} {locs : List Loc} (hm : m11_goThroughRun x0 l1 l2 σ = some (r, τ)) (C0 : hw_C p s m args meth c D yX11_goThroughRun cX11_goThroughRun 10 (some .int)) (hR : hw_R D b σ H) (hS : va_S (fun q => b ≤ q) s.heap H locs) {ls : Array Slot} (hl : hw_L ls 10 255 [(0, hw_vr b (some x0)), (1, hw_vr b l1), (2, hw_vr b l2)]) : W p l e rm11_goThroughRun s m args below meth c H locs 0 0 (MQ below (hw_QI D b τ r) args s 0 0 (fun q => b ≤ q)) (F0 m 0 ls []) := by
  obtain ⟨hx, hb, hml, hr, hown, hts, hlk, hE, hnm⟩ := id C0
  have hown : s.vm.findClass RX11 = some m.cls := hown
  have hK := hE.1
  unfold m11_goThroughRun at hm
  refine lv_iconst (v := 0) hx hb dX11_goThroughRun_0 (by decide) ?_
  refine hw_istore_n (lv' := [(3, .int (0 : Int32)), (0, hw_vr b (some x0)), (1, hw_vr b l1), (2, hw_vr b l2)]) hx hb dX11_goThroughRun_1 rfl hl (by decide) (by decide) rfl (fun ls hl => ?_)
  refine lv_iconst (v := 0) hx hb dX11_goThroughRun_2 (by decide) ?_
  refine hw_istore (lv' := [(4, .int (0 : Int32)), (3, .int (0 : Int32)), (0, hw_vr b (some x0)), (1, hw_vr b l1), (2, hw_vr b l2)]) hx hb dX11_goThroughRun_3 hl (by decide) (by decide) rfl (fun ls hl => ?_)
  refine lv_iconst (v := 0) hx hb dX11_goThroughRun_5 (by decide) ?_
  refine hw_istore (lv' := [(5, .int (0 : Int32)), (4, .int (0 : Int32)), (3, .int (0 : Int32)), (0, hw_vr b (some x0)), (1, hw_vr b l1), (2, hw_vr b l2)]) hx hb dX11_goThroughRun_6 hl (by decide) (by decide) rfl (fun ls hl => ?_)
  refine lv_iconst (v := 0) hx hb dX11_goThroughRun_8 (by decide) ?_
  refine hw_istore (lv' := [(6, .int (0 : Int32)), (5, .int (0 : Int32)), (4, .int (0 : Int32)), (3, .int (0 : Int32)), (0, hw_vr b (some x0)), (1, hw_vr b l1), (2, hw_vr b l2)]) hx hb dX11_goThroughRun_9 hl (by decide) (by decide) rfl (fun ls hl => ?_)
  exact w11_goThroughRun_b11 C0 hw_fu hm hR hS (hl.sub [4, 5, 6, 3, 2, 1, 0] rfl)
set_option maxRecDepth 100000 in
theorem c11_goThroughRun (l : Launch) (D : hw_D) (b : Nat) {x0 : Nat} {l1 : Option Nat} {l2 : Option Nat} {σ : hw_S} {r : Int32} {τ : hw_S} (hm : m11_goThroughRun x0 l1 l2 σ = some (r, τ)) : Met l yX11_goThroughRun (Cond.code yX11_goThroughRun cX11_goThroughRun 10 (some .int) :: wsL_law) rm11_goThroughRun (hw_P1 D b σ [hw_vr b (some x0), hw_vr b l1, hw_vr b l2]) (hw_QI D b τ r) 0 0 (fun q => b ≤ q) := by
  refine hw_start1 (by decide +kernel) (by cases l1 <;> cases l2 <;> exact Nat.le_of_ble_eq_true rfl) ?_
  intro p e s m below meth c ls C0 hR hS hl
  have hl : lv_has ls 10 [(0, hw_vr b (some x0)), (1, hw_vr b l1), (2, hw_vr b l2)] := by cases l1 <;> cases l2 <;> exact hl
  exact w11_goThroughRun_s hm C0 hR hS ⟨hl, (List.forall_mem_cons.mpr ⟨(fun h => by rw [show (hw_vr b (some x0) : Value).category = 1 from (hw_vr_cat _ _)] at h; cases h), (List.forall_mem_cons.mpr ⟨(fun h => by rw [show (hw_vr b l1 : Value).category = 1 from (hw_vr_cat _ _)] at h; cases h), (List.forall_mem_cons.mpr ⟨(fun h => by rw [show (hw_vr b l2 : Value).category = 1 from (hw_vr_cat _ _)] at h; cases h), (fun _ h => absurd h List.not_mem_nil)⟩)⟩)⟩)⟩

abbrev rm11_allRunTurns : Room := { frames := 0, cells := 0, slots := 0, locals := 0 }
def m11_allRunTurns_b4 : Nat → Nat → Int32 → Int32 → hw_S → Option Int32
  | 0, _, _, _, _ => none
  | n + 1, x0, l1, l2, σ =>
  (hw_gP (hw_q 11) 0 (some x0) σ).bind fun v6 =>
  (hw_gI (hw_q 8) 7 v6 σ).bind fun v9 =>
  (if v9 ≤ l2 then
  some l1
  else
  (hw_gP (hw_q 11) 6 (some x0) σ).bind fun v17 =>
  (hw_aI 0 v17 l2 σ).bind fun v21 =>
  m11_allRunTurns_b4 n x0 (l1 + v21) (l2 + 1) σ)
set_option maxRecDepth 100000 in
theorem w11_allRunTurns_b4 {p : Program} {l : Launch} {e : Env} {s : State} {m : MethodId} {args : Array Value} {below : List Frame} {meth : Method} {c : Code} {D : hw_D} {b : Nat} {r : Int32} (C0 : hw_C p s m args meth c D yX11_allRunTurns cX11_allRunTurns 3 (some .int)) : ∀ (n : Nat) {x0 : Nat} {l1 : Int32} {l2 : Int32} {σ : hw_S} {ls : Array Slot}, m11_allRunTurns_b4 n x0 l1 l2 σ = some r → hw_R D b σ s.heap → hw_L ls 3 255 [(0, hw_vr b (some x0)), (1, .int l1), (2, .int l2)] → W p l e rm11_allRunTurns s m args below meth c s.heap [] 0 0 (MQ below (hw_RI r) args s 0 0 hw_nof) (F0 m 4 ls []) := by
  obtain ⟨hx, hb, hml, hr, hown, hts, hlk, hE, hnm⟩ := id C0
  have hown : s.vm.findClass RX11 = some m.cls := hown
  have hK := hE.1
  intro n
  induction n with
  | zero => intro _ _ _ _ _ hm; cases hm
  | succ n ih =>
    intro x0 l1 l2 σ ls hm hR hl
    rw [m11_allRunTurns_b4] at hm
    refine lv_iload_n hx hb dX11_allRunTurns_4 rfl (hl.at 2 rfl) ?_
    refine hw_aload_n hx hb dX11_allRunTurns_5 rfl (hl.at 0 rfl) ?_
    obtain ⟨v6, e6, hm⟩ := hw_bs hm
    refine hw_getP hx hb hw_cf11 hts hown hK hR e6 (by decide) rfl (hts _ hw_m16) (fun _ h9 => h9) dX11_allRunTurns_6 ?_
    obtain ⟨v9, e9, hm⟩ := hw_bs hm
    refine hw_getI hx hb hw_cf8 hts hown hK hR e9 (by decide) rfl (hts _ hw_m604) (fun _ h9 => h9) dX11_allRunTurns_9 ?_
    refine lv_icmp_ge (tgt := 30) hx hb dX11_allRunTurns_12 (by decide) (fun c12 => ?_) (fun c12 => ?_)
    · have hm := hw_ip hm c12
      refine lv_iload_n hx hb dX11_allRunTurns_30 rfl (hl.at 1 rfl) ?_
      exact hw_rRI hx hb hr hlk hm dX11_allRunTurns_31
    · have hm := hw_in hm c12
      refine lv_iload_n hx hb dX11_allRunTurns_15 rfl (hl.at 1 rfl) ?_
      refine hw_aload_n hx hb dX11_allRunTurns_16 rfl (hl.at 0 rfl) ?_
      obtain ⟨v17, e17, hm⟩ := hw_bs hm
      refine hw_getP hx hb hw_cf11 hts hown hK hR e17 (by decide) rfl (hts _ hw_m29) (fun _ h9 => h9) dX11_allRunTurns_17 ?_
      refine lv_iload_n hx hb dX11_allRunTurns_20 rfl (hl.at 2 rfl) ?_
      obtain ⟨v21, e21, hm⟩ := hw_bs hm
      refine hw_iald hx hb hK hR e21 dX11_allRunTurns_21 ?_
      refine lv_iadd hx hb dX11_allRunTurns_22 ?_
      refine hw_istore_n (lv' := [(1, .int (l1 + v21)), (0, hw_vr b (some x0)), (2, .int l2)]) hx hb dX11_allRunTurns_23 rfl hl (by decide) (by decide) rfl (fun ls hl => ?_)
      refine hw_iinc (v := (l2 + 1)) (lv' := [(2, .int (l2 + 1)), (1, .int (l1 + v21)), (0, hw_vr b (some x0))]) hx hb dX11_allRunTurns_24 hl (k := 2) rfl rfl (by decide) (by decide) rfl (fun ls hl => ?_)
      refine lv_goto (tgt := 4) hx hb dX11_allRunTurns_27 (by decide) ?_
      exact ih hm hR (hl.sub [2, 1, 0] rfl)
def m11_allRunTurns (x0 : Nat) (σ : hw_S) : Option Int32 :=
  m11_allRunTurns_b4 hw_fu x0 (0 : Int32) (0 : Int32) σ
set_option maxRecDepth 100000 in
theorem w11_allRunTurns_s {p : Program} {l : Launch} {e : Env} {s : State} {m : MethodId} {args : Array Value} {below : List Frame} {meth : Method} {c : Code} {D : hw_D} {b : Nat} {x0 : Nat} {σ : hw_S} {r : Int32} (hm : m11_allRunTurns x0 σ = some r) (C0 : hw_C p s m args meth c D yX11_allRunTurns cX11_allRunTurns 3 (some .int)) (hR : hw_R D b σ s.heap) {ls : Array Slot} (hl : hw_L ls 3 255 [(0, hw_vr b (some x0))]) : W p l e rm11_allRunTurns s m args below meth c s.heap [] 0 0 (MQ below (hw_RI r) args s 0 0 hw_nof) (F0 m 0 ls []) := by
  obtain ⟨hx, hb, hml, hr, hown, hts, hlk, hE, hnm⟩ := id C0
  have hown : s.vm.findClass RX11 = some m.cls := hown
  have hK := hE.1
  unfold m11_allRunTurns at hm
  refine lv_iconst (v := 0) hx hb dX11_allRunTurns_0 (by decide) ?_
  refine hw_istore_n (lv' := [(1, .int (0 : Int32)), (0, hw_vr b (some x0))]) hx hb dX11_allRunTurns_1 rfl hl (by decide) (by decide) rfl (fun ls hl => ?_)
  refine lv_iconst (v := 0) hx hb dX11_allRunTurns_2 (by decide) ?_
  refine hw_istore_n (lv' := [(2, .int (0 : Int32)), (1, .int (0 : Int32)), (0, hw_vr b (some x0))]) hx hb dX11_allRunTurns_3 rfl hl (by decide) (by decide) rfl (fun ls hl => ?_)
  exact w11_allRunTurns_b4 C0 hw_fu hm hR (hl.sub [2, 1, 0] rfl)
set_option maxRecDepth 100000 in
theorem c11_allRunTurns (l : Launch) (D : hw_D) (b : Nat) {x0 : Nat} {σ : hw_S} {r : Int32} (hm : m11_allRunTurns x0 σ = some r) : Met l yX11_allRunTurns (Cond.code yX11_allRunTurns cX11_allRunTurns 3 (some .int) :: wsL_law) rm11_allRunTurns (hw_P1 D b σ [hw_vr b (some x0)]) (hw_RI r) 0 0 hw_nof := by
  refine hw_start1 (by decide +kernel) (by exact Nat.le_of_ble_eq_true rfl) ?_
  intro p e s m below meth c ls C0 hR hS hl
  have hl : lv_has ls 3 [(0, hw_vr b (some x0))] := by exact hl
  exact w11_allRunTurns_s hm C0 hR ⟨hl, (List.forall_mem_cons.mpr ⟨(fun h => by rw [show (hw_vr b (some x0) : Value).category = 1 from (hw_vr_cat _ _)] at h; cases h), (fun _ h => absurd h List.not_mem_nil)⟩)⟩

abbrev rm11_runFormChanges : Room := { frames := 0, cells := 0, slots := 0, locals := 0 }
def m11_runFormChanges_b35 (k4 : Nat → Int32 → Int32 → hw_S → Option Int32) (x0 : Nat) (l1 : Int32) (l2 : Int32) (σ : hw_S) : Option Int32 :=
  k4 x0 l1 (l2 + 1) σ
set_option maxRecDepth 100000 in
theorem w11_runFormChanges_b35 {p : Program} {l : Launch} {e : Env} {s : State} {m : MethodId} {args : Array Value} {below : List Frame} {meth : Method} {c : Code} {D : hw_D} {b : Nat} {k4 : Nat → Int32 → Int32 → hw_S → Option Int32} {r : Int32} (C0 : hw_C p s m args meth c D yX11_runFormChanges cX11_runFormChanges 3 (some .int)) (hk4 : ∀ {x0 : Nat} {l1 : Int32} {l2 : Int32} {σ : hw_S} {ls : Array Slot}, k4 x0 l1 l2 σ = some r → hw_R D b σ s.heap → hw_L ls 3 255 [(0, hw_vr b (some x0)), (1, .int l1), (2, .int l2)] → W p l e rm11_runFormChanges s m args below meth c s.heap [] 0 0 (MQ below (hw_RI r) args s 0 0 hw_nof) (F0 m 4 ls [])) {x0 : Nat} {l1 : Int32} {l2 : Int32} {σ : hw_S} (hm : m11_runFormChanges_b35 k4 x0 l1 l2 σ = some r) (hR : hw_R D b σ s.heap) {ls : Array Slot} (hl : hw_L ls 3 255 [(0, hw_vr b (some x0)), (1, .int l1), (2, .int l2)]) : W p l e rm11_runFormChanges s m args below meth c s.heap [] 0 0 (MQ below (hw_RI r) args s 0 0 hw_nof) (F0 m 35 ls []) := by
  obtain ⟨hx, hb, hml, hr, hown, hts, hlk, hE, hnm⟩ := id C0
  have hown : s.vm.findClass RX11 = some m.cls := hown
  have hK := hE.1
  unfold m11_runFormChanges_b35 at hm
  refine hw_iinc (v := (l2 + 1)) (lv' := [(2, .int (l2 + 1)), (0, hw_vr b (some x0)), (1, .int l1)]) hx hb dX11_runFormChanges_35 hl (k := 2) rfl rfl (by decide) (by decide) rfl (fun ls hl => ?_)
  refine lv_goto (tgt := 4) hx hb dX11_runFormChanges_38 (by decide) ?_
  exact hk4 hm hR (hl.sub [1, 2, 0] rfl)
def m11_runFormChanges_b4 : Nat → Nat → Int32 → Int32 → hw_S → Option Int32
  | 0, _, _, _, _ => none
  | n + 1, x0, l1, l2, σ =>
  (hw_gP (hw_q 11) 0 (some x0) σ).bind fun v6 =>
  (hw_gI (hw_q 8) 7 v6 σ).bind fun v9 =>
  (if v9 ≤ l2 then
  some l1
  else
  (hw_gP (hw_q 11) 5 (some x0) σ).bind fun v16 =>
  (hw_aI 0 v16 l2 σ).bind fun v20 =>
  (hw_gP (hw_q 11) 5 (some x0) σ).bind fun v22 =>
  (hw_aI 0 v22 (l2 - (1 : Int32)) σ).bind fun v28 =>
  (if v20 = v28 then
  m11_runFormChanges_b35 (m11_runFormChanges_b4 n) x0 l1 l2 σ
  else
  m11_runFormChanges_b35 (m11_runFormChanges_b4 n) x0 (l1 + 1) l2 σ))
set_option maxRecDepth 100000 in
theorem w11_runFormChanges_b4 {p : Program} {l : Launch} {e : Env} {s : State} {m : MethodId} {args : Array Value} {below : List Frame} {meth : Method} {c : Code} {D : hw_D} {b : Nat} {r : Int32} (C0 : hw_C p s m args meth c D yX11_runFormChanges cX11_runFormChanges 3 (some .int)) : ∀ (n : Nat) {x0 : Nat} {l1 : Int32} {l2 : Int32} {σ : hw_S} {ls : Array Slot}, m11_runFormChanges_b4 n x0 l1 l2 σ = some r → hw_R D b σ s.heap → hw_L ls 3 255 [(0, hw_vr b (some x0)), (1, .int l1), (2, .int l2)] → W p l e rm11_runFormChanges s m args below meth c s.heap [] 0 0 (MQ below (hw_RI r) args s 0 0 hw_nof) (F0 m 4 ls []) := by
  obtain ⟨hx, hb, hml, hr, hown, hts, hlk, hE, hnm⟩ := id C0
  have hown : s.vm.findClass RX11 = some m.cls := hown
  have hK := hE.1
  intro n
  induction n with
  | zero => intro _ _ _ _ _ hm; cases hm
  | succ n ih =>
    intro x0 l1 l2 σ ls hm hR hl
    rw [m11_runFormChanges_b4] at hm
    refine lv_iload_n hx hb dX11_runFormChanges_4 rfl (hl.at 2 rfl) ?_
    refine hw_aload_n hx hb dX11_runFormChanges_5 rfl (hl.at 0 rfl) ?_
    obtain ⟨v6, e6, hm⟩ := hw_bs hm
    refine hw_getP hx hb hw_cf11 hts hown hK hR e6 (by decide) rfl (hts _ hw_m16) (fun _ h9 => h9) dX11_runFormChanges_6 ?_
    obtain ⟨v9, e9, hm⟩ := hw_bs hm
    refine hw_getI hx hb hw_cf8 hts hown hK hR e9 (by decide) rfl (hts _ hw_m604) (fun _ h9 => h9) dX11_runFormChanges_9 ?_
    refine lv_icmp_ge (tgt := 41) hx hb dX11_runFormChanges_12 (by decide) (fun c12 => ?_) (fun c12 => ?_)
    · have hm := hw_ip hm c12
      refine lv_iload_n hx hb dX11_runFormChanges_41 rfl (hl.at 1 rfl) ?_
      exact hw_rRI hx hb hr hlk hm dX11_runFormChanges_42
    · have hm := hw_in hm c12
      refine hw_aload_n hx hb dX11_runFormChanges_15 rfl (hl.at 0 rfl) ?_
      obtain ⟨v16, e16, hm⟩ := hw_bs hm
      refine hw_getP hx hb hw_cf11 hts hown hK hR e16 (by decide) rfl (hts _ hw_m28) (fun _ h9 => h9) dX11_runFormChanges_16 ?_
      refine lv_iload_n hx hb dX11_runFormChanges_19 rfl (hl.at 2 rfl) ?_
      obtain ⟨v20, e20, hm⟩ := hw_bs hm
      refine hw_iald hx hb hK hR e20 dX11_runFormChanges_20 ?_
      refine hw_aload_n hx hb dX11_runFormChanges_21 rfl (hl.at 0 rfl) ?_
      obtain ⟨v22, e22, hm⟩ := hw_bs hm
      refine hw_getP hx hb hw_cf11 hts hown hK hR e22 (by decide) rfl (hts _ hw_m28) (fun _ h9 => h9) dX11_runFormChanges_22 ?_
      refine lv_iload_n hx hb dX11_runFormChanges_25 rfl (hl.at 2 rfl) ?_
      refine lv_iconst (v := 1) hx hb dX11_runFormChanges_26 (by decide) ?_
      refine lv_isub hx hb dX11_runFormChanges_27 ?_
      obtain ⟨v28, e28, hm⟩ := hw_bs hm
      refine hw_iald hx hb hK hR e28 dX11_runFormChanges_28 ?_
      refine lv_icmp_eq (tgt := 35) hx hb dX11_runFormChanges_29 (by decide) (fun c29 => ?_) (fun c29 => ?_)
      · have hm := hw_ip hm c29
        exact w11_runFormChanges_b35 C0 ih hm hR (hl.sub [0, 1, 2] rfl)
      · have hm := hw_in hm c29
        refine hw_iinc (v := (l1 + 1)) (lv' := [(1, .int (l1 + 1)), (0, hw_vr b (some x0)), (2, .int l2)]) hx hb dX11_runFormChanges_32 hl (k := 1) rfl rfl (by decide) (by decide) rfl (fun ls hl => ?_)
        exact w11_runFormChanges_b35 C0 ih hm hR (hl.sub [1, 0, 2] rfl)
def m11_runFormChanges (x0 : Nat) (σ : hw_S) : Option Int32 :=
  m11_runFormChanges_b4 hw_fu x0 (0 : Int32) (1 : Int32) σ
set_option maxRecDepth 100000 in
theorem w11_runFormChanges_s {p : Program} {l : Launch} {e : Env} {s : State} {m : MethodId} {args : Array Value} {below : List Frame} {meth : Method} {c : Code} {D : hw_D} {b : Nat} {x0 : Nat} {σ : hw_S} {r : Int32} (hm : m11_runFormChanges x0 σ = some r) (C0 : hw_C p s m args meth c D yX11_runFormChanges cX11_runFormChanges 3 (some .int)) (hR : hw_R D b σ s.heap) {ls : Array Slot} (hl : hw_L ls 3 255 [(0, hw_vr b (some x0))]) : W p l e rm11_runFormChanges s m args below meth c s.heap [] 0 0 (MQ below (hw_RI r) args s 0 0 hw_nof) (F0 m 0 ls []) := by
  obtain ⟨hx, hb, hml, hr, hown, hts, hlk, hE, hnm⟩ := id C0
  have hown : s.vm.findClass RX11 = some m.cls := hown
  have hK := hE.1
  unfold m11_runFormChanges at hm
  refine lv_iconst (v := 0) hx hb dX11_runFormChanges_0 (by decide) ?_
  refine hw_istore_n (lv' := [(1, .int (0 : Int32)), (0, hw_vr b (some x0))]) hx hb dX11_runFormChanges_1 rfl hl (by decide) (by decide) rfl (fun ls hl => ?_)
  refine lv_iconst (v := 1) hx hb dX11_runFormChanges_2 (by decide) ?_
  refine hw_istore_n (lv' := [(2, .int (1 : Int32)), (1, .int (0 : Int32)), (0, hw_vr b (some x0))]) hx hb dX11_runFormChanges_3 rfl hl (by decide) (by decide) rfl (fun ls hl => ?_)
  exact w11_runFormChanges_b4 C0 hw_fu hm hR (hl.sub [2, 1, 0] rfl)
set_option maxRecDepth 100000 in
theorem c11_runFormChanges (l : Launch) (D : hw_D) (b : Nat) {x0 : Nat} {σ : hw_S} {r : Int32} (hm : m11_runFormChanges x0 σ = some r) : Met l yX11_runFormChanges (Cond.code yX11_runFormChanges cX11_runFormChanges 3 (some .int) :: wsL_law) rm11_runFormChanges (hw_P1 D b σ [hw_vr b (some x0)]) (hw_RI r) 0 0 hw_nof := by
  refine hw_start1 (by decide +kernel) (by exact Nat.le_of_ble_eq_true rfl) ?_
  intro p e s m below meth c ls C0 hR hS hl
  have hl : lv_has ls 3 [(0, hw_vr b (some x0))] := by exact hl
  exact w11_runFormChanges_s hm C0 hR ⟨hl, (List.forall_mem_cons.mpr ⟨(fun h => by rw [show (hw_vr b (some x0) : Value).category = 1 from (hw_vr_cat _ _)] at h; cases h), (fun _ h => absurd h List.not_mem_nil)⟩)⟩

abbrev rm11_run : Room := { frames := 5, cells := 0, slots := 0, locals := 124 }
def m11_run_b32 (x0 : Nat) (σ : hw_S) : Option (Int32 × hw_S) :=
  some (((-1) : Int32), σ)
set_option maxRecDepth 100000 in
theorem w11_run_b32 {p : Program} {l : Launch} {e : Env} {s : State} {m : MethodId} {args : Array Value} {below : List Frame} {meth : Method} {c : Code} {D : hw_D} {b : Nat} {r : Int32} {τ : hw_S} (C0 : hw_C p s m args meth c D yX11_run cX11_run 8 (some .int)) {x0 : Nat} {σ : hw_S} {H : Heap} {locs : List Loc} (hm : m11_run_b32 x0 σ = some (r, τ)) (hR : hw_R D b σ H) (hS : va_S (fun q => b ≤ q) s.heap H locs) {ls : Array Slot} (hl : hw_L ls 8 255 [(0, hw_vr b (some x0))]) : W p l e rm11_run s m args below meth c H locs 0 0 (MQ below (hw_QI D b τ r) args s 0 0 (fun q => b ≤ q)) (F0 m 32 ls []) := by
  obtain ⟨hx, hb, hml, hr, hown, hts, hlk, hE, hnm⟩ := id C0
  have hown : s.vm.findClass RX11 = some m.cls := hown
  have hK := hE.1
  unfold m11_run_b32 at hm
  refine lv_iconst (v := (-1)) hx hb dX11_run_32 (by decide) ?_
  exact hw_rWI hx hb hr hlk hR hS hm dX11_run_33
def m11_run_b127 (x0 : Nat) (t0 : Int32) (σ : hw_S) : Option (Int32 × hw_S) :=
  some (t0, σ)
set_option maxRecDepth 100000 in
theorem w11_run_b127 {p : Program} {l : Launch} {e : Env} {s : State} {m : MethodId} {args : Array Value} {below : List Frame} {meth : Method} {c : Code} {D : hw_D} {b : Nat} {r : Int32} {τ : hw_S} (C0 : hw_C p s m args meth c D yX11_run cX11_run 8 (some .int)) {x0 : Nat} {t0 : Int32} {σ : hw_S} {H : Heap} {locs : List Loc} (hm : m11_run_b127 x0 t0 σ = some (r, τ)) (hR : hw_R D b σ H) (hS : va_S (fun q => b ≤ q) s.heap H locs) {ls : Array Slot} (hl : hw_L ls 8 255 [(0, hw_vr b (some x0))]) : W p l e rm11_run s m args below meth c H locs 0 0 (MQ below (hw_QI D b τ r) args s 0 0 (fun q => b ≤ q)) (F0 m 127 ls [.int t0]) := by
  obtain ⟨hx, hb, hml, hr, hown, hts, hlk, hE, hnm⟩ := id C0
  have hown : s.vm.findClass RX11 = some m.cls := hown
  have hK := hE.1
  unfold m11_run_b127 at hm
  exact hw_rWI hx hb hr hlk hR hS hm dX11_run_127
def m11_run (x0 : Nat) (l1 : Int32) (l2 : Int32) (l3 : Int32) (σ : hw_S) : Option (Int32 × hw_S) :=
  (hw_rv (hw_q 11) (some x0) σ).bind fun a2 =>
  (m11_lawAt x0 l1 σ).bind fun v2 =>
  (hw_rv (hw_q 11) (some x0) σ).bind fun a9 =>
  (m11_stuffAt x0 l2 σ).bind fun v9 =>
  (if v2 = none then
  m11_run_b32 x0 σ
  else
  (if v9 = none then
  m11_run_b32 x0 σ
  else
  (hw_rv (hw_q 11) (some x0) σ).bind fun a26 =>
  (m11_isToldOfRun x0 l3 σ).bind fun v26 =>
  (if v26 = 0 then
  m11_run_b32 x0 σ
  else
  (hw_rv (hw_q 11) (some x0) σ).bind fun a39 =>
  hw_b2 (m11_goThroughRun x0 v2 v9 σ) fun v39 σ39 =>
  (hw_rm l3 (100 : Int32)).bind fun v47 =>
  (hw_dv l3 (100 : Int32)).bind fun v53 =>
  (if v53 = 1 then
  (hw_gP (hw_q 11) 5 (some x0) σ39).bind fun v81 =>
  (hw_aI 0 v81 v47 σ39).bind fun v86 =>
  some (v86, σ39)
  else
  (if v53 = 2 then
  (hw_gP (hw_q 11) 6 (some x0) σ39).bind fun v89 =>
  (hw_aI 0 v89 v47 σ39).bind fun v94 =>
  some (v94, σ39)
  else
  (if v53 = 3 then
  (hw_gP (hw_q 11) 7 (some x0) σ39).bind fun v97 =>
  (hw_aI 0 v97 v47 σ39).bind fun v102 =>
  some (v102, σ39)
  else
  (if l3 = 0 then
  some (v39, σ39)
  else
  (if l3 = (1 : Int32) then
  (hw_rv (hw_q 11) (some x0) σ39).bind fun a117 =>
  (m11_allRunTurns x0 σ39).bind fun v117 =>
  m11_run_b127 x0 v117 σ39
  else
  (hw_rv (hw_q 11) (some x0) σ39).bind fun a124 =>
  (m11_runFormChanges x0 σ39).bind fun v124 =>
  m11_run_b127 x0 v124 σ39))))))))
set_option maxRecDepth 100000 in
theorem w11_run_s {p : Program} {l : Launch} {e : Env} {s : State} {m : MethodId} {args : Array Value} {below : List Frame} {meth : Method} {c : Code} {D : hw_D} {b : Nat} {x0 : Nat} {l1 : Int32} {l2 : Int32} {l3 : Int32} {σ : hw_S} {r : Int32} {τ : hw_S} {H : Heap} {locs : List Loc} (hm : m11_run x0 l1 l2 l3 σ = some (r, τ)) (C0 : hw_C p s m args meth c D yX11_run cX11_run 8 (some .int)) (hR : hw_R D b σ H) (hS : va_S (fun q => b ≤ q) s.heap H locs) {ls : Array Slot} (hl : hw_L ls 8 255 [(0, hw_vr b (some x0)), (1, .int l1), (2, .int l2), (3, .int l3)]) : W p l e rm11_run s m args below meth c H locs 0 0 (MQ below (hw_QI D b τ r) args s 0 0 (fun q => b ≤ q)) (F0 m 0 ls []) := by
  obtain ⟨hx, hb, hml, hr, hown, hts, hlk, hE, hnm⟩ := id C0
  have hown : s.vm.findClass RX11 = some m.cls := hown
  have hK := hE.1
  unfold m11_run at hm
  refine hw_aload_n hx hb dX11_run_0 rfl (hl.at 0 rfl) ?_
  refine lv_iload_n hx hb dX11_run_1 rfl (hl.at 1 rfl) ?_
  obtain ⟨a2, g2, hm⟩ := hw_bs hm
  obtain ⟨rfl, ht2⟩ := hw_rv_th g2
  obtain ⟨v2, e2, hm⟩ := hw_bs hm
  refine hw_cRP (va_runV (As := [.int l1]) (rest := []) ⟨hx, hb, hml, hown, hts⟩ (c11_lawAt l D b e2) (cwV 1 hts (hw_gV hw_m426 hw_m427 hw_m428 hw_m2 hw_m429) rfl rfl rfl (by decide +kernel) ⟨(Nat.le_of_ble_eq_true rfl), (Nat.le_of_ble_eq_true rfl)⟩) (hw_preV (ci := 11) hE hR rfl (by decide) (hw_q_of ht2)) rfl rfl hl.sz rfl (lv_room (Nat.le_of_ble_eq_true rfl)) dX11_run_2 ⟨(Nat.le_of_ble_eq_true rfl), (Nat.le_of_ble_eq_true rfl)⟩) ?_
  refine hw_asto (lv' := [(4, hw_vr b v2), (0, hw_vr b (some x0)), (1, .int l1), (2, .int l2), (3, .int l3)]) hx hb dX11_run_5 hl (by decide) (by decide) rfl (fun ls hl => ?_)
  refine hw_aload_n hx hb dX11_run_7 rfl (hl.at 1 rfl) ?_
  refine lv_iload_n hx hb dX11_run_8 rfl (hl.at 3 rfl) ?_
  obtain ⟨a9, g9, hm⟩ := hw_bs hm
  obtain ⟨rfl, ht9⟩ := hw_rv_th g9
  obtain ⟨v9, e9, hm⟩ := hw_bs hm
  refine hw_cRP (va_runV (As := [.int l2]) (rest := []) ⟨hx, hb, hml, hown, hts⟩ (c11_stuffAt l D b e9) (cwV 1 hts (hw_gV hw_m121 hw_m122 hw_m123 hw_m2 hw_m124) rfl rfl rfl (by decide +kernel) ⟨(Nat.le_of_ble_eq_true rfl), (Nat.le_of_ble_eq_true rfl)⟩) (hw_preV (ci := 11) hE hR rfl (by decide) (hw_q_of ht9)) rfl rfl hl.sz rfl (lv_room (Nat.le_of_ble_eq_true rfl)) dX11_run_9 ⟨(Nat.le_of_ble_eq_true rfl), (Nat.le_of_ble_eq_true rfl)⟩) ?_
  refine hw_asto (lv' := [(5, hw_vr b v9), (4, hw_vr b v2), (0, hw_vr b (some x0)), (1, .int l1), (2, .int l2), (3, .int l3)]) hx hb dX11_run_12 hl (by decide) (by decide) rfl (fun ls hl => ?_)
  refine hw_aload hx hb dX11_run_14 (hl.at 1 rfl) ?_
  refine hw_ifnull (tgt := 32) hx hb dX11_run_16 (by decide) (fun c16 => ?_) (fun c16 => ?_)
  · have hm := hw_ip hm c16
    exact w11_run_b32 C0 hm hR hS (hl.sub [2] rfl)
  · have hm := hw_in hm c16
    refine hw_aload hx hb dX11_run_19 (hl.at 0 rfl) ?_
    refine hw_ifnull (tgt := 32) hx hb dX11_run_21 (by decide) (fun c21 => ?_) (fun c21 => ?_)
    · have hm := hw_ip hm c21
      exact w11_run_b32 C0 hm hR hS (hl.sub [2] rfl)
    · have hm := hw_in hm c21
      refine hw_aload_n hx hb dX11_run_24 rfl (hl.at 2 rfl) ?_
      refine lv_iload_n hx hb dX11_run_25 rfl (hl.at 5 rfl) ?_
      obtain ⟨a26, g26, hm⟩ := hw_bs hm
      obtain ⟨rfl, ht26⟩ := hw_rv_th g26
      obtain ⟨v26, e26, hm⟩ := hw_bs hm
      refine hw_cRI (va_runV (As := [.int l3]) (rest := []) ⟨hx, hb, hml, hown, hts⟩ (c11_isToldOfRun l D b e26) (cwV 1 hts (hw_gV hw_m614 hw_m615 hw_m616 hw_m2 hw_m617) rfl rfl rfl (by decide +kernel) ⟨(Nat.le_of_ble_eq_true rfl), (Nat.le_of_ble_eq_true rfl)⟩) (hw_preV (ci := 11) hE hR rfl (by decide) (hw_q_of ht26)) rfl rfl hl.sz rfl (lv_room (Nat.le_of_ble_eq_true rfl)) dX11_run_26 ⟨(Nat.le_of_ble_eq_true rfl), (Nat.le_of_ble_eq_true rfl)⟩) ?_
      refine lv_if_ne (tgt := 34) hx hb dX11_run_29 (by decide) (fun c29 => ?_) (fun c29 => ?_)
      · have hm := hw_in hm c29
        refine hw_aload_n hx hb dX11_run_34 rfl (hl.at 2 rfl) ?_
        refine hw_aload hx hb dX11_run_35 (hl.at 1 rfl) ?_
        refine hw_aload hx hb dX11_run_37 (hl.at 0 rfl) ?_
        obtain ⟨a39, g39, hm⟩ := hw_bs hm
        obtain ⟨rfl, ht39⟩ := hw_rv_th g39
        obtain ⟨v39, σ39, e39, hm⟩ := hw_bs2 hm
        refine hw_cWI (va_runV (As := [hw_vr b v2, hw_vr b v9]) (rest := []) ⟨hx, hb, hml, hown, hts⟩ (c11_goThroughRun l D b e39) (cwV 2 hts (hw_gV hw_m618 hw_m619 hw_m620 hw_m2 hw_m621) rfl rfl rfl (by decide +kernel) ⟨(Nat.le_of_ble_eq_true rfl), (Nat.le_of_ble_eq_true rfl)⟩) (hw_preV (ci := 11) hE hR rfl (by decide) (hw_q_of ht39)) rfl rfl hl.sz rfl (lv_room (Nat.le_of_ble_eq_true rfl)) dX11_run_39 ⟨(Nat.le_of_ble_eq_true rfl), (Nat.le_of_ble_eq_true rfl)⟩) hS (fun _ _ hR hS => ?_)
        refine hw_istore (lv' := [(6, .int v39), (5, hw_vr b v9), (4, hw_vr b v2), (0, hw_vr b (some x0)), (1, .int l1), (2, .int l2), (3, .int l3)]) hx hb dX11_run_42 hl (by decide) (by decide) rfl (fun ls hl => ?_)
        refine lv_iload_n hx hb dX11_run_44 rfl (hl.at 6 rfl) ?_
        refine lv_bipush (v := 100) hx hb dX11_run_45 (by decide) ?_
        obtain ⟨v47, e47, hm⟩ := hw_bs hm
        refine hw_irem hx hb e47 dX11_run_47 ?_
        refine hw_istore (lv' := [(7, .int v47), (6, .int v39), (5, hw_vr b v9), (4, hw_vr b v2), (0, hw_vr b (some x0)), (1, .int l1), (2, .int l2), (3, .int l3)]) hx hb dX11_run_48 hl (by decide) (by decide) rfl (fun ls hl => ?_)
        refine lv_iload_n hx hb dX11_run_50 rfl (hl.at 7 rfl) ?_
        refine lv_bipush (v := 100) hx hb dX11_run_51 (by decide) ?_
        obtain ⟨v53, e53, hm⟩ := hw_bs hm
        refine hw_idiv hx hb e53 dX11_run_53 ?_
        refine hw_case v53 (1) (fun c54_0 => ?_) (fun c54_0 => ?_)
        · have hm := hw_ip hm c54_0
          refine lv_tableIn (off := 26) (tgt := 80) hx hb dX11_run_54 (by rw [c54_0]; decide) (by rw [c54_0]; decide) (by rw [c54_0]; rfl) (by decide) ?_
          refine hw_aload_n hx hb dX11_run_80 rfl (hl.at 4 rfl) ?_
          obtain ⟨v81, e81, hm⟩ := hw_bs hm
          refine hw_getP hx hb hw_cf11 hts hown hK hR e81 (by decide) rfl (hts _ hw_m28) (fun _ h9 => h9) dX11_run_81 ?_
          refine lv_iload hx hb dX11_run_84 (hl.at 0 rfl) ?_
          obtain ⟨v86, e86, hm⟩ := hw_bs hm
          refine hw_iald hx hb hK hR e86 dX11_run_86 ?_
          exact hw_rWI hx hb hr hlk hR hS hm dX11_run_87
        · have hm := hw_in hm c54_0
          refine hw_case v53 (2) (fun c54_1 => ?_) (fun c54_1 => ?_)
          · have hm := hw_ip hm c54_1
            refine lv_tableIn (off := 34) (tgt := 88) hx hb dX11_run_54 (by rw [c54_1]; decide) (by rw [c54_1]; decide) (by rw [c54_1]; rfl) (by decide) ?_
            refine hw_aload_n hx hb dX11_run_88 rfl (hl.at 4 rfl) ?_
            obtain ⟨v89, e89, hm⟩ := hw_bs hm
            refine hw_getP hx hb hw_cf11 hts hown hK hR e89 (by decide) rfl (hts _ hw_m29) (fun _ h9 => h9) dX11_run_89 ?_
            refine lv_iload hx hb dX11_run_92 (hl.at 0 rfl) ?_
            obtain ⟨v94, e94, hm⟩ := hw_bs hm
            refine hw_iald hx hb hK hR e94 dX11_run_94 ?_
            exact hw_rWI hx hb hr hlk hR hS hm dX11_run_95
          · have hm := hw_in hm c54_1
            refine hw_case v53 (3) (fun c54_2 => ?_) (fun c54_2 => ?_)
            · have hm := hw_ip hm c54_2
              refine lv_tableIn (off := 42) (tgt := 96) hx hb dX11_run_54 (by rw [c54_2]; decide) (by rw [c54_2]; decide) (by rw [c54_2]; rfl) (by decide) ?_
              refine hw_aload_n hx hb dX11_run_96 rfl (hl.at 4 rfl) ?_
              obtain ⟨v97, e97, hm⟩ := hw_bs hm
              refine hw_getP hx hb hw_cf11 hts hown hK hR e97 (by decide) rfl (hts _ hw_m30) (fun _ h9 => h9) dX11_run_97 ?_
              refine lv_iload hx hb dX11_run_100 (hl.at 0 rfl) ?_
              obtain ⟨v102, e102, hm⟩ := hw_bs hm
              refine hw_iald hx hb hK hR e102 dX11_run_102 ?_
              exact hw_rWI hx hb hr hlk hR hS hm dX11_run_103
            · have hm := hw_in hm c54_2
              refine lv_tableOut (tgt := 104) hx hb dX11_run_54 (by have h0 := hw_ne (1) c54_0 rfl; have h1 := hw_ne (2) c54_1 rfl; have h2 := hw_ne (3) c54_2 rfl; omega) (by decide) ?_
              refine lv_iload_n hx hb dX11_run_104 rfl (hl.at 7 rfl) ?_
              refine lv_if_ne (tgt := 111) hx hb dX11_run_105 (by decide) (fun c105 => ?_) (fun c105 => ?_)
              · have hm := hw_in hm c105
                refine lv_iload_n hx hb dX11_run_111 rfl (hl.at 7 rfl) ?_
                refine lv_iconst (v := 1) hx hb dX11_run_112 (by decide) ?_
                refine lv_icmp_ne (tgt := 123) hx hb dX11_run_113 (by decide) (fun c113 => ?_) (fun c113 => ?_)
                · have hm := hw_in hm c113
                  refine hw_aload_n hx hb dX11_run_123 rfl (hl.at 4 rfl) ?_
                  obtain ⟨a124, g124, hm⟩ := hw_bs hm
                  obtain ⟨rfl, ht124⟩ := hw_rv_th g124
                  obtain ⟨v124, e124, hm⟩ := hw_bs hm
                  refine hw_cRI (va_runV (As := []) (rest := []) ⟨hx, hb, hml, hown, hts⟩ (c11_runFormChanges l D b e124) (cwV 0 hts (hw_gV hw_m662 hw_m663 hw_m664 hw_m2 hw_m665) rfl rfl rfl (by decide +kernel) ⟨(Nat.le_of_ble_eq_true rfl), (Nat.le_of_ble_eq_true rfl)⟩) (hw_preV (ci := 11) hE hR rfl (by decide) (hw_q_of ht124)) rfl rfl hl.sz rfl (lv_room (Nat.le_of_ble_eq_true rfl)) dX11_run_124 ⟨(Nat.le_of_ble_eq_true rfl), (Nat.le_of_ble_eq_true rfl)⟩) ?_
                  exact w11_run_b127 C0 hm hR hS (hl.sub [4] rfl)
                · have hm := hw_ip hm c113
                  refine hw_aload_n hx hb dX11_run_116 rfl (hl.at 4 rfl) ?_
                  obtain ⟨a117, g117, hm⟩ := hw_bs hm
                  obtain ⟨rfl, ht117⟩ := hw_rv_th g117
                  obtain ⟨v117, e117, hm⟩ := hw_bs hm
                  refine hw_cRI (va_runV (As := []) (rest := []) ⟨hx, hb, hml, hown, hts⟩ (c11_allRunTurns l D b e117) (cwV 0 hts (hw_gV hw_m658 hw_m659 hw_m660 hw_m2 hw_m661) rfl rfl rfl (by decide +kernel) ⟨(Nat.le_of_ble_eq_true rfl), (Nat.le_of_ble_eq_true rfl)⟩) (hw_preV (ci := 11) hE hR rfl (by decide) (hw_q_of ht117)) rfl rfl hl.sz rfl (lv_room (Nat.le_of_ble_eq_true rfl)) dX11_run_117 ⟨(Nat.le_of_ble_eq_true rfl), (Nat.le_of_ble_eq_true rfl)⟩) ?_
                  refine lv_goto (tgt := 127) hx hb dX11_run_120 (by decide) ?_
                  exact w11_run_b127 C0 hm hR hS (hl.sub [4] rfl)
              · have hm := hw_ip hm c105
                refine lv_iload hx hb dX11_run_108 (hl.at 1 rfl) ?_
                exact hw_rWI hx hb hr hlk hR hS hm dX11_run_110
      · have hm := hw_ip hm c29
        exact w11_run_b32 C0 hm hR hS (hl.sub [2] rfl)
set_option maxRecDepth 100000 in
theorem c11_run (l : Launch) (D : hw_D) (b : Nat) {x0 : Nat} {l1 : Int32} {l2 : Int32} {l3 : Int32} {σ : hw_S} {r : Int32} {τ : hw_S} (hm : m11_run x0 l1 l2 l3 σ = some (r, τ)) : Met l yX11_run (Cond.code yX11_run cX11_run 8 (some .int) :: wsL_law) rm11_run (hw_P1 D b σ [hw_vr b (some x0), .int l1, .int l2, .int l3]) (hw_QI D b τ r) 0 0 (fun q => b ≤ q) := by
  refine hw_start1 (by decide +kernel) (by exact Nat.le_of_ble_eq_true rfl) ?_
  intro p e s m below meth c ls C0 hR hS hl
  have hl : lv_has ls 8 [(0, hw_vr b (some x0)), (1, .int l1), (2, .int l2), (3, .int l3)] := by exact hl
  exact w11_run_s hm C0 hR hS ⟨hl, (List.forall_mem_cons.mpr ⟨(fun h => by rw [show (hw_vr b (some x0) : Value).category = 1 from (hw_vr_cat _ _)] at h; cases h), (List.forall_mem_cons.mpr ⟨(fun h => absurd (show (1 : Nat) = 2 from h) (by decide)), (List.forall_mem_cons.mpr ⟨(fun h => absurd (show (1 : Nat) = 2 from h) (by decide)), (List.forall_mem_cons.mpr ⟨(fun h => absurd (show (1 : Nat) = 2 from h) (by decide)), (fun _ h => absurd h List.not_mem_nil)⟩)⟩)⟩)⟩)⟩

abbrev rm12_becomesHigh : Room := { frames := 0, cells := 0, slots := 0, locals := 0 }
def m12_becomesHigh_b45 (x0 : Nat) (t0 : Int32) (σ : hw_S) : Option Int32 :=
  (hw_tf t0).bind fun _ =>
  some t0
set_option maxRecDepth 100000 in
theorem w12_becomesHigh_b45 {p : Program} {l : Launch} {e : Env} {s : State} {m : MethodId} {args : Array Value} {below : List Frame} {meth : Method} {c : Code} {D : hw_D} {b : Nat} {r : Int32} (C0 : hw_C p s m args meth c D yX12_becomesHigh cX12_becomesHigh 3 (some .boolean)) {x0 : Nat} {t0 : Int32} {σ : hw_S} (hm : m12_becomesHigh_b45 x0 t0 σ = some r) (hR : hw_R D b σ s.heap) {ls : Array Slot} (hl : hw_L ls 3 255 [(0, hw_vr b (some x0))]) : W p l e rm12_becomesHigh s m args below meth c s.heap [] 0 0 (MQ below (hw_RI r) args s 0 0 hw_nof) (F0 m 45 ls [.int t0]) := by
  obtain ⟨hx, hb, hml, hr, hown, hts, hlk, hE, hnm⟩ := id C0
  have hown : s.vm.findClass RX12 = some m.cls := hown
  have hK := hE.1
  unfold m12_becomesHigh_b45 at hm
  obtain ⟨_, z45, hm⟩ := hw_bs hm
  exact hw_rRZ hx hb hr hlk z45 hm dX12_becomesHigh_45
def m12_becomesHigh_b40 (x0 : Nat) (σ : hw_S) : Option Int32 :=
  m12_becomesHigh_b45 x0 (1 : Int32) σ
set_option maxRecDepth 100000 in
theorem w12_becomesHigh_b40 {p : Program} {l : Launch} {e : Env} {s : State} {m : MethodId} {args : Array Value} {below : List Frame} {meth : Method} {c : Code} {D : hw_D} {b : Nat} {r : Int32} (C0 : hw_C p s m args meth c D yX12_becomesHigh cX12_becomesHigh 3 (some .boolean)) {x0 : Nat} {σ : hw_S} (hm : m12_becomesHigh_b40 x0 σ = some r) (hR : hw_R D b σ s.heap) {ls : Array Slot} (hl : hw_L ls 3 255 [(0, hw_vr b (some x0))]) : W p l e rm12_becomesHigh s m args below meth c s.heap [] 0 0 (MQ below (hw_RI r) args s 0 0 hw_nof) (F0 m 40 ls []) := by
  obtain ⟨hx, hb, hml, hr, hown, hts, hlk, hE, hnm⟩ := id C0
  have hown : s.vm.findClass RX12 = some m.cls := hown
  have hK := hE.1
  unfold m12_becomesHigh_b40 at hm
  refine lv_iconst (v := 1) hx hb dX12_becomesHigh_40 (by decide) ?_
  refine lv_goto (tgt := 45) hx hb dX12_becomesHigh_41 (by decide) ?_
  exact w12_becomesHigh_b45 C0 hm hR (hl.sub [0] rfl)
def m12_becomesHigh_b44 (x0 : Nat) (σ : hw_S) : Option Int32 :=
  m12_becomesHigh_b45 x0 (0 : Int32) σ
set_option maxRecDepth 100000 in
theorem w12_becomesHigh_b44 {p : Program} {l : Launch} {e : Env} {s : State} {m : MethodId} {args : Array Value} {below : List Frame} {meth : Method} {c : Code} {D : hw_D} {b : Nat} {r : Int32} (C0 : hw_C p s m args meth c D yX12_becomesHigh cX12_becomesHigh 3 (some .boolean)) {x0 : Nat} {σ : hw_S} (hm : m12_becomesHigh_b44 x0 σ = some r) (hR : hw_R D b σ s.heap) {ls : Array Slot} (hl : hw_L ls 3 255 [(0, hw_vr b (some x0))]) : W p l e rm12_becomesHigh s m args below meth c s.heap [] 0 0 (MQ below (hw_RI r) args s 0 0 hw_nof) (F0 m 44 ls []) := by
  obtain ⟨hx, hb, hml, hr, hown, hts, hlk, hE, hnm⟩ := id C0
  have hown : s.vm.findClass RX12 = some m.cls := hown
  have hK := hE.1
  unfold m12_becomesHigh_b44 at hm
  refine lv_iconst (v := 0) hx hb dX12_becomesHigh_44 (by decide) ?_
  exact w12_becomesHigh_b45 C0 hm hR (hl.sub [0] rfl)
def m12_becomesHigh (x0 : Nat) (l1 : Int32) (l2 : Int32) (σ : hw_S) : Option Int32 :=
  (hw_gP (hw_q 12) 1 (some x0) σ).bind fun v4 =>
  (hw_aI 0 v4 ((148 : Int32) + l1) σ).bind fun v12 =>
  (if ((10 : Int32) * v12) < l2 then
  m12_becomesHigh_b40 x0 σ
  else
  (hw_gI (hw_q 12) 15 (some x0) σ).bind fun v18 =>
  (if v18 = 0 then
  m12_becomesHigh_b44 x0 σ
  else
  (hw_gP (hw_q 12) 1 (some x0) σ).bind fun v27 =>
  (hw_aI 0 v27 ((148 : Int32) + l1) σ).bind fun v35 =>
  (if l2 < ((5 : Int32) * v35) then
  m12_becomesHigh_b44 x0 σ
  else
  m12_becomesHigh_b40 x0 σ)))
set_option maxRecDepth 100000 in
theorem w12_becomesHigh_s {p : Program} {l : Launch} {e : Env} {s : State} {m : MethodId} {args : Array Value} {below : List Frame} {meth : Method} {c : Code} {D : hw_D} {b : Nat} {x0 : Nat} {l1 : Int32} {l2 : Int32} {σ : hw_S} {r : Int32} (hm : m12_becomesHigh x0 l1 l2 σ = some r) (C0 : hw_C p s m args meth c D yX12_becomesHigh cX12_becomesHigh 3 (some .boolean)) (hR : hw_R D b σ s.heap) {ls : Array Slot} (hl : hw_L ls 3 255 [(0, hw_vr b (some x0)), (1, .int l1), (2, .int l2)]) : W p l e rm12_becomesHigh s m args below meth c s.heap [] 0 0 (MQ below (hw_RI r) args s 0 0 hw_nof) (F0 m 0 ls []) := by
  obtain ⟨hx, hb, hml, hr, hown, hts, hlk, hE, hnm⟩ := id C0
  have hown : s.vm.findClass RX12 = some m.cls := hown
  have hK := hE.1
  unfold m12_becomesHigh at hm
  refine lv_iload_n hx hb dX12_becomesHigh_0 rfl (hl.at 2 rfl) ?_
  refine lv_bipush (v := 10) hx hb dX12_becomesHigh_1 (by decide) ?_
  refine hw_aload_n hx hb dX12_becomesHigh_3 rfl (hl.at 0 rfl) ?_
  obtain ⟨v4, e4, hm⟩ := hw_bs hm
  refine hw_getP hx hb hw_cf12 hts hown hK hR e4 (by decide) rfl (hts _ hw_m76) (fun _ h9 => h9) dX12_becomesHigh_4 ?_
  refine lv_sipush (v := 148) hx hb dX12_becomesHigh_7 (by decide) ?_
  refine lv_iload_n hx hb dX12_becomesHigh_10 rfl (hl.at 1 rfl) ?_
  refine lv_iadd hx hb dX12_becomesHigh_11 ?_
  obtain ⟨v12, e12, hm⟩ := hw_bs hm
  refine hw_iald hx hb hK hR e12 dX12_becomesHigh_12 ?_
  refine lv_imul hx hb dX12_becomesHigh_13 ?_
  refine lv_icmp_gt (tgt := 40) hx hb dX12_becomesHigh_14 (by decide) (fun c14 => ?_) (fun c14 => ?_)
  · have hm := hw_ip hm c14
    exact w12_becomesHigh_b40 C0 hm hR (hl.sub [0] rfl)
  · have hm := hw_in hm c14
    refine hw_aload_n hx hb dX12_becomesHigh_17 rfl (hl.at 0 rfl) ?_
    obtain ⟨v18, e18, hm⟩ := hw_bs hm
    refine hw_getI hx hb hw_cf12 hts hown hK hR e18 (by decide) rfl (hts _ hw_m675) (fun _ h9 => h9) dX12_becomesHigh_18 ?_
    refine lv_if_eq (tgt := 44) hx hb dX12_becomesHigh_21 (by decide) (fun c21 => ?_) (fun c21 => ?_)
    · have hm := hw_ip hm c21
      exact w12_becomesHigh_b44 C0 hm hR (hl.sub [0] rfl)
    · have hm := hw_in hm c21
      refine lv_iload_n hx hb dX12_becomesHigh_24 rfl (hl.at 2 rfl) ?_
      refine lv_iconst (v := 5) hx hb dX12_becomesHigh_25 (by decide) ?_
      refine hw_aload_n hx hb dX12_becomesHigh_26 rfl (hl.at 0 rfl) ?_
      obtain ⟨v27, e27, hm⟩ := hw_bs hm
      refine hw_getP hx hb hw_cf12 hts hown hK hR e27 (by decide) rfl (hts _ hw_m76) (fun _ h9 => h9) dX12_becomesHigh_27 ?_
      refine lv_sipush (v := 148) hx hb dX12_becomesHigh_30 (by decide) ?_
      refine lv_iload_n hx hb dX12_becomesHigh_33 rfl (hl.at 1 rfl) ?_
      refine lv_iadd hx hb dX12_becomesHigh_34 ?_
      obtain ⟨v35, e35, hm⟩ := hw_bs hm
      refine hw_iald hx hb hK hR e35 dX12_becomesHigh_35 ?_
      refine lv_imul hx hb dX12_becomesHigh_36 ?_
      refine lv_icmp_lt (tgt := 44) hx hb dX12_becomesHigh_37 (by decide) (fun c37 => ?_) (fun c37 => ?_)
      · have hm := hw_ip hm c37
        exact w12_becomesHigh_b44 C0 hm hR (hl.sub [0] rfl)
      · have hm := hw_in hm c37
        exact w12_becomesHigh_b40 C0 hm hR (hl.sub [0] rfl)
set_option maxRecDepth 100000 in
theorem c12_becomesHigh (l : Launch) (D : hw_D) (b : Nat) {x0 : Nat} {l1 : Int32} {l2 : Int32} {σ : hw_S} {r : Int32} (hm : m12_becomesHigh x0 l1 l2 σ = some r) : Met l yX12_becomesHigh (Cond.code yX12_becomesHigh cX12_becomesHigh 3 (some .boolean) :: wsL_law) rm12_becomesHigh (hw_P1 D b σ [hw_vr b (some x0), .int l1, .int l2]) (hw_RI r) 0 0 hw_nof := by
  refine hw_start1 (by decide +kernel) (by exact Nat.le_of_ble_eq_true rfl) ?_
  intro p e s m below meth c ls C0 hR hS hl
  have hl : lv_has ls 3 [(0, hw_vr b (some x0)), (1, .int l1), (2, .int l2)] := by exact hl
  exact w12_becomesHigh_s hm C0 hR ⟨hl, (List.forall_mem_cons.mpr ⟨(fun h => by rw [show (hw_vr b (some x0) : Value).category = 1 from (hw_vr_cat _ _)] at h; cases h), (List.forall_mem_cons.mpr ⟨(fun h => absurd (show (1 : Nat) = 2 from h) (by decide)), (List.forall_mem_cons.mpr ⟨(fun h => absurd (show (1 : Nat) = 2 from h) (by decide)), (fun _ h => absurd h List.not_mem_nil)⟩)⟩)⟩)⟩
