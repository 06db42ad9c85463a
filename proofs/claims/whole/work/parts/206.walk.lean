abbrev rm11_several : Room := { frames := 5, cells := 0, slots := 0, locals := 120 }
def m11_several_b34 (x0 : Nat) (σ : hw_S) : Option (Int32 × hw_S) :=
  some (((-1) : Int32), σ)
set_option maxRecDepth 100000 in
theorem w11_several_b34 {p : Program} {l : Launch} {e : Env} {s : State} {m : MethodId} {args : Array Value} {below : List Frame} {meth : Method} {c : Code} {D : hw_D} {b : Nat} {r : Int32} {τ : hw_S} (C0 : hw_C p s m args meth c D yX11_several cX11_several 11 (some .int)) {x0 : Nat} {σ : hw_S} {H : Heap} {locs : List Loc} (hm : m11_several_b34 x0 σ = some (r, τ)) (hR : hw_R D b σ H) (hS : va_S (fun q => b ≤ q) s.heap H locs) {ls : Array Slot} (hl : hw_L ls 11 255 [(0, hw_vr b (some x0))]) : W p l e rm11_several s m args below meth c H locs 0 0 (MQ below (hw_QI D b τ r) args s 0 0 (fun q => b ≤ q)) (F0 m 34 ls []) := by
  obtain ⟨hx, hb, hml, hr, hown, hts, hlk, hE, hnm⟩ := id C0
  have hown : s.vm.findClass RX11 = some m.cls := hown
  have hK := hE.1
  unfold m11_several_b34 at hm
  refine lv_iconst (v := (-1)) hx hb dX11_several_34 (by decide) ?_
  exact hw_rWI hx hb hr hlk hR hS hm dX11_several_35
def m11_several_b124 (k78 : Nat → Int32 → Int32 → Int32 → Int32 → Int32 → hw_S → Option (Int32 × hw_S)) (x0 : Nat) (l4 : Int32) (l7 : Int32) (l8 : Int32) (l9 : Int32) (l10 : Int32) (σ : hw_S) : Option (Int32 × hw_S) :=
  k78 x0 l4 l7 l8 l9 (l10 + 1) σ
set_option maxRecDepth 100000 in
theorem w11_several_b124 {p : Program} {l : Launch} {e : Env} {s : State} {m : MethodId} {args : Array Value} {below : List Frame} {meth : Method} {c : Code} {D : hw_D} {b : Nat} {k78 : Nat → Int32 → Int32 → Int32 → Int32 → Int32 → hw_S → Option (Int32 × hw_S)} {r : Int32} {τ : hw_S} (C0 : hw_C p s m args meth c D yX11_several cX11_several 11 (some .int)) (hk78 : ∀ {x0 : Nat} {l4 : Int32} {l7 : Int32} {l8 : Int32} {l9 : Int32} {l10 : Int32} {σ : hw_S} {H : Heap} {locs : List Loc} {ls : Array Slot}, k78 x0 l4 l7 l8 l9 l10 σ = some (r, τ) → hw_R D b σ H → va_S (fun q => b ≤ q) s.heap H locs → hw_L ls 11 255 [(0, hw_vr b (some x0)), (4, .int l4), (7, .int l7), (8, .int l8), (9, .int l9), (10, .int l10)] → W p l e rm11_several s m args below meth c H locs 0 0 (MQ below (hw_QI D b τ r) args s 0 0 (fun q => b ≤ q)) (F0 m 78 ls [])) {x0 : Nat} {l4 : Int32} {l7 : Int32} {l8 : Int32} {l9 : Int32} {l10 : Int32} {σ : hw_S} {H : Heap} {locs : List Loc} (hm : m11_several_b124 k78 x0 l4 l7 l8 l9 l10 σ = some (r, τ)) (hR : hw_R D b σ H) (hS : va_S (fun q => b ≤ q) s.heap H locs) {ls : Array Slot} (hl : hw_L ls 11 255 [(0, hw_vr b (some x0)), (4, .int l4), (7, .int l7), (8, .int l8), (9, .int l9), (10, .int l10)]) : W p l e rm11_several s m args below meth c H locs 0 0 (MQ below (hw_QI D b τ r) args s 0 0 (fun q => b ≤ q)) (F0 m 124 ls []) := by
  obtain ⟨hx, hb, hml, hr, hown, hts, hlk, hE, hnm⟩ := id C0
  have hown : s.vm.findClass RX11 = some m.cls := hown
  have hK := hE.1
  unfold m11_several_b124 at hm
  refine hw_iinc (v := (l10 + 1)) (lv' := [(10, .int (l10 + 1)), (0, hw_vr b (some x0)), (4, .int l4), (7, .int l7), (8, .int l8), (9, .int l9)]) hx hb dX11_several_124 hl (k := 5) rfl rfl (by decide) (by decide) rfl (fun ls hl => ?_)
  refine lv_goto (tgt := 78) hx hb dX11_several_127 (by decide) ?_
  exact hk78 hm hR hS (hl.sub [1, 2, 3, 4, 5, 0] rfl)
def m11_several_b118 (k78 : Nat → Int32 → Int32 → Int32 → Int32 → Int32 → hw_S → Option (Int32 × hw_S)) (x0 : Nat) (l4 : Int32) (l7 : Int32) (l10 : Int32) (t0 : Int32) (σ : hw_S) : Option (Int32 × hw_S) :=
  m11_several_b124 k78 x0 l4 l7 t0 l10 l10 σ
set_option maxRecDepth 100000 in
theorem w11_several_b118 {p : Program} {l : Launch} {e : Env} {s : State} {m : MethodId} {args : Array Value} {below : List Frame} {meth : Method} {c : Code} {D : hw_D} {b : Nat} {k78 : Nat → Int32 → Int32 → Int32 → Int32 → Int32 → hw_S → Option (Int32 × hw_S)} {r : Int32} {τ : hw_S} (C0 : hw_C p s m args meth c D yX11_several cX11_several 11 (some .int)) (hk78 : ∀ {x0 : Nat} {l4 : Int32} {l7 : Int32} {l8 : Int32} {l9 : Int32} {l10 : Int32} {σ : hw_S} {H : Heap} {locs : List Loc} {ls : Array Slot}, k78 x0 l4 l7 l8 l9 l10 σ = some (r, τ) → hw_R D b σ H → va_S (fun q => b ≤ q) s.heap H locs → hw_L ls 11 255 [(0, hw_vr b (some x0)), (4, .int l4), (7, .int l7), (8, .int l8), (9, .int l9), (10, .int l10)] → W p l e rm11_several s m args below meth c H locs 0 0 (MQ below (hw_QI D b τ r) args s 0 0 (fun q => b ≤ q)) (F0 m 78 ls [])) {x0 : Nat} {l4 : Int32} {l7 : Int32} {l10 : Int32} {t0 : Int32} {σ : hw_S} {H : Heap} {locs : List Loc} (hm : m11_several_b118 k78 x0 l4 l7 l10 t0 σ = some (r, τ)) (hR : hw_R D b σ H) (hS : va_S (fun q => b ≤ q) s.heap H locs) {ls : Array Slot} (hl : hw_L ls 11 255 [(0, hw_vr b (some x0)), (4, .int l4), (7, .int l7), (10, .int l10)]) : W p l e rm11_several s m args below meth c H locs 0 0 (MQ below (hw_QI D b τ r) args s 0 0 (fun q => b ≤ q)) (F0 m 118 ls [.int t0]) := by
  obtain ⟨hx, hb, hml, hr, hown, hts, hlk, hE, hnm⟩ := id C0
  have hown : s.vm.findClass RX11 = some m.cls := hown
  have hK := hE.1
  unfold m11_several_b118 at hm
  refine hw_istore (lv' := [(8, .int t0), (0, hw_vr b (some x0)), (4, .int l4), (7, .int l7), (10, .int l10)]) hx hb dX11_several_118 hl (by decide) (by decide) rfl (fun ls hl => ?_)
  refine lv_iload hx hb dX11_several_120 (hl.at 4 rfl) ?_
  refine hw_istore (lv' := [(9, .int l10), (8, .int t0), (0, hw_vr b (some x0)), (4, .int l4), (7, .int l7), (10, .int l10)]) hx hb dX11_several_122 hl (by decide) (by decide) rfl (fun ls hl => ?_)
  exact w11_several_b124 C0 hk78 hm hR hS (hl.sub [2, 3, 4, 1, 0, 5] rfl)
def m11_several_b78 : Nat → Nat → Int32 → Int32 → Int32 → Int32 → Int32 → hw_S → Option (Int32 × hw_S)
  | 0, _, _, _, _, _, _, _ => none
  | n + 1, x0, l4, l7, l8, l9, l10, σ =>
  (if (60 : Int32) < l10 then
  (m11_pick l4 l7 l8 l9).bind fun v138 =>
  some (v138, σ)
  else
  (hw_gP (hw_q 11) 8 (some x0) σ).bind fun v86 =>
  (hw_aI 0 v86 l10 σ).bind fun v91 =>
  (hw_gP (hw_q 11) 9 (some x0) σ).bind fun v93 =>
  (hw_aI 0 v93 l10 σ).bind fun v98 =>
  (if v91 = v98 then
  m11_several_b124 (m11_several_b78 n) x0 l4 l7 l8 l9 l10 σ
  else
  (if (l7 + 1) = (1 : Int32) then
  m11_several_b118 (m11_several_b78 n) x0 l4 (l7 + 1) l10 l10 σ
  else
  m11_several_b118 (m11_several_b78 n) x0 l4 (l7 + 1) l10 l8 σ)))
set_option maxRecDepth 100000 in
theorem w11_several_b78 {p : Program} {l : Launch} {e : Env} {s : State} {m : MethodId} {args : Array Value} {below : List Frame} {meth : Method} {c : Code} {D : hw_D} {b : Nat} {r : Int32} {τ : hw_S} (C0 : hw_C p s m args meth c D yX11_several cX11_several 11 (some .int)) : ∀ (n : Nat) {x0 : Nat} {l4 : Int32} {l7 : Int32} {l8 : Int32} {l9 : Int32} {l10 : Int32} {σ : hw_S} {H : Heap} {locs : List Loc} {ls : Array Slot}, m11_several_b78 n x0 l4 l7 l8 l9 l10 σ = some (r, τ) → hw_R D b σ H → va_S (fun q => b ≤ q) s.heap H locs → hw_L ls 11 255 [(0, hw_vr b (some x0)), (4, .int l4), (7, .int l7), (8, .int l8), (9, .int l9), (10, .int l10)] → W p l e rm11_several s m args below meth c H locs 0 0 (MQ below (hw_QI D b τ r) args s 0 0 (fun q => b ≤ q)) (F0 m 78 ls []) := by
  obtain ⟨hx, hb, hml, hr, hown, hts, hlk, hE, hnm⟩ := id C0
  have hown : s.vm.findClass RX11 = some m.cls := hown
  have hK := hE.1
  intro n
  induction n with
  | zero => intro _ _ _ _ _ _ _ _ _ _ hm; cases hm
  | succ n ih =>
    intro x0 l4 l7 l8 l9 l10 σ H locs ls hm hR hS hl
    rw [m11_several_b78] at hm
    refine lv_iload hx hb dX11_several_78 (hl.at 5 rfl) ?_
    refine lv_bipush (v := 60) hx hb dX11_several_80 (by decide) ?_
    refine lv_icmp_gt (tgt := 130) hx hb dX11_several_82 (by decide) (fun c82 => ?_) (fun c82 => ?_)
    · have hm := hw_ip hm c82
      refine lv_iload hx hb dX11_several_130 (hl.at 1 rfl) ?_
      refine lv_iload hx hb dX11_several_132 (hl.at 2 rfl) ?_
      refine lv_iload hx hb dX11_several_134 (hl.at 3 rfl) ?_
      refine lv_iload hx hb dX11_several_136 (hl.at 4 rfl) ?_
      obtain ⟨v138, e138, hm⟩ := hw_bs hm
      refine hw_cRI (va_runS (As := [.int l4, .int l7, .int l8, .int l9]) (rest := []) ⟨hx, hb, hml, hown, hts⟩ (c11_pick l D e138) (cwS 4 hts (hw_gS hw_m724 hw_m725 hw_m2 hw_m726) rfl rfl rfl (by decide +kernel) ⟨(Nat.le_of_ble_eq_true rfl), (Nat.le_of_ble_eq_true rfl)⟩) (hw_pre0 hE) rfl rfl hl.sz rfl (lv_room (Nat.le_of_ble_eq_true rfl)) dX11_several_138 ⟨(Nat.le_of_ble_eq_true rfl), (Nat.le_of_ble_eq_true rfl)⟩) ?_
      exact hw_rWI hx hb hr hlk hR hS hm dX11_several_141
    · have hm := hw_in hm c82
      refine hw_aload_n hx hb dX11_several_85 rfl (hl.at 0 rfl) ?_
      obtain ⟨v86, e86, hm⟩ := hw_bs hm
      refine hw_getP hx hb hw_cf11 hts hown hK hR e86 (by decide) rfl (hts _ hw_m31) (fun _ h9 => h9) dX11_several_86 ?_
      refine lv_iload hx hb dX11_several_89 (hl.at 5 rfl) ?_
      obtain ⟨v91, e91, hm⟩ := hw_bs hm
      refine hw_iald hx hb hK hR e91 dX11_several_91 ?_
      refine hw_aload_n hx hb dX11_several_92 rfl (hl.at 0 rfl) ?_
      obtain ⟨v93, e93, hm⟩ := hw_bs hm
      refine hw_getP hx hb hw_cf11 hts hown hK hR e93 (by decide) rfl (hts _ hw_m32) (fun _ h9 => h9) dX11_several_93 ?_
      refine lv_iload hx hb dX11_several_96 (hl.at 5 rfl) ?_
      obtain ⟨v98, e98, hm⟩ := hw_bs hm
      refine hw_iald hx hb hK hR e98 dX11_several_98 ?_
      refine lv_icmp_eq (tgt := 124) hx hb dX11_several_99 (by decide) (fun c99 => ?_) (fun c99 => ?_)
      · have hm := hw_ip hm c99
        exact w11_several_b124 C0 ih hm hR hS (hl.sub [0, 1, 2, 3, 4, 5] rfl)
      · have hm := hw_in hm c99
        refine hw_iinc (v := (l7 + 1)) (lv' := [(7, .int (l7 + 1)), (0, hw_vr b (some x0)), (4, .int l4), (8, .int l8), (9, .int l9), (10, .int l10)]) hx hb dX11_several_102 hl (k := 2) rfl rfl (by decide) (by decide) rfl (fun ls hl => ?_)
        refine lv_iload hx hb dX11_several_105 (hl.at 0 rfl) ?_
        refine lv_iconst (v := 1) hx hb dX11_several_107 (by decide) ?_
        refine lv_icmp_ne (tgt := 116) hx hb dX11_several_108 (by decide) (fun c108 => ?_) (fun c108 => ?_)
        · have hm := hw_in hm c108
          refine lv_iload hx hb dX11_several_116 (hl.at 3 rfl) ?_
          exact w11_several_b118 C0 ih hm hR hS (hl.sub [1, 2, 0, 5] rfl)
        · have hm := hw_ip hm c108
          refine lv_iload hx hb dX11_several_111 (hl.at 5 rfl) ?_
          refine lv_goto (tgt := 118) hx hb dX11_several_113 (by decide) ?_
          exact w11_several_b118 C0 ih hm hR hS (hl.sub [1, 2, 0, 5] rfl)
def m11_several (x0 : Nat) (l1 : Int32) (l2 : Int32) (l3 : Int32) (l4 : Int32) (σ : hw_S) : Option (Int32 × hw_S) :=
  (hw_rv (hw_q 11) (some x0) σ).bind fun a2 =>
  (m11_lawAt x0 l1 σ).bind fun v2 =>
  (hw_rv (hw_q 11) (some x0) σ).bind fun a9 =>
  (m11_stuffAt x0 l2 σ).bind fun v9 =>
  (if v2 = none then
  m11_several_b34 x0 σ
  else
  (if v9 = none then
  m11_several_b34 x0 σ
  else
  (m11_isWithin l4 (0 : Int32) (2 : Int32)).bind fun v28 =>
  (if v28 = 0 then
  m11_several_b34 x0 σ
  else
  (m11_isFlow l3).bind fun v37 =>
  (if v37 = 0 then
  some (((-2) : Int32), σ)
  else
  (hw_rv (hw_q 11) (some x0) σ).bind fun a52 =>
  (m11_goUp x0 v2 v9 l3 σ).bind fun σ52 =>
  (hw_rv (hw_q 11) (some x0) σ52).bind fun a61 =>
  (m11_goDown x0 v2 v9 l3 σ52).bind fun σ61 =>
  m11_several_b78 hw_fu x0 l4 (0 : Int32) ((-5) : Int32) ((-5) : Int32) (1 : Int32) σ61))))
set_option maxRecDepth 100000 in
theorem w11_several_s {p : Program} {l : Launch} {e : Env} {s : State} {m : MethodId} {args : Array Value} {below : List Frame} {meth : Method} {c : Code} {D : hw_D} {b : Nat} {x0 : Nat} {l1 : Int32} {l2 : Int32} {l3 : Int32} {l4 : Int32} {σ : hw_S} {r : Int32} {τ : hw_S} {H : Heap} {locs : List Loc} (hm : m11_several x0 l1 l2 l3 l4 σ = some (r, τ)) (C0 : hw_C p s m args meth c D yX11_several cX11_several 11 (some .int)) (hR : hw_R D b σ H) (hS : va_S (fun q => b ≤ q) s.heap H locs) {ls : Array Slot} (hl : hw_L ls 11 255 [(0, hw_vr b (some x0)), (1, .int l1), (2, .int l2), (3, .int l3), (4, .int l4)]) : W p l e rm11_several s m args below meth c H locs 0 0 (MQ below (hw_QI D b τ r) args s 0 0 (fun q => b ≤ q)) (F0 m 0 ls []) := by
  obtain ⟨hx, hb, hml, hr, hown, hts, hlk, hE, hnm⟩ := id C0
  have hown : s.vm.findClass RX11 = some m.cls := hown
  have hK := hE.1
  unfold m11_several at hm
  refine hw_aload_n hx hb dX11_several_0 rfl (hl.at 0 rfl) ?_
  refine lv_iload_n hx hb dX11_several_1 rfl (hl.at 1 rfl) ?_
  obtain ⟨a2, g2, hm⟩ := hw_bs hm
  obtain ⟨rfl, ht2⟩ := hw_rv_th g2
  obtain ⟨v2, e2, hm⟩ := hw_bs hm
  refine hw_cRP (va_runV (As := [.int l1]) (rest := []) ⟨hx, hb, hml, hown, hts⟩ (c11_lawAt l D b e2) (cwV 1 hts (hw_gV hw_m426 hw_m427 hw_m428 hw_m2 hw_m429) rfl rfl rfl (by decide +kernel) ⟨(Nat.le_of_ble_eq_true rfl), (Nat.le_of_ble_eq_true rfl)⟩) (hw_preV (ci := 11) hE hR rfl (by decide) (hw_q_of ht2)) rfl rfl hl.sz rfl (lv_room (Nat.le_of_ble_eq_true rfl)) dX11_several_2 ⟨(Nat.le_of_ble_eq_true rfl), (Nat.le_of_ble_eq_true rfl)⟩) ?_
  refine hw_asto (lv' := [(5, hw_vr b v2), (0, hw_vr b (some x0)), (1, .int l1), (2, .int l2), (3, .int l3), (4, .int l4)]) hx hb dX11_several_5 hl (by decide) (by decide) rfl (fun ls hl => ?_)
  refine hw_aload_n hx hb dX11_several_7 rfl (hl.at 1 rfl) ?_
  refine lv_iload_n hx hb dX11_several_8 rfl (hl.at 3 rfl) ?_
  obtain ⟨a9, g9, hm⟩ := hw_bs hm
  obtain ⟨rfl, ht9⟩ := hw_rv_th g9
  obtain ⟨v9, e9, hm⟩ := hw_bs hm
  refine hw_cRP (va_runV (As := [.int l2]) (rest := []) ⟨hx, hb, hml, hown, hts⟩ (c11_stuffAt l D b e9) (cwV 1 hts (hw_gV hw_m121 hw_m122 hw_m123 hw_m2 hw_m124) rfl rfl rfl (by decide +kernel) ⟨(Nat.le_of_ble_eq_true rfl), (Nat.le_of_ble_eq_true rfl)⟩) (hw_preV (ci := 11) hE hR rfl (by decide) (hw_q_of ht9)) rfl rfl hl.sz rfl (lv_room (Nat.le_of_ble_eq_true rfl)) dX11_several_9 ⟨(Nat.le_of_ble_eq_true rfl), (Nat.le_of_ble_eq_true rfl)⟩) ?_
  refine hw_asto (lv' := [(6, hw_vr b v9), (5, hw_vr b v2), (0, hw_vr b (some x0)), (1, .int l1), (2, .int l2), (3, .int l3), (4, .int l4)]) hx hb dX11_several_12 hl (by decide) (by decide) rfl (fun ls hl => ?_)
  refine hw_aload hx hb dX11_several_14 (hl.at 1 rfl) ?_
  refine hw_ifnull (tgt := 34) hx hb dX11_several_16 (by decide) (fun c16 => ?_) (fun c16 => ?_)
  · have hm := hw_ip hm c16
    exact w11_several_b34 C0 hm hR hS (hl.sub [2] rfl)
  · have hm := hw_in hm c16
    refine hw_aload hx hb dX11_several_19 (hl.at 0 rfl) ?_
    refine hw_ifnull (tgt := 34) hx hb dX11_several_21 (by decide) (fun c21 => ?_) (fun c21 => ?_)
    · have hm := hw_ip hm c21
      exact w11_several_b34 C0 hm hR hS (hl.sub [2] rfl)
    · have hm := hw_in hm c21
      refine lv_iload hx hb dX11_several_24 (hl.at 6 rfl) ?_
      refine lv_iconst (v := 0) hx hb dX11_several_26 (by decide) ?_
      refine lv_iconst (v := 2) hx hb dX11_several_27 (by decide) ?_
      obtain ⟨v28, e28, hm⟩ := hw_bs hm
      refine hw_cRI (va_runS (As := [.int l4, .int (0 : Int32), .int (2 : Int32)]) (rest := []) ⟨hx, hb, hml, hown, hts⟩ (c11_isWithin l D e28) (cwS 3 hts (hw_gS hw_m99 hw_m100 hw_m2 hw_m101) rfl rfl rfl (by decide +kernel) ⟨(Nat.le_of_ble_eq_true rfl), (Nat.le_of_ble_eq_true rfl)⟩) (hw_pre0 hE) rfl rfl hl.sz rfl (lv_room (Nat.le_of_ble_eq_true rfl)) dX11_several_28 ⟨(Nat.le_of_ble_eq_true rfl), (Nat.le_of_ble_eq_true rfl)⟩) ?_
      refine lv_if_ne (tgt := 36) hx hb dX11_several_31 (by decide) (fun c31 => ?_) (fun c31 => ?_)
      · have hm := hw_in hm c31
        refine lv_iload_n hx hb dX11_several_36 rfl (hl.at 5 rfl) ?_
        obtain ⟨v37, e37, hm⟩ := hw_bs hm
        refine hw_cRI (va_runS (As := [.int l3]) (rest := []) ⟨hx, hb, hml, hown, hts⟩ (c11_isFlow l D e37) (cwS 1 hts (hw_gS hw_m454 hw_m455 hw_m2 hw_m456) rfl rfl rfl (by decide +kernel) ⟨(Nat.le_of_ble_eq_true rfl), (Nat.le_of_ble_eq_true rfl)⟩) (hw_pre0 hE) rfl rfl hl.sz rfl (lv_room (Nat.le_of_ble_eq_true rfl)) dX11_several_37 ⟨(Nat.le_of_ble_eq_true rfl), (Nat.le_of_ble_eq_true rfl)⟩) ?_
        refine lv_if_ne (tgt := 46) hx hb dX11_several_40 (by decide) (fun c40 => ?_) (fun c40 => ?_)
        · have hm := hw_in hm c40
          refine hw_aload_n hx hb dX11_several_46 rfl (hl.at 2 rfl) ?_
          refine hw_aload hx hb dX11_several_47 (hl.at 1 rfl) ?_
          refine hw_aload hx hb dX11_several_49 (hl.at 0 rfl) ?_
          refine lv_iload_n hx hb dX11_several_51 rfl (hl.at 5 rfl) ?_
          obtain ⟨a52, g52, hm⟩ := hw_bs hm
          obtain ⟨rfl, ht52⟩ := hw_rv_th g52
          obtain ⟨σ52, e52, hm⟩ := hw_bs hm
          refine hw_cWV (va_runV (As := [hw_vr b v2, hw_vr b v9, .int l3]) (rest := []) ⟨hx, hb, hml, hown, hts⟩ (c11_goUp l D b e52) (cwV 3 hts (hw_gV hw_m684 hw_m685 hw_m686 hw_m2 hw_m687) rfl rfl rfl (by decide +kernel) ⟨(Nat.le_of_ble_eq_true rfl), (Nat.le_of_ble_eq_true rfl)⟩) (hw_preV (ci := 11) hE hR rfl (by decide) (hw_q_of ht52)) rfl rfl hl.sz rfl (lv_room (Nat.le_of_ble_eq_true rfl)) dX11_several_52 ⟨(Nat.le_of_ble_eq_true rfl), (Nat.le_of_ble_eq_true rfl)⟩) hS (fun _ _ hR hS => ?_)
          refine hw_aload_n hx hb dX11_several_55 rfl (hl.at 2 rfl) ?_
          refine hw_aload hx hb dX11_several_56 (hl.at 1 rfl) ?_
          refine hw_aload hx hb dX11_several_58 (hl.at 0 rfl) ?_
          refine lv_iload_n hx hb dX11_several_60 rfl (hl.at 5 rfl) ?_
          obtain ⟨a61, g61, hm⟩ := hw_bs hm
          obtain ⟨rfl, ht61⟩ := hw_rv_th g61
          obtain ⟨σ61, e61, hm⟩ := hw_bs hm
          refine hw_cWV (va_runV (As := [hw_vr b v2, hw_vr b v9, .int l3]) (rest := []) ⟨hx, hb, hml, hown, hts⟩ (c11_goDown l D b e61) (cwV 3 hts (hw_gV hw_m691 hw_m692 hw_m693 hw_m2 hw_m694) rfl rfl rfl (by decide +kernel) ⟨(Nat.le_of_ble_eq_true rfl), (Nat.le_of_ble_eq_true rfl)⟩) (hw_preV (ci := 11) hE hR rfl (by decide) (hw_q_of ht61)) rfl rfl hl.sz rfl (lv_room (Nat.le_of_ble_eq_true rfl)) dX11_several_61 ⟨(Nat.le_of_ble_eq_true rfl), (Nat.le_of_ble_eq_true rfl)⟩) hS (fun _ _ hR hS => ?_)
          refine lv_iconst (v := 0) hx hb dX11_several_64 (by decide) ?_
          refine hw_istore (lv' := [(7, .int (0 : Int32)), (6, hw_vr b v9), (5, hw_vr b v2), (0, hw_vr b (some x0)), (1, .int l1), (2, .int l2), (3, .int l3), (4, .int l4)]) hx hb dX11_several_65 hl (by decide) (by decide) rfl (fun ls hl => ?_)
          refine lv_bipush (v := (-5)) hx hb dX11_several_67 (by decide) ?_
          refine hw_istore (lv' := [(8, .int ((-5) : Int32)), (7, .int (0 : Int32)), (6, hw_vr b v9), (5, hw_vr b v2), (0, hw_vr b (some x0)), (1, .int l1), (2, .int l2), (3, .int l3), (4, .int l4)]) hx hb dX11_several_69 hl (by decide) (by decide) rfl (fun ls hl => ?_)
          refine lv_bipush (v := (-5)) hx hb dX11_several_71 (by decide) ?_
          refine hw_istore (lv' := [(9, .int ((-5) : Int32)), (8, .int ((-5) : Int32)), (7, .int (0 : Int32)), (6, hw_vr b v9), (5, hw_vr b v2), (0, hw_vr b (some x0)), (1, .int l1), (2, .int l2), (3, .int l3), (4, .int l4)]) hx hb dX11_several_73 hl (by decide) (by decide) rfl (fun ls hl => ?_)
          refine lv_iconst (v := 1) hx hb dX11_several_75 (by decide) ?_
          refine hw_istore (lv' := [(10, .int (1 : Int32)), (9, .int ((-5) : Int32)), (8, .int ((-5) : Int32)), (7, .int (0 : Int32)), (6, hw_vr b v9), (5, hw_vr b v2), (0, hw_vr b (some x0)), (1, .int l1), (2, .int l2), (3, .int l3), (4, .int l4)]) hx hb dX11_several_76 hl (by decide) (by decide) rfl (fun ls hl => ?_)
          exact w11_several_b78 C0 hw_fu hm hR hS (hl.sub [6, 10, 3, 2, 1, 0] rfl)
        · have hm := hw_ip hm c40
          refine lv_bipush (v := (-2)) hx hb dX11_several_43 (by decide) ?_
          exact hw_rWI hx hb hr hlk hR hS hm dX11_several_45
      · have hm := hw_ip hm c31
        exact w11_several_b34 C0 hm hR hS (hl.sub [2] rfl)
set_option maxRecDepth 100000 in
theorem c11_several (l : Launch) (D : hw_D) (b : Nat) {x0 : Nat} {l1 : Int32} {l2 : Int32} {l3 : Int32} {l4 : Int32} {σ : hw_S} {r : Int32} {τ : hw_S} (hm : m11_several x0 l1 l2 l3 l4 σ = some (r, τ)) : Met l yX11_several (Cond.code yX11_several cX11_several 11 (some .int) :: wsL_law) rm11_several (hw_P1 D b σ [hw_vr b (some x0), .int l1, .int l2, .int l3, .int l4]) (hw_QI D b τ r) 0 0 (fun q => b ≤ q) := by
  refine hw_start1 (by decide +kernel) (by exact Nat.le_of_ble_eq_true rfl) ?_
  intro p e s m below meth c ls C0 hR hS hl
  have hl : lv_has ls 11 [(0, hw_vr b (some x0)), (1, .int l1), (2, .int l2), (3, .int l3), (4, .int l4)] := by exact hl
  exact w11_several_s hm C0 hR hS ⟨hl, (List.forall_mem_cons.mpr ⟨(fun h => by rw [show (hw_vr b (some x0) : Value).category = 1 from (hw_vr_cat _ _)] at h; cases h), (List.forall_mem_cons.mpr ⟨(fun h => absurd (show (1 : Nat) = 2 from h) (by decide)), (List.forall_mem_cons.mpr ⟨(fun h => absurd (show (1 : Nat) = 2 from h) (by decide)), (List.forall_mem_cons.mpr ⟨(fun h => absurd (show (1 : Nat) = 2 from h) (by decide)), (List.forall_mem_cons.mpr ⟨(fun h => absurd (show (1 : Nat) = 2 from h) (by decide)), (fun _ h => absurd h List.not_mem_nil)⟩)⟩)⟩)⟩)⟩)⟩

abbrev rm12_several : Room := { frames := 4, cells := 0, slots := 0, locals := 109 }
def m12_several_b26 (x0 : Nat) (σ : hw_S) : Option (Int32 × hw_S) :=
  some (((-1) : Int32), σ)
set_option maxRecDepth 100000 in
theorem w12_several_b26 {p : Program} {l : Launch} {e : Env} {s : State} {m : MethodId} {args : Array Value} {below : List Frame} {meth : Method} {c : Code} {D : hw_D} {b : Nat} {r : Int32} {τ : hw_S} (C0 : hw_C p s m args meth c D yX12_several cX12_several 10 (some .int)) {x0 : Nat} {σ : hw_S} {H : Heap} {locs : List Loc} (hm : m12_several_b26 x0 σ = some (r, τ)) (hR : hw_R D b σ H) (hS : va_S (fun q => b ≤ q) s.heap H locs) {ls : Array Slot} (hl : hw_L ls 10 255 [(0, hw_vr b (some x0))]) : W p l e rm12_several s m args below meth c H locs 0 0 (MQ below (hw_QI D b τ r) args s 0 0 (fun q => b ≤ q)) (F0 m 26 ls []) := by
  obtain ⟨hx, hb, hml, hr, hown, hts, hlk, hE, hnm⟩ := id C0
  have hown : s.vm.findClass RX12 = some m.cls := hown
  have hK := hE.1
  unfold m12_several_b26 at hm
  refine lv_iconst (v := (-1)) hx hb dX12_several_26 (by decide) ?_
  exact hw_rWI hx hb hr hlk hR hS hm dX12_several_27
def m12_several_b169 (x0 : Nat) (t0 : Int32) (σ : hw_S) : Option (Int32 × hw_S) :=
  some (t0, σ)
set_option maxRecDepth 100000 in
theorem w12_several_b169 {p : Program} {l : Launch} {e : Env} {s : State} {m : MethodId} {args : Array Value} {below : List Frame} {meth : Method} {c : Code} {D : hw_D} {b : Nat} {r : Int32} {τ : hw_S} (C0 : hw_C p s m args meth c D yX12_several cX12_several 10 (some .int)) {x0 : Nat} {t0 : Int32} {σ : hw_S} {H : Heap} {locs : List Loc} (hm : m12_several_b169 x0 t0 σ = some (r, τ)) (hR : hw_R D b σ H) (hS : va_S (fun q => b ≤ q) s.heap H locs) {ls : Array Slot} (hl : hw_L ls 10 255 [(0, hw_vr b (some x0))]) : W p l e rm12_several s m args below meth c H locs 0 0 (MQ below (hw_QI D b τ r) args s 0 0 (fun q => b ≤ q)) (F0 m 169 ls [.int t0]) := by
  obtain ⟨hx, hb, hml, hr, hown, hts, hlk, hE, hnm⟩ := id C0
  have hown : s.vm.findClass RX12 = some m.cls := hown
  have hK := hE.1
  unfold m12_several_b169 at hm
  exact hw_rWI hx hb hr hlk hR hS hm dX12_several_169
def m12_several_b138 (k59 : Nat → Int32 → Int32 → Int32 → Int32 → Int32 → hw_S → Option (Int32 × hw_S)) (x0 : Nat) (l4 : Int32) (l5 : Int32) (l6 : Int32) (l8 : Int32) (t0 : Int32) (σ : hw_S) : Option (Int32 × hw_S) :=
  k59 x0 l4 l5 l6 t0 (l8 + 1) σ
set_option maxRecDepth 100000 in
theorem w12_several_b138 {p : Program} {l : Launch} {e : Env} {s : State} {m : MethodId} {args : Array Value} {below : List Frame} {meth : Method} {c : Code} {D : hw_D} {b : Nat} {k59 : Nat → Int32 → Int32 → Int32 → Int32 → Int32 → hw_S → Option (Int32 × hw_S)} {r : Int32} {τ : hw_S} (C0 : hw_C p s m args meth c D yX12_several cX12_several 10 (some .int)) (hk59 : ∀ {x0 : Nat} {l4 : Int32} {l5 : Int32} {l6 : Int32} {l7 : Int32} {l8 : Int32} {σ : hw_S} {H : Heap} {locs : List Loc} {ls : Array Slot}, k59 x0 l4 l5 l6 l7 l8 σ = some (r, τ) → hw_R D b σ H → va_S (fun q => b ≤ q) s.heap H locs → hw_L ls 10 255 [(0, hw_vr b (some x0)), (4, .int l4), (5, .int l5), (6, .int l6), (7, .int l7), (8, .int l8)] → W p l e rm12_several s m args below meth c H locs 0 0 (MQ below (hw_QI D b τ r) args s 0 0 (fun q => b ≤ q)) (F0 m 59 ls [])) {x0 : Nat} {l4 : Int32} {l5 : Int32} {l6 : Int32} {l8 : Int32} {t0 : Int32} {σ : hw_S} {H : Heap} {locs : List Loc} (hm : m12_several_b138 k59 x0 l4 l5 l6 l8 t0 σ = some (r, τ)) (hR : hw_R D b σ H) (hS : va_S (fun q => b ≤ q) s.heap H locs) {ls : Array Slot} (hl : hw_L ls 10 255 [(0, hw_vr b (some x0)), (4, .int l4), (5, .int l5), (6, .int l6), (8, .int l8)]) : W p l e rm12_several s m args below meth c H locs 0 0 (MQ below (hw_QI D b τ r) args s 0 0 (fun q => b ≤ q)) (F0 m 138 ls [.int t0]) := by
  obtain ⟨hx, hb, hml, hr, hown, hts, hlk, hE, hnm⟩ := id C0
  have hown : s.vm.findClass RX12 = some m.cls := hown
  have hK := hE.1
  unfold m12_several_b138 at hm
  refine hw_istore (lv' := [(7, .int t0), (0, hw_vr b (some x0)), (4, .int l4), (5, .int l5), (6, .int l6), (8, .int l8)]) hx hb dX12_several_138 hl (by decide) (by decide) rfl (fun ls hl => ?_)
  refine hw_iinc (v := (l8 + 1)) (lv' := [(8, .int (l8 + 1)), (7, .int t0), (0, hw_vr b (some x0)), (4, .int l4), (5, .int l5), (6, .int l6)]) hx hb dX12_several_140 hl (k := 5) rfl rfl (by decide) (by decide) rfl (fun ls hl => ?_)
  refine lv_goto (tgt := 59) hx hb dX12_several_143 (by decide) ?_
  exact hk59 hm hR hS (hl.sub [2, 3, 4, 5, 1, 0] rfl)
def m12_several_b124 (k59 : Nat → Int32 → Int32 → Int32 → Int32 → Int32 → hw_S → Option (Int32 × hw_S)) (x0 : Nat) (l4 : Int32) (l5 : Int32) (l7 : Int32) (l8 : Int32) (l9 : Int32) (t0 : Int32) (σ : hw_S) : Option (Int32 × hw_S) :=
  (if l9 = 0 then
  m12_several_b138 k59 x0 l4 l5 t0 l8 l7 σ
  else
  m12_several_b138 k59 x0 l4 l5 t0 l8 l8 σ)
set_option maxRecDepth 100000 in
theorem w12_several_b124 {p : Program} {l : Launch} {e : Env} {s : State} {m : MethodId} {args : Array Value} {below : List Frame} {meth : Method} {c : Code} {D : hw_D} {b : Nat} {k59 : Nat → Int32 → Int32 → Int32 → Int32 → Int32 → hw_S → Option (Int32 × hw_S)} {r : Int32} {τ : hw_S} (C0 : hw_C p s m args meth c D yX12_several cX12_several 10 (some .int)) (hk59 : ∀ {x0 : Nat} {l4 : Int32} {l5 : Int32} {l6 : Int32} {l7 : Int32} {l8 : Int32} {σ : hw_S} {H : Heap} {locs : List Loc} {ls : Array Slot}, k59 x0 l4 l5 l6 l7 l8 σ = some (r, τ) → hw_R D b σ H → va_S (fun q => b ≤ q) s.heap H locs → hw_L ls 10 255 [(0, hw_vr b (some x0)), (4, .int l4), (5, .int l5), (6, .int l6), (7, .int l7), (8, .int l8)] → W p l e rm12_several s m args below meth c H locs 0 0 (MQ below (hw_QI D b τ r) args s 0 0 (fun q => b ≤ q)) (F0 m 59 ls [])) {x0 : Nat} {l4 : Int32} {l5 : Int32} {l7 : Int32} {l8 : Int32} {l9 : Int32} {t0 : Int32} {σ : hw_S} {H : Heap} {locs : List Loc} (hm : m12_several_b124 k59 x0 l4 l5 l7 l8 l9 t0 σ = some (r, τ)) (hR : hw_R D b σ H) (hS : va_S (fun q => b ≤ q) s.heap H locs) {ls : Array Slot} (hl : hw_L ls 10 255 [(0, hw_vr b (some x0)), (4, .int l4), (5, .int l5), (7, .int l7), (8, .int l8), (9, .int l9)]) : W p l e rm12_several s m args below meth c H locs 0 0 (MQ below (hw_QI D b τ r) args s 0 0 (fun q => b ≤ q)) (F0 m 124 ls [.int t0]) := by
  obtain ⟨hx, hb, hml, hr, hown, hts, hlk, hE, hnm⟩ := id C0
  have hown : s.vm.findClass RX12 = some m.cls := hown
  have hK := hE.1
  unfold m12_several_b124 at hm
  refine hw_istore (lv' := [(6, .int t0), (0, hw_vr b (some x0)), (4, .int l4), (5, .int l5), (7, .int l7), (8, .int l8), (9, .int l9)]) hx hb dX12_several_124 hl (by decide) (by decide) rfl (fun ls hl => ?_)
  refine lv_iload hx hb dX12_several_126 (hl.at 6 rfl) ?_
  refine lv_if_eq (tgt := 136) hx hb dX12_several_128 (by decide) (fun c128 => ?_) (fun c128 => ?_)
  · have hm := hw_ip hm c128
    refine lv_iload hx hb dX12_several_136 (hl.at 4 rfl) ?_
    exact w12_several_b138 C0 hk59 hm hR hS (hl.sub [1, 2, 3, 0, 5] rfl)
  · have hm := hw_in hm c128
    refine lv_iload hx hb dX12_several_131 (hl.at 5 rfl) ?_
    refine lv_goto (tgt := 138) hx hb dX12_several_133 (by decide) ?_
    exact w12_several_b138 C0 hk59 hm hR hS (hl.sub [1, 2, 3, 0, 5] rfl)
def m12_several_b122 (k59 : Nat → Int32 → Int32 → Int32 → Int32 → Int32 → hw_S → Option (Int32 × hw_S)) (x0 : Nat) (l4 : Int32) (l5 : Int32) (l6 : Int32) (l7 : Int32) (l8 : Int32) (l9 : Int32) (σ : hw_S) : Option (Int32 × hw_S) :=
  m12_several_b124 k59 x0 l4 l5 l7 l8 l9 l6 σ
set_option maxRecDepth 100000 in
theorem w12_several_b122 {p : Program} {l : Launch} {e : Env} {s : State} {m : MethodId} {args : Array Value} {below : List Frame} {meth : Method} {c : Code} {D : hw_D} {b : Nat} {k59 : Nat → Int32 → Int32 → Int32 → Int32 → Int32 → hw_S → Option (Int32 × hw_S)} {r : Int32} {τ : hw_S} (C0 : hw_C p s m args meth c D yX12_several cX12_several 10 (some .int)) (hk59 : ∀ {x0 : Nat} {l4 : Int32} {l5 : Int32} {l6 : Int32} {l7 : Int32} {l8 : Int32} {σ : hw_S} {H : Heap} {locs : List Loc} {ls : Array Slot}, k59 x0 l4 l5 l6 l7 l8 σ = some (r, τ) → hw_R D b σ H → va_S (fun q => b ≤ q) s.heap H locs → hw_L ls 10 255 [(0, hw_vr b (some x0)), (4, .int l4), (5, .int l5), (6, .int l6), (7, .int l7), (8, .int l8)] → W p l e rm12_several s m args below meth c H locs 0 0 (MQ below (hw_QI D b τ r) args s 0 0 (fun q => b ≤ q)) (F0 m 59 ls [])) {x0 : Nat} {l4 : Int32} {l5 : Int32} {l6 : Int32} {l7 : Int32} {l8 : Int32} {l9 : Int32} {σ : hw_S} {H : Heap} {locs : List Loc} (hm : m12_several_b122 k59 x0 l4 l5 l6 l7 l8 l9 σ = some (r, τ)) (hR : hw_R D b σ H) (hS : va_S (fun q => b ≤ q) s.heap H locs) {ls : Array Slot} (hl : hw_L ls 10 255 [(0, hw_vr b (some x0)), (4, .int l4), (5, .int l5), (6, .int l6), (7, .int l7), (8, .int l8), (9, .int l9)]) : W p l e rm12_several s m args below meth c H locs 0 0 (MQ below (hw_QI D b τ r) args s 0 0 (fun q => b ≤ q)) (F0 m 122 ls []) := by
  obtain ⟨hx, hb, hml, hr, hown, hts, hlk, hE, hnm⟩ := id C0
  have hown : s.vm.findClass RX12 = some m.cls := hown
  have hK := hE.1
  unfold m12_several_b122 at hm
  refine lv_iload hx hb dX12_several_122 (hl.at 3 rfl) ?_
  exact w12_several_b124 C0 hk59 hm hR hS (hl.sub [0, 1, 2, 4, 5, 6] rfl)
def m12_several_b102 (k59 : Nat → Int32 → Int32 → Int32 → Int32 → Int32 → hw_S → Option (Int32 × hw_S)) (x0 : Nat) (l4 : Int32) (l6 : Int32) (l7 : Int32) (l8 : Int32) (l9 : Int32) (t0 : Int32) (t1 : Int32) (σ : hw_S) : Option (Int32 × hw_S) :=
  (if l9 = 0 then
  m12_several_b122 k59 x0 l4 (t0 + t1) l6 l7 l8 l9 σ
  else
  (if l6 = ((-5) : Int32) then
  m12_several_b124 k59 x0 l4 (t0 + t1) l7 l8 l9 l8 σ
  else
  m12_several_b122 k59 x0 l4 (t0 + t1) l6 l7 l8 l9 σ))
set_option maxRecDepth 100000 in
theorem w12_several_b102 {p : Program} {l : Launch} {e : Env} {s : State} {m : MethodId} {args : Array Value} {below : List Frame} {meth : Method} {c : Code} {D : hw_D} {b : Nat} {k59 : Nat → Int32 → Int32 → Int32 → Int32 → Int32 → hw_S → Option (Int32 × hw_S)} {r : Int32} {τ : hw_S} (C0 : hw_C p s m args meth c D yX12_several cX12_several 10 (some .int)) (hk59 : ∀ {x0 : Nat} {l4 : Int32} {l5 : Int32} {l6 : Int32} {l7 : Int32} {l8 : Int32} {σ : hw_S} {H : Heap} {locs : List Loc} {ls : Array Slot}, k59 x0 l4 l5 l6 l7 l8 σ = some (r, τ) → hw_R D b σ H → va_S (fun q => b ≤ q) s.heap H locs → hw_L ls 10 255 [(0, hw_vr b (some x0)), (4, .int l4), (5, .int l5), (6, .int l6), (7, .int l7), (8, .int l8)] → W p l e rm12_several s m args below meth c H locs 0 0 (MQ below (hw_QI D b τ r) args s 0 0 (fun q => b ≤ q)) (F0 m 59 ls [])) {x0 : Nat} {l4 : Int32} {l6 : Int32} {l7 : Int32} {l8 : Int32} {l9 : Int32} {t0 : Int32} {t1 : Int32} {σ : hw_S} {H : Heap} {locs : List Loc} (hm : m12_several_b102 k59 x0 l4 l6 l7 l8 l9 t0 t1 σ = some (r, τ)) (hR : hw_R D b σ H) (hS : va_S (fun q => b ≤ q) s.heap H locs) {ls : Array Slot} (hl : hw_L ls 10 255 [(0, hw_vr b (some x0)), (4, .int l4), (6, .int l6), (7, .int l7), (8, .int l8), (9, .int l9)]) : W p l e rm12_several s m args below meth c H locs 0 0 (MQ below (hw_QI D b τ r) args s 0 0 (fun q => b ≤ q)) (F0 m 102 ls [.int t1, .int t0]) := by
  obtain ⟨hx, hb, hml, hr, hown, hts, hlk, hE, hnm⟩ := id C0
  have hown : s.vm.findClass RX12 = some m.cls := hown
  have hK := hE.1
  unfold m12_several_b102 at hm
  refine lv_iadd hx hb dX12_several_102 ?_
  refine hw_istore (lv' := [(5, .int (t0 + t1)), (0, hw_vr b (some x0)), (4, .int l4), (6, .int l6), (7, .int l7), (8, .int l8), (9, .int l9)]) hx hb dX12_several_103 hl (by decide) (by decide) rfl (fun ls hl => ?_)
  refine lv_iload hx hb dX12_several_105 (hl.at 6 rfl) ?_
  refine lv_if_eq (tgt := 122) hx hb dX12_several_107 (by decide) (fun c107 => ?_) (fun c107 => ?_)
  · have hm := hw_ip hm c107
    exact w12_several_b122 C0 hk59 hm hR hS (hl.sub [1, 2, 0, 3, 4, 5, 6] rfl)
  · have hm := hw_in hm c107
    refine lv_iload hx hb dX12_several_110 (hl.at 3 rfl) ?_
    refine lv_bipush (v := (-5)) hx hb dX12_several_112 (by decide) ?_
    refine lv_icmp_ne (tgt := 122) hx hb dX12_several_114 (by decide) (fun c114 => ?_) (fun c114 => ?_)
    · have hm := hw_in hm c114
      exact w12_several_b122 C0 hk59 hm hR hS (hl.sub [1, 2, 0, 3, 4, 5, 6] rfl)
    · have hm := hw_ip hm c114
      refine lv_iload hx hb dX12_several_117 (hl.at 5 rfl) ?_
      refine lv_goto (tgt := 124) hx hb dX12_several_119 (by decide) ?_
      exact w12_several_b124 C0 hk59 hm hR hS (hl.sub [1, 2, 0, 4, 5, 6] rfl)
def m12_several_b88 (k59 : Nat → Int32 → Int32 → Int32 → Int32 → Int32 → hw_S → Option (Int32 × hw_S)) (x0 : Nat) (l4 : Int32) (l5 : Int32) (l6 : Int32) (l7 : Int32) (l8 : Int32) (t0 : Int32) (σ : hw_S) : Option (Int32 × hw_S) :=
  (if t0 = 0 then
  m12_several_b102 k59 x0 l4 l6 l7 l8 t0 l5 (0 : Int32) σ
  else
  m12_several_b102 k59 x0 l4 l6 l7 l8 t0 l5 (1 : Int32) σ)
set_option maxRecDepth 100000 in
theorem w12_several_b88 {p : Program} {l : Launch} {e : Env} {s : State} {m : MethodId} {args : Array Value} {below : List Frame} {meth : Method} {c : Code} {D : hw_D} {b : Nat} {k59 : Nat → Int32 → Int32 → Int32 → Int32 → Int32 → hw_S → Option (Int32 × hw_S)} {r : Int32} {τ : hw_S} (C0 : hw_C p s m args meth c D yX12_several cX12_several 10 (some .int)) (hk59 : ∀ {x0 : Nat} {l4 : Int32} {l5 : Int32} {l6 : Int32} {l7 : Int32} {l8 : Int32} {σ : hw_S} {H : Heap} {locs : List Loc} {ls : Array Slot}, k59 x0 l4 l5 l6 l7 l8 σ = some (r, τ) → hw_R D b σ H → va_S (fun q => b ≤ q) s.heap H locs → hw_L ls 10 255 [(0, hw_vr b (some x0)), (4, .int l4), (5, .int l5), (6, .int l6), (7, .int l7), (8, .int l8)] → W p l e rm12_several s m args below meth c H locs 0 0 (MQ below (hw_QI D b τ r) args s 0 0 (fun q => b ≤ q)) (F0 m 59 ls [])) {x0 : Nat} {l4 : Int32} {l5 : Int32} {l6 : Int32} {l7 : Int32} {l8 : Int32} {t0 : Int32} {σ : hw_S} {H : Heap} {locs : List Loc} (hm : m12_several_b88 k59 x0 l4 l5 l6 l7 l8 t0 σ = some (r, τ)) (hR : hw_R D b σ H) (hS : va_S (fun q => b ≤ q) s.heap H locs) {ls : Array Slot} (hl : hw_L ls 10 255 [(0, hw_vr b (some x0)), (4, .int l4), (5, .int l5), (6, .int l6), (7, .int l7), (8, .int l8)]) : W p l e rm12_several s m args below meth c H locs 0 0 (MQ below (hw_QI D b τ r) args s 0 0 (fun q => b ≤ q)) (F0 m 88 ls [.int t0]) := by
  obtain ⟨hx, hb, hml, hr, hown, hts, hlk, hE, hnm⟩ := id C0
  have hown : s.vm.findClass RX12 = some m.cls := hown
  have hK := hE.1
  unfold m12_several_b88 at hm
  refine hw_istore (lv' := [(9, .int t0), (0, hw_vr b (some x0)), (4, .int l4), (5, .int l5), (6, .int l6), (7, .int l7), (8, .int l8)]) hx hb dX12_several_88 hl (by decide) (by decide) rfl (fun ls hl => ?_)
  refine lv_iload hx hb dX12_several_90 (hl.at 3 rfl) ?_
  refine lv_iload hx hb dX12_several_92 (hl.at 0 rfl) ?_
  refine lv_if_eq (tgt := 101) hx hb dX12_several_94 (by decide) (fun c94 => ?_) (fun c94 => ?_)
  · have hm := hw_ip hm c94
    refine lv_iconst (v := 0) hx hb dX12_several_101 (by decide) ?_
    exact w12_several_b102 C0 hk59 hm hR hS (hl.sub [1, 2, 4, 5, 6, 0] rfl)
  · have hm := hw_in hm c94
    refine lv_iconst (v := 1) hx hb dX12_several_97 (by decide) ?_
    refine lv_goto (tgt := 102) hx hb dX12_several_98 (by decide) ?_
    exact w12_several_b102 C0 hk59 hm hR hS (hl.sub [1, 2, 4, 5, 6, 0] rfl)
def m12_several_b59 : Nat → Nat → Int32 → Int32 → Int32 → Int32 → Int32 → hw_S → Option (Int32 × hw_S)
  | 0, _, _, _, _, _, _, _ => none
  | n + 1, x0, l4, l5, l6, l7, l8, σ =>
  (if (60 : Int32) < l8 then
  (if l4 = 0 then
  m12_several_b169 x0 l5 σ
  else
  (if l4 = (1 : Int32) then
  m12_several_b169 x0 l6 σ
  else
  m12_several_b169 x0 l7 σ))
  else
  (hw_gP (hw_q 12) 16 (some x0) σ).bind fun v67 =>
  (hw_aI 0 v67 l8 σ).bind fun v72 =>
  (hw_gP (hw_q 12) 17 (some x0) σ).bind fun v74 =>
  (hw_aI 0 v74 l8 σ).bind fun v79 =>
  (if v72 = v79 then
  m12_several_b88 (m12_several_b59 n) x0 l4 l5 l6 l7 l8 (0 : Int32) σ
  else
  m12_several_b88 (m12_several_b59 n) x0 l4 l5 l6 l7 l8 (1 : Int32) σ))
set_option maxRecDepth 100000 in
theorem w12_several_b59 {p : Program} {l : Launch} {e : Env} {s : State} {m : MethodId} {args : Array Value} {below : List Frame} {meth : Method} {c : Code} {D : hw_D} {b : Nat} {r : Int32} {τ : hw_S} (C0 : hw_C p s m args meth c D yX12_several cX12_several 10 (some .int)) : ∀ (n : Nat) {x0 : Nat} {l4 : Int32} {l5 : Int32} {l6 : Int32} {l7 : Int32} {l8 : Int32} {σ : hw_S} {H : Heap} {locs : List Loc} {ls : Array Slot}, m12_several_b59 n x0 l4 l5 l6 l7 l8 σ = some (r, τ) → hw_R D b σ H → va_S (fun q => b ≤ q) s.heap H locs → hw_L ls 10 255 [(0, hw_vr b (some x0)), (4, .int l4), (5, .int l5), (6, .int l6), (7, .int l7), (8, .int l8)] → W p l e rm12_several s m args below meth c H locs 0 0 (MQ below (hw_QI D b τ r) args s 0 0 (fun q => b ≤ q)) (F0 m 59 ls []) := by
  obtain ⟨hx, hb, hml, hr, hown, hts, hlk, hE, hnm⟩ := id C0
  have hown : s.vm.findClass RX12 = some m.cls := hown
  have hK := hE.1
  intro n
  induction n with
  | zero => intro _ _ _ _ _ _ _ _ _ _ hm; cases hm
  | succ n ih =>
    intro x0 l4 l5 l6 l7 l8 σ H locs ls hm hR hS hl
    rw [m12_several_b59] at hm
    refine lv_iload hx hb dX12_several_59 (hl.at 5 rfl) ?_
    refine lv_bipush (v := 60) hx hb dX12_several_61 (by decide) ?_
    refine lv_icmp_gt (tgt := 146) hx hb dX12_several_63 (by decide) (fun c63 => ?_) (fun c63 => ?_)
    · have hm := hw_ip hm c63
      refine lv_iload hx hb dX12_several_146 (hl.at 1 rfl) ?_
      refine lv_if_ne (tgt := 156) hx hb dX12_several_148 (by decide) (fun c148 => ?_) (fun c148 => ?_)
      · have hm := hw_in hm c148
        refine lv_iload hx hb dX12_several_156 (hl.at 1 rfl) ?_
        refine lv_iconst (v := 1) hx hb dX12_several_158 (by decide) ?_
        refine lv_icmp_ne (tgt := 167) hx hb dX12_several_159 (by decide) (fun c159 => ?_) (fun c159 => ?_)
        · have hm := hw_in hm c159
          refine lv_iload hx hb dX12_several_167 (hl.at 4 rfl) ?_
          exact w12_several_b169 C0 hm hR hS (hl.sub [0] rfl)
        · have hm := hw_ip hm c159
          refine lv_iload hx hb dX12_several_162 (hl.at 3 rfl) ?_
          refine lv_goto (tgt := 169) hx hb dX12_several_164 (by decide) ?_
          exact w12_several_b169 C0 hm hR hS (hl.sub [0] rfl)
      · have hm := hw_ip hm c148
        refine lv_iload hx hb dX12_several_151 (hl.at 2 rfl) ?_
        refine lv_goto (tgt := 169) hx hb dX12_several_153 (by decide) ?_
        exact w12_several_b169 C0 hm hR hS (hl.sub [0] rfl)
    · have hm := hw_in hm c63
      refine hw_aload_n hx hb dX12_several_66 rfl (hl.at 0 rfl) ?_
      obtain ⟨v67, e67, hm⟩ := hw_bs hm
      refine hw_getP hx hb hw_cf12 hts hown hK hR e67 (by decide) rfl (hts _ hw_m84) (fun _ h9 => h9) dX12_several_67 ?_
      refine lv_iload hx hb dX12_several_70 (hl.at 5 rfl) ?_
      obtain ⟨v72, e72, hm⟩ := hw_bs hm
      refine hw_iald hx hb hK hR e72 dX12_several_72 ?_
      refine hw_aload_n hx hb dX12_several_73 rfl (hl.at 0 rfl) ?_
      obtain ⟨v74, e74, hm⟩ := hw_bs hm
      refine hw_getP hx hb hw_cf12 hts hown hK hR e74 (by decide) rfl (hts _ hw_m85) (fun _ h9 => h9) dX12_several_74 ?_
      refine lv_iload hx hb dX12_several_77 (hl.at 5 rfl) ?_
      obtain ⟨v79, e79, hm⟩ := hw_bs hm
      refine hw_iald hx hb hK hR e79 dX12_several_79 ?_
      refine lv_icmp_eq (tgt := 87) hx hb dX12_several_80 (by decide) (fun c80 => ?_) (fun c80 => ?_)
      · have hm := hw_ip hm c80
        refine lv_iconst (v := 0) hx hb dX12_several_87 (by decide) ?_
        exact w12_several_b88 C0 ih hm hR hS (hl.sub [0, 1, 2, 3, 4, 5] rfl)
      · have hm := hw_in hm c80
        refine lv_iconst (v := 1) hx hb dX12_several_83 (by decide) ?_
        refine lv_goto (tgt := 88) hx hb dX12_several_84 (by decide) ?_
        exact w12_several_b88 C0 ih hm hR hS (hl.sub [0, 1, 2, 3, 4, 5] rfl)
def m12_several (x0 : Nat) (l1 : Int32) (l2 : Int32) (l3 : Int32) (l4 : Int32) (σ : hw_S) : Option (Int32 × hw_S) :=
  (hw_rv (hw_q 12) (some x0) σ).bind fun a2 =>
  (m12_isLaw x0 l1 σ).bind fun v2 =>
  (if v2 = 0 then
  m12_several_b26 x0 σ
  else
  (hw_rv (hw_q 12) (some x0) σ).bind fun a10 =>
  (m12_isStuff x0 l2 σ).bind fun v10 =>
  (if v10 = 0 then
  m12_several_b26 x0 σ
  else
  (m12_in l4 (0 : Int32) (2 : Int32)).bind fun v20 =>
  (if v20 = 0 then
  m12_several_b26 x0 σ
  else
  (m12_isFlow l3).bind fun v29 =>
  (if v29 = 0 then
  some (((-2) : Int32), σ)
  else
  (hw_rv (hw_q 12) (some x0) σ).bind fun a42 =>
  (m12_curves x0 l1 l2 l3 σ).bind fun σ42 =>
  m12_several_b59 hw_fu x0 l4 (0 : Int32) ((-5) : Int32) ((-5) : Int32) (1 : Int32) σ42))))
set_option maxRecDepth 100000 in
theorem w12_several_s {p : Program} {l : Launch} {e : Env} {s : State} {m : MethodId} {args : Array Value} {below : List Frame} {meth : Method} {c : Code} {D : hw_D} {b : Nat} {x0 : Nat} {l1 : Int32} {l2 : Int32} {l3 : Int32} {l4 : Int32} {σ : hw_S} {r : Int32} {τ : hw_S} {H : Heap} {locs : List Loc} (hm : m12_several x0 l1 l2 l3 l4 σ = some (r, τ)) (C0 : hw_C p s m args meth c D yX12_several cX12_several 10 (some .int)) (hR : hw_R D b σ H) (hS : va_S (fun q => b ≤ q) s.heap H locs) {ls : Array Slot} (hl : hw_L ls 10 255 [(0, hw_vr b (some x0)), (1, .int l1), (2, .int l2), (3, .int l3), (4, .int l4)]) : W p l e rm12_several s m args below meth c H locs 0 0 (MQ below (hw_QI D b τ r) args s 0 0 (fun q => b ≤ q)) (F0 m 0 ls []) := by
  obtain ⟨hx, hb, hml, hr, hown, hts, hlk, hE, hnm⟩ := id C0
  have hown : s.vm.findClass RX12 = some m.cls := hown
  have hK := hE.1
  unfold m12_several at hm
  refine hw_aload_n hx hb dX12_several_0 rfl (hl.at 0 rfl) ?_
  refine lv_iload_n hx hb dX12_several_1 rfl (hl.at 1 rfl) ?_
  obtain ⟨a2, g2, hm⟩ := hw_bs hm
  obtain ⟨rfl, ht2⟩ := hw_rv_th g2
  obtain ⟨v2, e2, hm⟩ := hw_bs hm
  refine hw_cRI (va_runV (As := [.int l1]) (rest := []) ⟨hx, hb, hml, hown, hts⟩ (c12_isLaw l D b e2) (cwV 1 hts (hw_gV hw_m434 hw_m435 hw_m436 hw_m5 hw_m437) rfl rfl rfl (by decide +kernel) ⟨(Nat.le_of_ble_eq_true rfl), (Nat.le_of_ble_eq_true rfl)⟩) (hw_preV (ci := 12) hE hR rfl (by decide) (hw_q_of ht2)) rfl rfl hl.sz rfl (lv_room (Nat.le_of_ble_eq_true rfl)) dX12_several_2 ⟨(Nat.le_of_ble_eq_true rfl), (Nat.le_of_ble_eq_true rfl)⟩) ?_
  refine lv_if_eq (tgt := 26) hx hb dX12_several_5 (by decide) (fun c5 => ?_) (fun c5 => ?_)
  · have hm := hw_ip hm c5
    exact w12_several_b26 C0 hm hR hS (hl.sub [0] rfl)
  · have hm := hw_in hm c5
    refine hw_aload_n hx hb dX12_several_8 rfl (hl.at 0 rfl) ?_
    refine lv_iload_n hx hb dX12_several_9 rfl (hl.at 2 rfl) ?_
    obtain ⟨a10, g10, hm⟩ := hw_bs hm
    obtain ⟨rfl, ht10⟩ := hw_rv_th g10
    obtain ⟨v10, e10, hm⟩ := hw_bs hm
    refine hw_cRI (va_runV (As := [.int l2]) (rest := []) ⟨hx, hb, hml, hown, hts⟩ (c12_isStuff l D b e10) (cwV 1 hts (hw_gV hw_m129 hw_m130 hw_m131 hw_m5 hw_m132) rfl rfl rfl (by decide +kernel) ⟨(Nat.le_of_ble_eq_true rfl), (Nat.le_of_ble_eq_true rfl)⟩) (hw_preV (ci := 12) hE hR rfl (by decide) (hw_q_of ht10)) rfl rfl hl.sz rfl (lv_room (Nat.le_of_ble_eq_true rfl)) dX12_several_10 ⟨(Nat.le_of_ble_eq_true rfl), (Nat.le_of_ble_eq_true rfl)⟩) ?_
    refine lv_if_eq (tgt := 26) hx hb dX12_several_13 (by decide) (fun c13 => ?_) (fun c13 => ?_)
    · have hm := hw_ip hm c13
      exact w12_several_b26 C0 hm hR hS (hl.sub [0] rfl)
    · have hm := hw_in hm c13
      refine lv_iload hx hb dX12_several_16 (hl.at 4 rfl) ?_
      refine lv_iconst (v := 0) hx hb dX12_several_18 (by decide) ?_
      refine lv_iconst (v := 2) hx hb dX12_several_19 (by decide) ?_
      obtain ⟨v20, e20, hm⟩ := hw_bs hm
      refine hw_cRI (va_runS (As := [.int l4, .int (0 : Int32), .int (2 : Int32)]) (rest := []) ⟨hx, hb, hml, hown, hts⟩ (c12_in l D e20) (cwS 3 hts (hw_gS hw_m112 hw_m113 hw_m5 hw_m114) rfl rfl rfl (by decide +kernel) ⟨(Nat.le_of_ble_eq_true rfl), (Nat.le_of_ble_eq_true rfl)⟩) (hw_pre0 hE) rfl rfl hl.sz rfl (lv_room (Nat.le_of_ble_eq_true rfl)) dX12_several_20 ⟨(Nat.le_of_ble_eq_true rfl), (Nat.le_of_ble_eq_true rfl)⟩) ?_
      refine lv_if_ne (tgt := 28) hx hb dX12_several_23 (by decide) (fun c23 => ?_) (fun c23 => ?_)
      · have hm := hw_in hm c23
        refine lv_iload_n hx hb dX12_several_28 rfl (hl.at 3 rfl) ?_
        obtain ⟨v29, e29, hm⟩ := hw_bs hm
        refine hw_cRI (va_runS (As := [.int l3]) (rest := []) ⟨hx, hb, hml, hown, hts⟩ (c12_isFlow l D e29) (cwS 1 hts (hw_gS hw_m699 hw_m700 hw_m5 hw_m701) rfl rfl rfl (by decide +kernel) ⟨(Nat.le_of_ble_eq_true rfl), (Nat.le_of_ble_eq_true rfl)⟩) (hw_pre0 hE) rfl rfl hl.sz rfl (lv_room (Nat.le_of_ble_eq_true rfl)) dX12_several_29 ⟨(Nat.le_of_ble_eq_true rfl), (Nat.le_of_ble_eq_true rfl)⟩) ?_
        refine lv_if_ne (tgt := 38) hx hb dX12_several_32 (by decide) (fun c32 => ?_) (fun c32 => ?_)
        · have hm := hw_in hm c32
          refine hw_aload_n hx hb dX12_several_38 rfl (hl.at 0 rfl) ?_
          refine lv_iload_n hx hb dX12_several_39 rfl (hl.at 1 rfl) ?_
          refine lv_iload_n hx hb dX12_several_40 rfl (hl.at 2 rfl) ?_
          refine lv_iload_n hx hb dX12_several_41 rfl (hl.at 3 rfl) ?_
          obtain ⟨a42, g42, hm⟩ := hw_bs hm
          obtain ⟨rfl, ht42⟩ := hw_rv_th g42
          obtain ⟨σ42, e42, hm⟩ := hw_bs hm
          refine hw_cWV (va_runV (As := [.int l1, .int l2, .int l3]) (rest := []) ⟨hx, hb, hml, hown, hts⟩ (c12_curves l D b e42) (cwV 3 hts (hw_gV hw_m702 hw_m703 hw_m704 hw_m5 hw_m705) rfl rfl rfl (by decide +kernel) ⟨(Nat.le_of_ble_eq_true rfl), (Nat.le_of_ble_eq_true rfl)⟩) (hw_preV (ci := 12) hE hR rfl (by decide) (hw_q_of ht42)) rfl rfl hl.sz rfl (lv_room (Nat.le_of_ble_eq_true rfl)) dX12_several_42 ⟨(Nat.le_of_ble_eq_true rfl), (Nat.le_of_ble_eq_true rfl)⟩) hS (fun _ _ hR hS => ?_)
          refine lv_iconst (v := 0) hx hb dX12_several_45 (by decide) ?_
          refine hw_istore (lv' := [(5, .int (0 : Int32)), (0, hw_vr b (some x0)), (1, .int l1), (2, .int l2), (3, .int l3), (4, .int l4)]) hx hb dX12_several_46 hl (by decide) (by decide) rfl (fun ls hl => ?_)
          refine lv_bipush (v := (-5)) hx hb dX12_several_48 (by decide) ?_
          refine hw_istore (lv' := [(6, .int ((-5) : Int32)), (5, .int (0 : Int32)), (0, hw_vr b (some x0)), (1, .int l1), (2, .int l2), (3, .int l3), (4, .int l4)]) hx hb dX12_several_50 hl (by decide) (by decide) rfl (fun ls hl => ?_)
          refine lv_bipush (v := (-5)) hx hb dX12_several_52 (by decide) ?_
          refine hw_istore (lv' := [(7, .int ((-5) : Int32)), (6, .int ((-5) : Int32)), (5, .int (0 : Int32)), (0, hw_vr b (some x0)), (1, .int l1), (2, .int l2), (3, .int l3), (4, .int l4)]) hx hb dX12_several_54 hl (by decide) (by decide) rfl (fun ls hl => ?_)
          refine lv_iconst (v := 1) hx hb dX12_several_56 (by decide) ?_
          refine hw_istore (lv' := [(8, .int (1 : Int32)), (7, .int ((-5) : Int32)), (6, .int ((-5) : Int32)), (5, .int (0 : Int32)), (0, hw_vr b (some x0)), (1, .int l1), (2, .int l2), (3, .int l3), (4, .int l4)]) hx hb dX12_several_57 hl (by decide) (by decide) rfl (fun ls hl => ?_)
          exact w12_several_b59 C0 hw_fu hm hR hS (hl.sub [4, 8, 3, 2, 1, 0] rfl)
        · have hm := hw_ip hm c32
          refine lv_bipush (v := (-2)) hx hb dX12_several_35 (by decide) ?_
          exact hw_rWI hx hb hr hlk hR hS hm dX12_several_37
      · have hm := hw_ip hm c23
        exact w12_several_b26 C0 hm hR hS (hl.sub [0] rfl)
set_option maxRecDepth 100000 in
theorem c12_several (l : Launch) (D : hw_D) (b : Nat) {x0 : Nat} {l1 : Int32} {l2 : Int32} {l3 : Int32} {l4 : Int32} {σ : hw_S} {r : Int32} {τ : hw_S} (hm : m12_several x0 l1 l2 l3 l4 σ = some (r, τ)) : Met l yX12_several (Cond.code yX12_several cX12_several 10 (some .int) :: wsL_law) rm12_several (hw_P1 D b σ [hw_vr b (some x0), .int l1, .int l2, .int l3, .int l4]) (hw_QI D b τ r) 0 0 (fun q => b ≤ q) := by
  refine hw_start1 (by decide +kernel) (by exact Nat.le_of_ble_eq_true rfl) ?_
  intro p e s m below meth c ls C0 hR hS hl
  have hl : lv_has ls 10 [(0, hw_vr b (some x0)), (1, .int l1), (2, .int l2), (3, .int l3), (4, .int l4)] := by exact hl
  exact w12_several_s hm C0 hR hS ⟨hl, (List.forall_mem_cons.mpr ⟨(fun h => by rw [show (hw_vr b (some x0) : Value).category = 1 from (hw_vr_cat _ _)] at h; cases h), (List.forall_mem_cons.mpr ⟨(fun h => absurd (show (1 : Nat) = 2 from h) (by decide)), (List.forall_mem_cons.mpr ⟨(fun h => absurd (show (1 : Nat) = 2 from h) (by decide)), (List.forall_mem_cons.mpr ⟨(fun h => absurd (show (1 : Nat) = 2 from h) (by decide)), (List.forall_mem_cons.mpr ⟨(fun h => absurd (show (1 : Nat) = 2 from h) (by decide)), (fun _ h => absurd h List.not_mem_nil)⟩)⟩)⟩)⟩)⟩)⟩

abbrev rm11_isForm : Room := { frames := 1, cells := 0, slots := 0, locals := 22 }
def m11_isForm (l0 : Int32) : Option Int32 :=
  (m11_isWithin l0 (0 : Int32) (4 : Int32)).bind fun v3 =>
  (hw_tf v3).bind fun _ =>
  some v3
set_option maxRecDepth 100000 in
theorem w11_isForm_s {p : Program} {l : Launch} {e : Env} {s : State} {m : MethodId} {args : Array Value} {below : List Frame} {meth : Method} {c : Code} {D : hw_D} {l0 : Int32} {r : Int32} (hm : m11_isForm l0 = some r) (C0 : hw_C p s m args meth c D yX11_isForm cX11_isForm 1 (some .boolean)) {ls : Array Slot} (hl : hw_L ls 1 255 [(0, .int l0)]) : W p l e rm11_isForm s m args below meth c s.heap [] 0 0 (MQ below (hw_RI r) args s 0 0 hw_nof) (F0 m 0 ls []) := by
  obtain ⟨hx, hb, hml, hr, hown, hts, hlk, hE, hnm⟩ := id C0
  have hown : s.vm.findClass RX11 = some m.cls := hown
  unfold m11_isForm at hm
  refine lv_iload_n hx hb dX11_isForm_0 rfl (hl.at 0 rfl) ?_
  refine lv_iconst (v := 0) hx hb dX11_isForm_1 (by decide) ?_
  refine lv_iconst (v := 4) hx hb dX11_isForm_2 (by decide) ?_
  obtain ⟨v3, e3, hm⟩ := hw_bs hm
  refine hw_cRI (va_runS (As := [.int l0, .int (0 : Int32), .int (4 : Int32)]) (rest := []) ⟨hx, hb, hml, hown, hts⟩ (c11_isWithin l D e3) (cwS 3 hts (hw_gS hw_m99 hw_m100 hw_m2 hw_m101) rfl rfl rfl (by decide +kernel) ⟨(Nat.le_of_ble_eq_true rfl), (Nat.le_of_ble_eq_true rfl)⟩) (hw_pre0 hE) rfl rfl hl.sz rfl (lv_room (Nat.le_of_ble_eq_true rfl)) dX11_isForm_3 ⟨(Nat.le_of_ble_eq_true rfl), (Nat.le_of_ble_eq_true rfl)⟩) ?_
  obtain ⟨_, z6, hm⟩ := hw_bs hm
  exact hw_rRZ hx hb hr hlk z6 hm dX11_isForm_6
set_option maxRecDepth 100000 in
theorem c11_isForm (l : Launch) (D : hw_D) {l0 : Int32} {r : Int32} (hm : m11_isForm l0 = some r) : Met l yX11_isForm (Cond.code yX11_isForm cX11_isForm 1 (some .boolean) :: wsL_law) rm11_isForm (hw_P0 D [.int l0]) (hw_RI r) 0 0 hw_nof := by
  refine hw_start0 (by decide +kernel) (by exact Nat.le_of_ble_eq_true rfl) ?_
  intro p e s m below meth c ls C0 hl
  have hl : lv_has ls 1 [(0, .int l0)] := by exact hl
  exact w11_isForm_s hm C0 ⟨hl, (List.forall_mem_cons.mpr ⟨(fun h => absurd (show (1 : Nat) = 2 from h) (by decide)), (fun _ h => absurd h List.not_mem_nil)⟩)⟩

abbrev rm11_goThroughPaces : Room := { frames := 5, cells := 0, slots := 0, locals := 117 }
def m11_goThroughPaces_b54 (k25 : Nat → Option Nat → Option Nat → Int32 → Int32 → Int32 → hw_S → Option hw_S) (x0 : Nat) (l1 : Option Nat) (l2 : Option Nat) (l4 : Int32) (l5 : Int32) (l6 : Int32) (σ : hw_S) : Option hw_S :=
  (hw_gP (hw_q 11) 10 (some x0) σ).bind fun v55 =>
  (hw_sI v55 l6 l5 σ).bind fun σ62 =>
  k25 x0 l1 l2 l4 l5 (l6 + 1) σ62
set_option maxRecDepth 100000 in
theorem w11_goThroughPaces_b54 {p : Program} {l : Launch} {e : Env} {s : State} {m : MethodId} {args : Array Value} {below : List Frame} {meth : Method} {c : Code} {D : hw_D} {b : Nat} {k25 : Nat → Option Nat → Option Nat → Int32 → Int32 → Int32 → hw_S → Option hw_S} {τ : hw_S} (C0 : hw_C p s m args meth c D yX11_goThroughPaces cX11_goThroughPaces 7 none) (hk25 : ∀ {x0 : Nat} {l1 : Option Nat} {l2 : Option Nat} {l4 : Int32} {l5 : Int32} {l6 : Int32} {σ : hw_S} {H : Heap} {locs : List Loc} {ls : Array Slot}, k25 x0 l1 l2 l4 l5 l6 σ = some τ → hw_R D b σ H → va_S (fun q => b ≤ q) s.heap H locs → hw_L ls 7 255 [(0, hw_vr b (some x0)), (1, hw_vr b l1), (2, hw_vr b l2), (4, .int l4), (5, .int l5), (6, .int l6)] → W p l e rm11_goThroughPaces s m args below meth c H locs 0 0 (MQ below (hw_QV D b τ) args s 0 0 (fun q => b ≤ q)) (F0 m 25 ls [])) {x0 : Nat} {l1 : Option Nat} {l2 : Option Nat} {l4 : Int32} {l5 : Int32} {l6 : Int32} {σ : hw_S} {H : Heap} {locs : List Loc} (hm : m11_goThroughPaces_b54 k25 x0 l1 l2 l4 l5 l6 σ = some τ) (hR : hw_R D b σ H) (hS : va_S (fun q => b ≤ q) s.heap H locs) {ls : Array Slot} (hl : hw_L ls 7 255 [(0, hw_vr b (some x0)), (1, hw_vr b l1), (2, hw_vr b l2), (4, .int l4), (5, .int l5), (6, .int l6)]) : W p l e rm11_goThroughPaces s m args below meth c H locs 0 0 (MQ below (hw_QV D b τ) args s 0 0 (fun q => b ≤ q)) (F0 m 54 ls []) := by
  obtain ⟨hx, hb, hml, hr, hown, hts, hlk, hE, hnm⟩ := id C0
  have hown : s.vm.findClass RX11 = some m.cls := hown
  have hK := hE.1
  unfold m11_goThroughPaces_b54 at hm
  refine hw_aload_n hx hb dX11_goThroughPaces_54 rfl (hl.at 0 rfl) ?_
  obtain ⟨v55, e55, hm⟩ := hw_bs hm
  refine hw_getP hx hb hw_cf11 hts hown hK hR e55 (by decide) rfl (hts _ hw_m33) (fun _ h9 => h9) dX11_goThroughPaces_55 ?_
  refine lv_iload hx hb dX11_goThroughPaces_58 (hl.at 5 rfl) ?_
  refine lv_iload hx hb dX11_goThroughPaces_60 (hl.at 4 rfl) ?_
  obtain ⟨σ62, e62, hm⟩ := hw_bs hm
  refine hw_iast hx hb hK hR hS e62 dX11_goThroughPaces_62 (fun _ _ hR hS => ?_)
  refine hw_iinc (v := (l6 + 1)) (lv' := [(6, .int (l6 + 1)), (0, hw_vr b (some x0)), (1, hw_vr b l1), (2, hw_vr b l2), (4, .int l4), (5, .int l5)]) hx hb dX11_goThroughPaces_63 hl (k := 5) rfl rfl (by decide) (by decide) rfl (fun ls hl => ?_)
  refine lv_goto (tgt := 25) hx hb dX11_goThroughPaces_66 (by decide) ?_
  exact hk25 hm hR hS (hl.sub [1, 2, 3, 4, 5, 0] rfl)
def m11_goThroughPaces_b25 : Nat → Nat → Option Nat → Option Nat → Int32 → Int32 → Int32 → hw_S → Option hw_S
  | 0, _, _, _, _, _, _, _ => none
  | n + 1, x0, l1, l2, l4, l5, l6, σ =>
  (if (100 : Int32) ≤ l6 then
  some σ
  else
  (hw_gP hw_qL 7 l1 σ).bind fun v33 =>
  (hw_aI 1 v33 l6 σ).bind fun v38 =>
  (if v38 = 0 then
  m11_goThroughPaces_b54 (m11_goThroughPaces_b25 n) x0 l1 l2 l4 l5 l6 σ
  else
  (m11_turnsIn l1 l2 (l4 + l6) σ).bind fun v49 =>
  m11_goThroughPaces_b54 (m11_goThroughPaces_b25 n) x0 l1 l2 l4 v49 l6 σ))
set_option maxRecDepth 100000 in
theorem w11_goThroughPaces_b25 {p : Program} {l : Launch} {e : Env} {s : State} {m : MethodId} {args : Array Value} {below : List Frame} {meth : Method} {c : Code} {D : hw_D} {b : Nat} {τ : hw_S} (C0 : hw_C p s m args meth c D yX11_goThroughPaces cX11_goThroughPaces 7 none) : ∀ (n : Nat) {x0 : Nat} {l1 : Option Nat} {l2 : Option Nat} {l4 : Int32} {l5 : Int32} {l6 : Int32} {σ : hw_S} {H : Heap} {locs : List Loc} {ls : Array Slot}, m11_goThroughPaces_b25 n x0 l1 l2 l4 l5 l6 σ = some τ → hw_R D b σ H → va_S (fun q => b ≤ q) s.heap H locs → hw_L ls 7 255 [(0, hw_vr b (some x0)), (1, hw_vr b l1), (2, hw_vr b l2), (4, .int l4), (5, .int l5), (6, .int l6)] → W p l e rm11_goThroughPaces s m args below meth c H locs 0 0 (MQ below (hw_QV D b τ) args s 0 0 (fun q => b ≤ q)) (F0 m 25 ls []) := by
  obtain ⟨hx, hb, hml, hr, hown, hts, hlk, hE, hnm⟩ := id C0
  have hown : s.vm.findClass RX11 = some m.cls := hown
  have hK := hE.1
  intro n
  induction n with
  | zero => intro _ _ _ _ _ _ _ _ _ _ hm; cases hm
  | succ n ih =>
    intro x0 l1 l2 l4 l5 l6 σ H locs ls hm hR hS hl
    rw [m11_goThroughPaces_b25] at hm
    refine lv_iload hx hb dX11_goThroughPaces_25 (hl.at 5 rfl) ?_
    refine lv_bipush (v := 100) hx hb dX11_goThroughPaces_27 (by decide) ?_
    refine lv_icmp_ge (tgt := 69) hx hb dX11_goThroughPaces_29 (by decide) (fun c29 => ?_) (fun c29 => ?_)
    · have hm := hw_ip hm c29
      exact hw_rWV hx hb hr hlk hR hS hm dX11_goThroughPaces_69
    · have hm := hw_in hm c29
      refine hw_aload_n hx hb dX11_goThroughPaces_32 rfl (hl.at 1 rfl) ?_
      obtain ⟨v33, e33, hm⟩ := hw_bs hm
      refine hw_getP hx hb hw_cfL hts hown hK hR e33 (by decide) rfl (hts _ hw_m742) (fun _ h9 => h9) dX11_goThroughPaces_33 ?_
      refine lv_iload hx hb dX11_goThroughPaces_36 (hl.at 5 rfl) ?_
      obtain ⟨v38, e38, hm⟩ := hw_bs hm
      refine hw_zald hx hb hK hR e38 dX11_goThroughPaces_38 ?_
      refine lv_if_eq (tgt := 54) hx hb dX11_goThroughPaces_39 (by decide) (fun c39 => ?_) (fun c39 => ?_)
      · have hm := hw_ip hm c39
        exact w11_goThroughPaces_b54 C0 ih hm hR hS (hl.sub [0, 1, 2, 3, 4, 5] rfl)
      · have hm := hw_in hm c39
        refine hw_aload_n hx hb dX11_goThroughPaces_42 rfl (hl.at 1 rfl) ?_
        refine hw_aload_n hx hb dX11_goThroughPaces_43 rfl (hl.at 2 rfl) ?_
        refine lv_iload hx hb dX11_goThroughPaces_44 (hl.at 3 rfl) ?_
        refine lv_iload hx hb dX11_goThroughPaces_46 (hl.at 5 rfl) ?_
        refine lv_iadd hx hb dX11_goThroughPaces_48 ?_
        obtain ⟨v49, e49, hm⟩ := hw_bs hm
        refine hw_cRI (va_runS (As := [hw_vr b l1, hw_vr b l2, .int (l4 + l6)]) (rest := []) ⟨hx, hb, hml, hown, hts⟩ (c11_turnsIn l D b e49) (cwS 3 hts (hw_gS hw_m482 hw_m483 hw_m2 hw_m484) rfl rfl rfl (by decide +kernel) ⟨(Nat.le_of_ble_eq_true rfl), (Nat.le_of_ble_eq_true rfl)⟩) (hw_pre1 hE hR) rfl rfl hl.sz rfl (lv_room (Nat.le_of_ble_eq_true rfl)) dX11_goThroughPaces_49 ⟨(Nat.le_of_ble_eq_true rfl), (Nat.le_of_ble_eq_true rfl)⟩) ?_
        refine hw_istore (lv' := [(5, .int v49), (0, hw_vr b (some x0)), (1, hw_vr b l1), (2, hw_vr b l2), (4, .int l4), (6, .int l6)]) hx hb dX11_goThroughPaces_52 hl (by decide) (by decide) rfl (fun ls hl => ?_)
        exact w11_goThroughPaces_b54 C0 ih hm hR hS (hl.sub [1, 2, 3, 4, 0, 5] rfl)
def m11_goThroughPaces (x0 : Nat) (l1 : Option Nat) (l2 : Option Nat) (l3 : Int32) (σ : hw_S) : Option hw_S :=
  (m11_heightOf l3).bind fun v1 =>
  (m11_flowOf l3).bind fun v5 =>
  (m11_doingOf v1 v5).bind fun v8 =>
  (m11_turnsIn l1 l2 v8 σ).bind fun v17 =>
  m11_goThroughPaces_b25 hw_fu x0 l1 l2 v8 v17 (0 : Int32) σ
set_option maxRecDepth 100000 in
theorem w11_goThroughPaces_s {p : Program} {l : Launch} {e : Env} {s : State} {m : MethodId} {args : Array Value} {below : List Frame} {meth : Method} {c : Code} {D : hw_D} {b : Nat} {x0 : Nat} {l1 : Option Nat} {l2 : Option Nat} {l3 : Int32} {σ : hw_S} {τ : hw_S} {H : Heap} {locs : List Loc} (hm : m11_goThroughPaces x0 l1 l2 l3 σ = some τ) (C0 : hw_C p s m args meth c D yX11_goThroughPaces cX11_goThroughPaces 7 none) (hR : hw_R D b σ H) (hS : va_S (fun q => b ≤ q) s.heap H locs) {ls : Array Slot} (hl : hw_L ls 7 255 [(0, hw_vr b (some x0)), (1, hw_vr b l1), (2, hw_vr b l2), (3, .int l3)]) : W p l e rm11_goThroughPaces s m args below meth c H locs 0 0 (MQ below (hw_QV D b τ) args s 0 0 (fun q => b ≤ q)) (F0 m 0 ls []) := by
  obtain ⟨hx, hb, hml, hr, hown, hts, hlk, hE, hnm⟩ := id C0
  have hown : s.vm.findClass RX11 = some m.cls := hown
  have hK := hE.1
  unfold m11_goThroughPaces at hm
  refine lv_iload_n hx hb dX11_goThroughPaces_0 rfl (hl.at 3 rfl) ?_
  obtain ⟨v1, e1, hm⟩ := hw_bs hm
  refine hw_cRI (va_runS (As := [.int l3]) (rest := []) ⟨hx, hb, hml, hown, hts⟩ (c11_heightOf l D e1) (cwS 1 hts (hw_gS hw_m445 hw_m446 hw_m2 hw_m447) rfl rfl rfl (by decide +kernel) ⟨(Nat.le_of_ble_eq_true rfl), (Nat.le_of_ble_eq_true rfl)⟩) (hw_pre0 hE) rfl rfl hl.sz rfl (lv_room (Nat.le_of_ble_eq_true rfl)) dX11_goThroughPaces_1 ⟨(Nat.le_of_ble_eq_true rfl), (Nat.le_of_ble_eq_true rfl)⟩) ?_
  refine lv_iload_n hx hb dX11_goThroughPaces_4 rfl (hl.at 3 rfl) ?_
  obtain ⟨v5, e5, hm⟩ := hw_bs hm
  refine hw_cRI (va_runS (As := [.int l3]) (rest := [.int v1]) ⟨hx, hb, hml, hown, hts⟩ (c11_flowOf l D e5) (cwS 1 hts (hw_gS hw_m451 hw_m452 hw_m2 hw_m453) rfl rfl rfl (by decide +kernel) ⟨(Nat.le_of_ble_eq_true rfl), (Nat.le_of_ble_eq_true rfl)⟩) (hw_pre0 hE) rfl rfl hl.sz rfl (lv_room (Nat.le_of_ble_eq_true rfl)) dX11_goThroughPaces_5 ⟨(Nat.le_of_ble_eq_true rfl), (Nat.le_of_ble_eq_true rfl)⟩) ?_
  obtain ⟨v8, e8, hm⟩ := hw_bs hm
  refine hw_cRI (va_runS (As := [.int v1, .int v5]) (rest := []) ⟨hx, hb, hml, hown, hts⟩ (c11_doingOf l D e8) (cwS 2 hts (hw_gS hw_m688 hw_m689 hw_m2 hw_m690) rfl rfl rfl (by decide +kernel) ⟨(Nat.le_of_ble_eq_true rfl), (Nat.le_of_ble_eq_true rfl)⟩) (hw_pre0 hE) rfl rfl hl.sz rfl (lv_room (Nat.le_of_ble_eq_true rfl)) dX11_goThroughPaces_8 ⟨(Nat.le_of_ble_eq_true rfl), (Nat.le_of_ble_eq_true rfl)⟩) ?_
  refine hw_istore (lv' := [(4, .int v8), (0, hw_vr b (some x0)), (1, hw_vr b l1), (2, hw_vr b l2), (3, .int l3)]) hx hb dX11_goThroughPaces_11 hl (by decide) (by decide) rfl (fun ls hl => ?_)
  refine hw_aload_n hx hb dX11_goThroughPaces_13 rfl (hl.at 2 rfl) ?_
  refine hw_aload_n hx hb dX11_goThroughPaces_14 rfl (hl.at 3 rfl) ?_
  refine lv_iload hx hb dX11_goThroughPaces_15 (hl.at 0 rfl) ?_
  obtain ⟨v17, e17, hm⟩ := hw_bs hm
  refine hw_cRI (va_runS (As := [hw_vr b l1, hw_vr b l2, .int v8]) (rest := []) ⟨hx, hb, hml, hown, hts⟩ (c11_turnsIn l D b e17) (cwS 3 hts (hw_gS hw_m482 hw_m483 hw_m2 hw_m484) rfl rfl rfl (by decide +kernel) ⟨(Nat.le_of_ble_eq_true rfl), (Nat.le_of_ble_eq_true rfl)⟩) (hw_pre1 hE hR) rfl rfl hl.sz rfl (lv_room (Nat.le_of_ble_eq_true rfl)) dX11_goThroughPaces_17 ⟨(Nat.le_of_ble_eq_true rfl), (Nat.le_of_ble_eq_true rfl)⟩) ?_
  refine hw_istore (lv' := [(5, .int v17), (4, .int v8), (0, hw_vr b (some x0)), (1, hw_vr b l1), (2, hw_vr b l2), (3, .int l3)]) hx hb dX11_goThroughPaces_20 hl (by decide) (by decide) rfl (fun ls hl => ?_)
  refine lv_iconst (v := 0) hx hb dX11_goThroughPaces_22 (by decide) ?_
  refine hw_istore (lv' := [(6, .int (0 : Int32)), (5, .int v17), (4, .int v8), (0, hw_vr b (some x0)), (1, hw_vr b l1), (2, hw_vr b l2), (3, .int l3)]) hx hb dX11_goThroughPaces_23 hl (by decide) (by decide) rfl (fun ls hl => ?_)
  exact w11_goThroughPaces_b25 C0 hw_fu hm hR hS (hl.sub [3, 4, 5, 2, 1, 0] rfl)
set_option maxRecDepth 100000 in
theorem c11_goThroughPaces (l : Launch) (D : hw_D) (b : Nat) {x0 : Nat} {l1 : Option Nat} {l2 : Option Nat} {l3 : Int32} {σ : hw_S} {τ : hw_S} (hm : m11_goThroughPaces x0 l1 l2 l3 σ = some τ) : Met l yX11_goThroughPaces (Cond.code yX11_goThroughPaces cX11_goThroughPaces 7 none :: wsL_law) rm11_goThroughPaces (hw_P1 D b σ [hw_vr b (some x0), hw_vr b l1, hw_vr b l2, .int l3]) (hw_QV D b τ) 0 0 (fun q => b ≤ q) := by
  refine hw_start1 (by decide +kernel) (by cases l1 <;> cases l2 <;> exact Nat.le_of_ble_eq_true rfl) ?_
  intro p e s m below meth c ls C0 hR hS hl
  have hl : lv_has ls 7 [(0, hw_vr b (some x0)), (1, hw_vr b l1), (2, hw_vr b l2), (3, .int l3)] := by cases l1 <;> cases l2 <;> exact hl
  exact w11_goThroughPaces_s hm C0 hR hS ⟨hl, (List.forall_mem_cons.mpr ⟨(fun h => by rw [show (hw_vr b (some x0) : Value).category = 1 from (hw_vr_cat _ _)] at h; cases h), (List.forall_mem_cons.mpr ⟨(fun h => by rw [show (hw_vr b l1 : Value).category = 1 from (hw_vr_cat _ _)] at h; cases h), (List.forall_mem_cons.mpr ⟨(fun h => by rw [show (hw_vr b l2 : Value).category = 1 from (hw_vr_cat _ _)] at h; cases h), (List.forall_mem_cons.mpr ⟨(fun h => absurd (show (1 : Nat) = 2 from h) (by decide)), (fun _ h => absurd h List.not_mem_nil)⟩)⟩)⟩)⟩)⟩

abbrev rm11_order : Room := { frames := 6, cells := 0, slots := 0, locals := 143 }
def m11_order_b24 (x0 : Nat) (σ : hw_S) : Option (Int32 × hw_S) :=
  some (((-1) : Int32), σ)
set_option maxRecDepth 100000 in
theorem w11_order_b24 {p : Program} {l : Launch} {e : Env} {s : State} {m : MethodId} {args : Array Value} {below : List Frame} {meth : Method} {c : Code} {D : hw_D} {b : Nat} {r : Int32} {τ : hw_S} (C0 : hw_C p s m args meth c D yX11_order cX11_order 8 (some .int)) {x0 : Nat} {σ : hw_S} {H : Heap} {locs : List Loc} (hm : m11_order_b24 x0 σ = some (r, τ)) (hR : hw_R D b σ H) (hS : va_S (fun q => b ≤ q) s.heap H locs) {ls : Array Slot} (hl : hw_L ls 8 255 [(0, hw_vr b (some x0))]) : W p l e rm11_order s m args below meth c H locs 0 0 (MQ below (hw_QI D b τ r) args s 0 0 (fun q => b ≤ q)) (F0 m 24 ls []) := by
  obtain ⟨hx, hb, hml, hr, hown, hts, hlk, hE, hnm⟩ := id C0
  have hown : s.vm.findClass RX11 = some m.cls := hown
  have hK := hE.1
  unfold m11_order_b24 at hm
  refine lv_iconst (v := (-1)) hx hb dX11_order_24 (by decide) ?_
  exact hw_rWI hx hb hr hlk hR hS hm dX11_order_25
def m11_order_b41 (x0 : Nat) (σ : hw_S) : Option (Int32 × hw_S) :=
  some (((-2) : Int32), σ)
set_option maxRecDepth 100000 in
theorem w11_order_b41 {p : Program} {l : Launch} {e : Env} {s : State} {m : MethodId} {args : Array Value} {below : List Frame} {meth : Method} {c : Code} {D : hw_D} {b : Nat} {r : Int32} {τ : hw_S} (C0 : hw_C p s m args meth c D yX11_order cX11_order 8 (some .int)) {x0 : Nat} {σ : hw_S} {H : Heap} {locs : List Loc} (hm : m11_order_b41 x0 σ = some (r, τ)) (hR : hw_R D b σ H) (hS : va_S (fun q => b ≤ q) s.heap H locs) {ls : Array Slot} (hl : hw_L ls 8 255 [(0, hw_vr b (some x0))]) : W p l e rm11_order s m args below meth c H locs 0 0 (MQ below (hw_QI D b τ r) args s 0 0 (fun q => b ≤ q)) (F0 m 41 ls []) := by
  obtain ⟨hx, hb, hml, hr, hown, hts, hlk, hE, hnm⟩ := id C0
  have hown : s.vm.findClass RX11 = some m.cls := hown
  have hK := hE.1
  unfold m11_order_b41 at hm
  refine lv_bipush (v := (-2)) hx hb dX11_order_41 (by decide) ?_
  exact hw_rWI hx hb hr hlk hR hS hm dX11_order_43
def m11_order_b56 : Nat → Nat → Int32 → Option Nat → Int32 → hw_S → Option (Int32 × hw_S)
  | 0, _, _, _, _, _ => none
  | n + 1, x0, l4, l5, l7, σ =>
  (if (100 : Int32) ≤ l7 then
  some (((-5) : Int32), σ)
  else
  (hw_gP (hw_q 11) 10 (some x0) σ).bind fun v66 =>
  (hw_aI 0 v66 l7 σ).bind fun v71 =>
  (hw_rv hw_qL l5 σ).bind fun a74 =>
  (m3_formAt a74 v71 l7 σ).bind fun v74 =>
  (if v74 = l4 then
  some (l7, σ)
  else
  m11_order_b56 n x0 l4 l5 (l7 + 1) σ))
set_option maxRecDepth 100000 in
theorem w11_order_b56 {p : Program} {l : Launch} {e : Env} {s : State} {m : MethodId} {args : Array Value} {below : List Frame} {meth : Method} {c : Code} {D : hw_D} {b : Nat} {r : Int32} {τ : hw_S} (C0 : hw_C p s m args meth c D yX11_order cX11_order 8 (some .int)) : ∀ (n : Nat) {x0 : Nat} {l4 : Int32} {l5 : Option Nat} {l7 : Int32} {σ : hw_S} {H : Heap} {locs : List Loc} {ls : Array Slot}, m11_order_b56 n x0 l4 l5 l7 σ = some (r, τ) → hw_R D b σ H → va_S (fun q => b ≤ q) s.heap H locs → hw_L ls 8 255 [(0, hw_vr b (some x0)), (4, .int l4), (5, hw_vr b l5), (7, .int l7)] → W p l e rm11_order s m args below meth c H locs 0 0 (MQ below (hw_QI D b τ r) args s 0 0 (fun q => b ≤ q)) (F0 m 56 ls []) := by
  obtain ⟨hx, hb, hml, hr, hown, hts, hlk, hE, hnm⟩ := id C0
  have hown : s.vm.findClass RX11 = some m.cls := hown
  have hK := hE.1
  intro n
  induction n with
  | zero => intro _ _ _ _ _ _ _ _ hm; cases hm
  | succ n ih =>
    intro x0 l4 l5 l7 σ H locs ls hm hR hS hl
    rw [m11_order_b56] at hm
    refine lv_iload hx hb dX11_order_56 (hl.at 3 rfl) ?_
    refine lv_bipush (v := 100) hx hb dX11_order_58 (by decide) ?_
    refine lv_icmp_ge (tgt := 91) hx hb dX11_order_60 (by decide) (fun c60 => ?_) (fun c60 => ?_)
    · have hm := hw_ip hm c60
      refine lv_bipush (v := (-5)) hx hb dX11_order_91 (by decide) ?_
      exact hw_rWI hx hb hr hlk hR hS hm dX11_order_93
    · have hm := hw_in hm c60
      refine hw_aload hx hb dX11_order_63 (hl.at 2 rfl) ?_
      refine hw_aload_n hx hb dX11_order_65 rfl (hl.at 0 rfl) ?_
      obtain ⟨v66, e66, hm⟩ := hw_bs hm
      refine hw_getP hx hb hw_cf11 hts hown hK hR e66 (by decide) rfl (hts _ hw_m33) (fun _ h9 => h9) dX11_order_66 ?_
      refine lv_iload hx hb dX11_order_69 (hl.at 3 rfl) ?_
      obtain ⟨v71, e71, hm⟩ := hw_bs hm
      refine hw_iald hx hb hK hR e71 dX11_order_71 ?_
      refine lv_iload hx hb dX11_order_72 (hl.at 3 rfl) ?_
      obtain ⟨a74, g74, hm⟩ := hw_bs hm
      obtain ⟨h74, ht74⟩ := hw_rv_of g74
      rw [h74]
      obtain ⟨ci74, C74, f74_1, f74_2, f74_3, f74_4⟩ := hw_sel7 (y := fun _ => yX3_formAt) ht74 hw_m558 hw_m561 hw_m562 hw_m564 hw_m565 hw_m566 hw_m567
      obtain ⟨v74, e74, hm⟩ := hw_bs hm
      refine hw_cRI (va_runU (C := C74) (owner := RX3) (As := [.int v71, .int l7]) (rest := []) ⟨hx, hb, hml, hown, hts⟩ (c3_formAt l D b e74) (va_cwU 2 hts (hw_gU hw_m556 hw_m557 f74_4 hw_m559 hw_m285 hw_m560) rfl rfl rfl rfl (by decide +kernel) ⟨(Nat.le_of_ble_eq_true rfl), (Nat.le_of_ble_eq_true rfl)⟩) (hw_preV hE hR f74_3 f74_2 f74_1) rfl rfl hl.sz rfl (lv_room (Nat.le_of_ble_eq_true rfl)) dX11_order_74 ⟨(Nat.le_of_ble_eq_true rfl), (Nat.le_of_ble_eq_true rfl)⟩) ?_
      refine lv_iload hx hb dX11_order_77 (hl.at 1 rfl) ?_
      refine lv_icmp_ne (tgt := 85) hx hb dX11_order_79 (by decide) (fun c79 => ?_) (fun c79 => ?_)
      · have hm := hw_in hm c79
        refine hw_iinc (v := (l7 + 1)) (lv' := [(7, .int (l7 + 1)), (0, hw_vr b (some x0)), (4, .int l4), (5, hw_vr b l5)]) hx hb dX11_order_85 hl (k := 3) rfl rfl (by decide) (by decide) rfl (fun ls hl => ?_)
        refine lv_goto (tgt := 56) hx hb dX11_order_88 (by decide) ?_
        exact ih hm hR hS (hl.sub [1, 2, 3, 0] rfl)
      · have hm := hw_ip hm c79
        refine lv_iload hx hb dX11_order_82 (hl.at 3 rfl) ?_
        exact hw_rWI hx hb hr hlk hR hS hm dX11_order_84
def m11_order (x0 : Nat) (l1 : Int32) (l2 : Int32) (l3 : Int32) (l4 : Int32) (σ : hw_S) : Option (Int32 × hw_S) :=
  (hw_rv (hw_q 11) (some x0) σ).bind fun a2 =>
  (m11_lawAt x0 l1 σ).bind fun v2 =>
  (hw_rv (hw_q 11) (some x0) σ).bind fun a9 =>
  (m11_stuffAt x0 l2 σ).bind fun v9 =>
  (if v2 = none then
  m11_order_b24 x0 σ
  else
  (if v9 = none then
  m11_order_b24 x0 σ
  else
  (m11_isDoing l3).bind fun v27 =>
  (if v27 = 0 then
  m11_order_b41 x0 σ
  else
  (m11_isForm l4).bind fun v35 =>
  (if v35 = 0 then
  m11_order_b41 x0 σ
  else
  (hw_rv (hw_q 11) (some x0) σ).bind fun a50 =>
  (m11_goThroughPaces x0 v2 v9 l3 σ).bind fun σ50 =>
  m11_order_b56 hw_fu x0 l4 v2 (0 : Int32) σ50))))
set_option maxRecDepth 100000 in
theorem w11_order_s {p : Program} {l : Launch} {e : Env} {s : State} {m : MethodId} {args : Array Value} {below : List Frame} {meth : Method} {c : Code} {D : hw_D} {b : Nat} {x0 : Nat} {l1 : Int32} {l2 : Int32} {l3 : Int32} {l4 : Int32} {σ : hw_S} {r : Int32} {τ : hw_S} {H : Heap} {locs : List Loc} (hm : m11_order x0 l1 l2 l3 l4 σ = some (r, τ)) (C0 : hw_C p s m args meth c D yX11_order cX11_order 8 (some .int)) (hR : hw_R D b σ H) (hS : va_S (fun q => b ≤ q) s.heap H locs) {ls : Array Slot} (hl : hw_L ls 8 255 [(0, hw_vr b (some x0)), (1, .int l1), (2, .int l2), (3, .int l3), (4, .int l4)]) : W p l e rm11_order s m args below meth c H locs 0 0 (MQ below (hw_QI D b τ r) args s 0 0 (fun q => b ≤ q)) (F0 m 0 ls []) := by
  obtain ⟨hx, hb, hml, hr, hown, hts, hlk, hE, hnm⟩ := id C0
  have hown : s.vm.findClass RX11 = some m.cls := hown
  have hK := hE.1
  unfold m11_order at hm
  refine hw_aload_n hx hb dX11_order_0 rfl (hl.at 0 rfl) ?_
  refine lv_iload_n hx hb dX11_order_1 rfl (hl.at 1 rfl) ?_
  obtain ⟨a2, g2, hm⟩ := hw_bs hm
  obtain ⟨rfl, ht2⟩ := hw_rv_th g2
  obtain ⟨v2, e2, hm⟩ := hw_bs hm
  refine hw_cRP (va_runV (As := [.int l1]) (rest := []) ⟨hx, hb, hml, hown, hts⟩ (c11_lawAt l D b e2) (cwV 1 hts (hw_gV hw_m426 hw_m427 hw_m428 hw_m2 hw_m429) rfl rfl rfl (by decide +kernel) ⟨(Nat.le_of_ble_eq_true rfl), (Nat.le_of_ble_eq_true rfl)⟩) (hw_preV (ci := 11) hE hR rfl (by decide) (hw_q_of ht2)) rfl rfl hl.sz rfl (lv_room (Nat.le_of_ble_eq_true rfl)) dX11_order_2 ⟨(Nat.le_of_ble_eq_true rfl), (Nat.le_of_ble_eq_true rfl)⟩) ?_
  refine hw_asto (lv' := [(5, hw_vr b v2), (0, hw_vr b (some x0)), (1, .int l1), (2, .int l2), (3, .int l3), (4, .int l4)]) hx hb dX11_order_5 hl (by decide) (by decide) rfl (fun ls hl => ?_)
  refine hw_aload_n hx hb dX11_order_7 rfl (hl.at 1 rfl) ?_
  refine lv_iload_n hx hb dX11_order_8 rfl (hl.at 3 rfl) ?_
  obtain ⟨a9, g9, hm⟩ := hw_bs hm
  obtain ⟨rfl, ht9⟩ := hw_rv_th g9
  obtain ⟨v9, e9, hm⟩ := hw_bs hm
  refine hw_cRP (va_runV (As := [.int l2]) (rest := []) ⟨hx, hb, hml, hown, hts⟩ (c11_stuffAt l D b e9) (cwV 1 hts (hw_gV hw_m121 hw_m122 hw_m123 hw_m2 hw_m124) rfl rfl rfl (by decide +kernel) ⟨(Nat.le_of_ble_eq_true rfl), (Nat.le_of_ble_eq_true rfl)⟩) (hw_preV (ci := 11) hE hR rfl (by decide) (hw_q_of ht9)) rfl rfl hl.sz rfl (lv_room (Nat.le_of_ble_eq_true rfl)) dX11_order_9 ⟨(Nat.le_of_ble_eq_true rfl), (Nat.le_of_ble_eq_true rfl)⟩) ?_
  refine hw_asto (lv' := [(6, hw_vr b v9), (5, hw_vr b v2), (0, hw_vr b (some x0)), (1, .int l1), (2, .int l2), (3, .int l3), (4, .int l4)]) hx hb dX11_order_12 hl (by decide) (by decide) rfl (fun ls hl => ?_)
  refine hw_aload hx hb dX11_order_14 (hl.at 1 rfl) ?_
  refine hw_ifnull (tgt := 24) hx hb dX11_order_16 (by decide) (fun c16 => ?_) (fun c16 => ?_)
  · have hm := hw_ip hm c16
    exact w11_order_b24 C0 hm hR hS (hl.sub [2] rfl)
  · have hm := hw_in hm c16
    refine hw_aload hx hb dX11_order_19 (hl.at 0 rfl) ?_
    refine hw_ifnonnull (tgt := 26) hx hb dX11_order_21 (by decide) (fun c21 => ?_) (fun c21 => ?_)
    · have hm := hw_in hm c21
      refine lv_iload_n hx hb dX11_order_26 rfl (hl.at 5 rfl) ?_
      obtain ⟨v27, e27, hm⟩ := hw_bs hm
      refine hw_cRI (va_runS (As := [.int l3]) (rest := []) ⟨hx, hb, hml, hown, hts⟩ (c11_isDoing l D e27) (cwS 1 hts (hw_gS hw_m442 hw_m443 hw_m2 hw_m444) rfl rfl rfl (by decide +kernel) ⟨(Nat.le_of_ble_eq_true rfl), (Nat.le_of_ble_eq_true rfl)⟩) (hw_pre0 hE) rfl rfl hl.sz rfl (lv_room (Nat.le_of_ble_eq_true rfl)) dX11_order_27 ⟨(Nat.le_of_ble_eq_true rfl), (Nat.le_of_ble_eq_true rfl)⟩) ?_
      refine lv_if_eq (tgt := 41) hx hb dX11_order_30 (by decide) (fun c30 => ?_) (fun c30 => ?_)
      · have hm := hw_ip hm c30
        exact w11_order_b41 C0 hm hR hS (hl.sub [2] rfl)
      · have hm := hw_in hm c30
        refine lv_iload hx hb dX11_order_33 (hl.at 6 rfl) ?_
        obtain ⟨v35, e35, hm⟩ := hw_bs hm
        refine hw_cRI (va_runS (As := [.int l4]) (rest := []) ⟨hx, hb, hml, hown, hts⟩ (c11_isForm l D e35) (cwS 1 hts (hw_gS hw_m735 hw_m736 hw_m2 hw_m737) rfl rfl rfl (by decide +kernel) ⟨(Nat.le_of_ble_eq_true rfl), (Nat.le_of_ble_eq_true rfl)⟩) (hw_pre0 hE) rfl rfl hl.sz rfl (lv_room (Nat.le_of_ble_eq_true rfl)) dX11_order_35 ⟨(Nat.le_of_ble_eq_true rfl), (Nat.le_of_ble_eq_true rfl)⟩) ?_
        refine lv_if_ne (tgt := 44) hx hb dX11_order_38 (by decide) (fun c38 => ?_) (fun c38 => ?_)
        · have hm := hw_in hm c38
          refine hw_aload_n hx hb dX11_order_44 rfl (hl.at 2 rfl) ?_
          refine hw_aload hx hb dX11_order_45 (hl.at 1 rfl) ?_
          refine hw_aload hx hb dX11_order_47 (hl.at 0 rfl) ?_
          refine lv_iload_n hx hb dX11_order_49 rfl (hl.at 5 rfl) ?_
          obtain ⟨a50, g50, hm⟩ := hw_bs hm
          obtain ⟨rfl, ht50⟩ := hw_rv_th g50
          obtain ⟨σ50, e50, hm⟩ := hw_bs hm
          refine hw_cWV (va_runV (As := [hw_vr b v2, hw_vr b v9, .int l3]) (rest := []) ⟨hx, hb, hml, hown, hts⟩ (c11_goThroughPaces l D b e50) (cwV 3 hts (hw_gV hw_m738 hw_m739 hw_m740 hw_m2 hw_m741) rfl rfl rfl (by decide +kernel) ⟨(Nat.le_of_ble_eq_true rfl), (Nat.le_of_ble_eq_true rfl)⟩) (hw_preV (ci := 11) hE hR rfl (by decide) (hw_q_of ht50)) rfl rfl hl.sz rfl (lv_room (Nat.le_of_ble_eq_true rfl)) dX11_order_50 ⟨(Nat.le_of_ble_eq_true rfl), (Nat.le_of_ble_eq_true rfl)⟩) hS (fun _ _ hR hS => ?_)
          refine lv_iconst (v := 0) hx hb dX11_order_53 (by decide) ?_
          refine hw_istore (lv' := [(7, .int (0 : Int32)), (6, hw_vr b v9), (5, hw_vr b v2), (0, hw_vr b (some x0)), (1, .int l1), (2, .int l2), (3, .int l3), (4, .int l4)]) hx hb dX11_order_54 hl (by decide) (by decide) rfl (fun ls hl => ?_)
          exact w11_order_b56 C0 hw_fu hm hR hS (hl.sub [3, 7, 2, 0] rfl)
        · have hm := hw_ip hm c38
          exact w11_order_b41 C0 hm hR hS (hl.sub [2] rfl)
    · have hm := hw_ip hm c21
      exact w11_order_b24 C0 hm hR hS (hl.sub [2] rfl)
set_option maxRecDepth 100000 in
theorem c11_order (l : Launch) (D : hw_D) (b : Nat) {x0 : Nat} {l1 : Int32} {l2 : Int32} {l3 : Int32} {l4 : Int32} {σ : hw_S} {r : Int32} {τ : hw_S} (hm : m11_order x0 l1 l2 l3 l4 σ = some (r, τ)) : Met l yX11_order (Cond.code yX11_order cX11_order 8 (some .int) :: wsL_law) rm11_order (hw_P1 D b σ [hw_vr b (some x0), .int l1, .int l2, .int l3, .int l4]) (hw_QI D b τ r) 0 0 (fun q => b ≤ q) := by
  refine hw_start1 (by decide +kernel) (by exact Nat.le_of_ble_eq_true rfl) ?_
  intro p e s m below meth c ls C0 hR hS hl
  have hl : lv_has ls 8 [(0, hw_vr b (some x0)), (1, .int l1), (2, .int l2), (3, .int l3), (4, .int l4)] := by exact hl
  exact w11_order_s hm C0 hR hS ⟨hl, (List.forall_mem_cons.mpr ⟨(fun h => by rw [show (hw_vr b (some x0) : Value).category = 1 from (hw_vr_cat _ _)] at h; cases h), (List.forall_mem_cons.mpr ⟨(fun h => absurd (show (1 : Nat) = 2 from h) (by decide)), (List.forall_mem_cons.mpr ⟨(fun h => absurd (show (1 : Nat) = 2 from h) (by decide)), (List.forall_mem_cons.mpr ⟨(fun h => absurd (show (1 : Nat) = 2 from h) (by decide)), (List.forall_mem_cons.mpr ⟨(fun h => absurd (show (1 : Nat) = 2 from h) (by decide)), (fun _ h => absurd h List.not_mem_nil)⟩)⟩)⟩)⟩)⟩)⟩

abbrev rm12_order : Room := { frames := 5, cells := 0, slots := 0, locals := 135 }
def m12_order_b16 (x0 : Nat) (σ : hw_S) : Option (Int32 × hw_S) :=
  some (((-1) : Int32), σ)
set_option maxRecDepth 100000 in
theorem w12_order_b16 {p : Program} {l : Launch} {e : Env} {s : State} {m : MethodId} {args : Array Value} {below : List Frame} {meth : Method} {c : Code} {D : hw_D} {b : Nat} {r : Int32} {τ : hw_S} (C0 : hw_C p s m args meth c D yX12_order cX12_order 6 (some .int)) {x0 : Nat} {σ : hw_S} {H : Heap} {locs : List Loc} (hm : m12_order_b16 x0 σ = some (r, τ)) (hR : hw_R D b σ H) (hS : va_S (fun q => b ≤ q) s.heap H locs) {ls : Array Slot} (hl : hw_L ls 6 255 [(0, hw_vr b (some x0))]) : W p l e rm12_order s m args below meth c H locs 0 0 (MQ below (hw_QI D b τ r) args s 0 0 (fun q => b ≤ q)) (F0 m 16 ls []) := by
  obtain ⟨hx, hb, hml, hr, hown, hts, hlk, hE, hnm⟩ := id C0
  have hown : s.vm.findClass RX12 = some m.cls := hown
  have hK := hE.1
  unfold m12_order_b16 at hm
  refine lv_iconst (v := (-1)) hx hb dX12_order_16 (by decide) ?_
  exact hw_rWI hx hb hr hlk hR hS hm dX12_order_17
def m12_order_b35 (x0 : Nat) (σ : hw_S) : Option (Int32 × hw_S) :=
  some (((-2) : Int32), σ)
set_option maxRecDepth 100000 in
theorem w12_order_b35 {p : Program} {l : Launch} {e : Env} {s : State} {m : MethodId} {args : Array Value} {below : List Frame} {meth : Method} {c : Code} {D : hw_D} {b : Nat} {r : Int32} {τ : hw_S} (C0 : hw_C p s m args meth c D yX12_order cX12_order 6 (some .int)) {x0 : Nat} {σ : hw_S} {H : Heap} {locs : List Loc} (hm : m12_order_b35 x0 σ = some (r, τ)) (hR : hw_R D b σ H) (hS : va_S (fun q => b ≤ q) s.heap H locs) {ls : Array Slot} (hl : hw_L ls 6 255 [(0, hw_vr b (some x0))]) : W p l e rm12_order s m args below meth c H locs 0 0 (MQ below (hw_QI D b τ r) args s 0 0 (fun q => b ≤ q)) (F0 m 35 ls []) := by
  obtain ⟨hx, hb, hml, hr, hown, hts, hlk, hE, hnm⟩ := id C0
  have hown : s.vm.findClass RX12 = some m.cls := hown
  have hK := hE.1
  unfold m12_order_b35 at hm
  refine lv_bipush (v := (-2)) hx hb dX12_order_35 (by decide) ?_
  exact hw_rWI hx hb hr hlk hR hS hm dX12_order_37
def m12_order_b41 : Nat → Nat → Int32 → Int32 → Int32 → Int32 → Int32 → hw_S → Option (Int32 × hw_S)
  | 0, _, _, _, _, _, _, _ => none
  | n + 1, x0, l1, l2, l3, l4, l5, σ =>
  (if (100 : Int32) ≤ l5 then
  some (((-5) : Int32), σ)
  else
  (hw_dv l3 (10000 : Int32)).bind fun v55 =>
  (hw_dv l3 (100 : Int32)).bind fun v59 =>
  (hw_rm v59 (100 : Int32)).bind fun v62 =>
  (hw_rv (hw_q 12) (some x0) σ).bind fun a65 =>
  hw_b2 (m12_formOf x0 l1 l2 v55 v62 l5 σ) fun v65 σ65 =>
  (if v65 = l4 then
  some (l5, σ65)
  else
  m12_order_b41 n x0 l1 l2 l3 l4 (l5 + 1) σ65))
set_option maxRecDepth 100000 in
theorem w12_order_b41 {p : Program} {l : Launch} {e : Env} {s : State} {m : MethodId} {args : Array Value} {below : List Frame} {meth : Method} {c : Code} {D : hw_D} {b : Nat} {r : Int32} {τ : hw_S} (C0 : hw_C p s m args meth c D yX12_order cX12_order 6 (some .int)) : ∀ (n : Nat) {x0 : Nat} {l1 : Int32} {l2 : Int32} {l3 : Int32} {l4 : Int32} {l5 : Int32} {σ : hw_S} {H : Heap} {locs : List Loc} {ls : Array Slot}, m12_order_b41 n x0 l1 l2 l3 l4 l5 σ = some (r, τ) → hw_R D b σ H → va_S (fun q => b ≤ q) s.heap H locs → hw_L ls 6 255 [(0, hw_vr b (some x0)), (1, .int l1), (2, .int l2), (3, .int l3), (4, .int l4), (5, .int l5)] → W p l e rm12_order s m args below meth c H locs 0 0 (MQ below (hw_QI D b τ r) args s 0 0 (fun q => b ≤ q)) (F0 m 41 ls []) := by
  obtain ⟨hx, hb, hml, hr, hown, hts, hlk, hE, hnm⟩ := id C0
  have hown : s.vm.findClass RX12 = some m.cls := hown
  have hK := hE.1
  intro n
  induction n with
  | zero => intro _ _ _ _ _ _ _ _ _ _ hm; cases hm
  | succ n ih =>
    intro x0 l1 l2 l3 l4 l5 σ H locs ls hm hR hS hl
    rw [m12_order_b41] at hm
    refine lv_iload hx hb dX12_order_41 (hl.at 5 rfl) ?_
    refine lv_bipush (v := 100) hx hb dX12_order_43 (by decide) ?_
    refine lv_icmp_ge (tgt := 82) hx hb dX12_order_45 (by decide) (fun c45 => ?_) (fun c45 => ?_)
    · have hm := hw_ip hm c45
      refine lv_bipush (v := (-5)) hx hb dX12_order_82 (by decide) ?_
      exact hw_rWI hx hb hr hlk hR hS hm dX12_order_84
    · have hm := hw_in hm c45
      refine hw_aload_n hx hb dX12_order_48 rfl (hl.at 0 rfl) ?_
      refine lv_iload_n hx hb dX12_order_49 rfl (hl.at 1 rfl) ?_
      refine lv_iload_n hx hb dX12_order_50 rfl (hl.at 2 rfl) ?_
      refine lv_iload_n hx hb dX12_order_51 rfl (hl.at 3 rfl) ?_
      refine lv_sipush (v := 10000) hx hb dX12_order_52 (by decide) ?_
      obtain ⟨v55, e55, hm⟩ := hw_bs hm
      refine hw_idiv hx hb e55 dX12_order_55 ?_
      refine lv_iload_n hx hb dX12_order_56 rfl (hl.at 3 rfl) ?_
      refine lv_bipush (v := 100) hx hb dX12_order_57 (by decide) ?_
      obtain ⟨v59, e59, hm⟩ := hw_bs hm
      refine hw_idiv hx hb e59 dX12_order_59 ?_
      refine lv_bipush (v := 100) hx hb dX12_order_60 (by decide) ?_
      obtain ⟨v62, e62, hm⟩ := hw_bs hm
      refine hw_irem hx hb e62 dX12_order_62 ?_
      refine lv_iload hx hb dX12_order_63 (hl.at 5 rfl) ?_
      obtain ⟨a65, g65, hm⟩ := hw_bs hm
      obtain ⟨rfl, ht65⟩ := hw_rv_th g65
      obtain ⟨v65, σ65, e65, hm⟩ := hw_bs2 hm
      refine hw_cWI (va_runV (As := [.int l1, .int l2, .int v55, .int v62, .int l5]) (rest := []) ⟨hx, hb, hml, hown, hts⟩ (c12_formOf l D b e65) (cwV 5 hts (hw_gV hw_m592 hw_m593 hw_m594 hw_m5 hw_m595) rfl rfl rfl (by decide +kernel) ⟨(Nat.le_of_ble_eq_true rfl), (Nat.le_of_ble_eq_true rfl)⟩) (hw_preV (ci := 12) hE hR rfl (by decide) (hw_q_of ht65)) rfl rfl hl.sz rfl (lv_room (Nat.le_of_ble_eq_true rfl)) dX12_order_65 ⟨(Nat.le_of_ble_eq_true rfl), (Nat.le_of_ble_eq_true rfl)⟩) hS (fun _ _ hR hS => ?_)
      refine lv_iload hx hb dX12_order_68 (hl.at 4 rfl) ?_
      refine lv_icmp_ne (tgt := 76) hx hb dX12_order_70 (by decide) (fun c70 => ?_) (fun c70 => ?_)
      · have hm := hw_in hm c70
        refine hw_iinc (v := (l5 + 1)) (lv' := [(5, .int (l5 + 1)), (0, hw_vr b (some x0)), (1, .int l1), (2, .int l2), (3, .int l3), (4, .int l4)]) hx hb dX12_order_76 hl (k := 5) rfl rfl (by decide) (by decide) rfl (fun ls hl => ?_)
        refine lv_goto (tgt := 41) hx hb dX12_order_79 (by decide) ?_
        exact ih hm hR hS (hl.sub [1, 2, 3, 4, 5, 0] rfl)
      · have hm := hw_ip hm c70
        refine lv_iload hx hb dX12_order_73 (hl.at 5 rfl) ?_
        exact hw_rWI hx hb hr hlk hR hS hm dX12_order_75
def m12_order (x0 : Nat) (l1 : Int32) (l2 : Int32) (l3 : Int32) (l4 : Int32) (σ : hw_S) : Option (Int32 × hw_S) :=
  (hw_rv (hw_q 12) (some x0) σ).bind fun a2 =>
  (m12_isLaw x0 l1 σ).bind fun v2 =>
  (if v2 = 0 then
  m12_order_b16 x0 σ
  else
  (hw_rv (hw_q 12) (some x0) σ).bind fun a10 =>
  (m12_isStuff x0 l2 σ).bind fun v10 =>
  (if v10 = 0 then
  m12_order_b16 x0 σ
  else
  (m12_isDoing l3).bind fun v19 =>
  (if v19 = 0 then
  m12_order_b35 x0 σ
  else
  (m12_in l4 (0 : Int32) (4 : Int32)).bind fun v29 =>
  (if v29 = 0 then
  m12_order_b35 x0 σ
  else
  m12_order_b41 hw_fu x0 l1 l2 l3 l4 (0 : Int32) σ))))
set_option maxRecDepth 100000 in
theorem w12_order_s {p : Program} {l : Launch} {e : Env} {s : State} {m : MethodId} {args : Array Value} {below : List Frame} {meth : Method} {c : Code} {D : hw_D} {b : Nat} {x0 : Nat} {l1 : Int32} {l2 : Int32} {l3 : Int32} {l4 : Int32} {σ : hw_S} {r : Int32} {τ : hw_S} {H : Heap} {locs : List Loc} (hm : m12_order x0 l1 l2 l3 l4 σ = some (r, τ)) (C0 : hw_C p s m args meth c D yX12_order cX12_order 6 (some .int)) (hR : hw_R D b σ H) (hS : va_S (fun q => b ≤ q) s.heap H locs) {ls : Array Slot} (hl : hw_L ls 6 255 [(0, hw_vr b (some x0)), (1, .int l1), (2, .int l2), (3, .int l3), (4, .int l4)]) : W p l e rm12_order s m args below meth c H locs 0 0 (MQ below (hw_QI D b τ r) args s 0 0 (fun q => b ≤ q)) (F0 m 0 ls []) := by
  obtain ⟨hx, hb, hml, hr, hown, hts, hlk, hE, hnm⟩ := id C0
  have hown : s.vm.findClass RX12 = some m.cls := hown
  have hK := hE.1
  unfold m12_order at hm
  refine hw_aload_n hx hb dX12_order_0 rfl (hl.at 0 rfl) ?_
  refine lv_iload_n hx hb dX12_order_1 rfl (hl.at 1 rfl) ?_
  obtain ⟨a2, g2, hm⟩ := hw_bs hm
  obtain ⟨rfl, ht2⟩ := hw_rv_th g2
  obtain ⟨v2, e2, hm⟩ := hw_bs hm
  refine hw_cRI (va_runV (As := [.int l1]) (rest := []) ⟨hx, hb, hml, hown, hts⟩ (c12_isLaw l D b e2) (cwV 1 hts (hw_gV hw_m434 hw_m435 hw_m436 hw_m5 hw_m437) rfl rfl rfl (by decide +kernel) ⟨(Nat.le_of_ble_eq_true rfl), (Nat.le_of_ble_eq_true rfl)⟩) (hw_preV (ci := 12) hE hR rfl (by decide) (hw_q_of ht2)) rfl rfl hl.sz rfl (lv_room (Nat.le_of_ble_eq_true rfl)) dX12_order_2 ⟨(Nat.le_of_ble_eq_true rfl), (Nat.le_of_ble_eq_true rfl)⟩) ?_
  refine lv_if_eq (tgt := 16) hx hb dX12_order_5 (by decide) (fun c5 => ?_) (fun c5 => ?_)
  · have hm := hw_ip hm c5
    exact w12_order_b16 C0 hm hR hS (hl.sub [0] rfl)
  · have hm := hw_in hm c5
    refine hw_aload_n hx hb dX12_order_8 rfl (hl.at 0 rfl) ?_
    refine lv_iload_n hx hb dX12_order_9 rfl (hl.at 2 rfl) ?_
    obtain ⟨a10, g10, hm⟩ := hw_bs hm
    obtain ⟨rfl, ht10⟩ := hw_rv_th g10
    obtain ⟨v10, e10, hm⟩ := hw_bs hm
    refine hw_cRI (va_runV (As := [.int l2]) (rest := []) ⟨hx, hb, hml, hown, hts⟩ (c12_isStuff l D b e10) (cwV 1 hts (hw_gV hw_m129 hw_m130 hw_m131 hw_m5 hw_m132) rfl rfl rfl (by decide +kernel) ⟨(Nat.le_of_ble_eq_true rfl), (Nat.le_of_ble_eq_true rfl)⟩) (hw_preV (ci := 12) hE hR rfl (by decide) (hw_q_of ht10)) rfl rfl hl.sz rfl (lv_room (Nat.le_of_ble_eq_true rfl)) dX12_order_10 ⟨(Nat.le_of_ble_eq_true rfl), (Nat.le_of_ble_eq_true rfl)⟩) ?_
    refine lv_if_ne (tgt := 18) hx hb dX12_order_13 (by decide) (fun c13 => ?_) (fun c13 => ?_)
    · have hm := hw_in hm c13
      refine lv_iload_n hx hb dX12_order_18 rfl (hl.at 3 rfl) ?_
      obtain ⟨v19, e19, hm⟩ := hw_bs hm
      refine hw_cRI (va_runS (As := [.int l3]) (rest := []) ⟨hx, hb, hml, hown, hts⟩ (c12_isDoing l D e19) (cwS 1 hts (hw_gS hw_m572 hw_m573 hw_m5 hw_m574) rfl rfl rfl (by decide +kernel) ⟨(Nat.le_of_ble_eq_true rfl), (Nat.le_of_ble_eq_true rfl)⟩) (hw_pre0 hE) rfl rfl hl.sz rfl (lv_room (Nat.le_of_ble_eq_true rfl)) dX12_order_19 ⟨(Nat.le_of_ble_eq_true rfl), (Nat.le_of_ble_eq_true rfl)⟩) ?_
      refine lv_if_eq (tgt := 35) hx hb dX12_order_22 (by decide) (fun c22 => ?_) (fun c22 => ?_)
      · have hm := hw_ip hm c22
        exact w12_order_b35 C0 hm hR hS (hl.sub [0] rfl)
      · have hm := hw_in hm c22
        refine lv_iload hx hb dX12_order_25 (hl.at 4 rfl) ?_
        refine lv_iconst (v := 0) hx hb dX12_order_27 (by decide) ?_
        refine lv_iconst (v := 4) hx hb dX12_order_28 (by decide) ?_
        obtain ⟨v29, e29, hm⟩ := hw_bs hm
        refine hw_cRI (va_runS (As := [.int l4, .int (0 : Int32), .int (4 : Int32)]) (rest := []) ⟨hx, hb, hml, hown, hts⟩ (c12_in l D e29) (cwS 3 hts (hw_gS hw_m112 hw_m113 hw_m5 hw_m114) rfl rfl rfl (by decide +kernel) ⟨(Nat.le_of_ble_eq_true rfl), (Nat.le_of_ble_eq_true rfl)⟩) (hw_pre0 hE) rfl rfl hl.sz rfl (lv_room (Nat.le_of_ble_eq_true rfl)) dX12_order_29 ⟨(Nat.le_of_ble_eq_true rfl), (Nat.le_of_ble_eq_true rfl)⟩) ?_
        refine lv_if_ne (tgt := 38) hx hb dX12_order_32 (by decide) (fun c32 => ?_) (fun c32 => ?_)
        · have hm := hw_in hm c32
          refine lv_iconst (v := 0) hx hb dX12_order_38 (by decide) ?_
          refine hw_istore (lv' := [(5, .int (0 : Int32)), (0, hw_vr b (some x0)), (1, .int l1), (2, .int l2), (3, .int l3), (4, .int l4)]) hx hb dX12_order_39 hl (by decide) (by decide) rfl (fun ls hl => ?_)
          exact w12_order_b41 C0 hw_fu hm hR hS (hl.sub [1, 2, 3, 4, 5, 0] rfl)
        · have hm := hw_ip hm c32
          exact w12_order_b35 C0 hm hR hS (hl.sub [0] rfl)
    · have hm := hw_ip hm c13
      exact w12_order_b16 C0 hm hR hS (hl.sub [0] rfl)
set_option maxRecDepth 100000 in
theorem c12_order (l : Launch) (D : hw_D) (b : Nat) {x0 : Nat} {l1 : Int32} {l2 : Int32} {l3 : Int32} {l4 : Int32} {σ : hw_S} {r : Int32} {τ : hw_S} (hm : m12_order x0 l1 l2 l3 l4 σ = some (r, τ)) : Met l yX12_order (Cond.code yX12_order cX12_order 6 (some .int) :: wsL_law) rm12_order (hw_P1 D b σ [hw_vr b (some x0), .int l1, .int l2, .int l3, .int l4]) (hw_QI D b τ r) 0 0 (fun q => b ≤ q) := by
  refine hw_start1 (by decide +kernel) (by exact Nat.le_of_ble_eq_true rfl) ?_
  intro p e s m below meth c ls C0 hR hS hl
  have hl : lv_has ls 6 [(0, hw_vr b (some x0)), (1, .int l1), (2, .int l2), (3, .int l3), (4, .int l4)] := by exact hl
  exact w12_order_s hm C0 hR hS ⟨hl, (List.forall_mem_cons.mpr ⟨(fun h => by rw [show (hw_vr b (some x0) : Value).category = 1 from (hw_vr_cat _ _)] at h; cases h), (List.forall_mem_cons.mpr ⟨(fun h => absurd (show (1 : Nat) = 2 from h) (by decide)), (List.forall_mem_cons.mpr ⟨(fun h => absurd (show (1 : Nat) = 2 from h) (by decide)), (List.forall_mem_cons.mpr ⟨(fun h => absurd (show (1 : Nat) = 2 from h) (by decide)), (List.forall_mem_cons.mpr ⟨(fun h => absurd (show (1 : Nat) = 2 from h) (by decide)), (fun _ h => absurd h List.not_mem_nil)⟩)⟩)⟩)⟩)⟩)⟩

abbrev rm11_want : Room := { frames := 2, cells := 0, slots := 0, locals := 42 }
def m11_want (x0 : Nat) (l1 : Int32) (σ : hw_S) : Option (Int32 × hw_S) :=
  (if l1 = ((-1) : Int32) then
  (hw_gP (hw_q 11) 0 (some x0) σ).bind fun v6 =>
  (hw_pI (hw_q 8) 9 v6 (0 : Int32) σ).bind fun σ10 =>
  some ((0 : Int32), σ10)
  else
  (m11_isForm l1).bind fun v16 =>
  (if v16 = 0 then
  some (((-2) : Int32), σ)
  else
  (hw_gP (hw_q 11) 0 (some x0) σ).bind fun v26 =>
  (hw_gI (hw_q 8) 9 v26 σ).bind fun v29 =>
  (if v29 < (8 : Int32) then
  (hw_gP (hw_q 11) 0 (some x0) σ).bind fun v41 =>
  (hw_gP (hw_q 8) 8 v41 σ).bind fun v44 =>
  (hw_gP (hw_q 11) 0 (some x0) σ).bind fun v48 =>
  (hw_gI (hw_q 8) 9 v48 σ).bind fun v51 =>
  (hw_sI v44 v51 l1 σ).bind fun σ55 =>
  (hw_gP (hw_q 11) 0 (some x0) σ55).bind fun v57 =>
  (hw_gI (hw_q 8) 9 v57 σ55).bind fun v61 =>
  (hw_pI (hw_q 8) 9 v57 (v61 + (1 : Int32)) σ55).bind fun σ66 =>
  (hw_gP (hw_q 11) 0 (some x0) σ66).bind fun v70 =>
  (hw_gI (hw_q 8) 9 v70 σ66).bind fun v73 =>
  some (v73, σ66)
  else
  some (((-4) : Int32), σ))))
set_option maxRecDepth 100000 in
theorem w11_want_s {p : Program} {l : Launch} {e : Env} {s : State} {m : MethodId} {args : Array Value} {below : List Frame} {meth : Method} {c : Code} {D : hw_D} {b : Nat} {x0 : Nat} {l1 : Int32} {σ : hw_S} {r : Int32} {τ : hw_S} {H : Heap} {locs : List Loc} (hm : m11_want x0 l1 σ = some (r, τ)) (C0 : hw_C p s m args meth c D yX11_want cX11_want 2 (some .int)) (hR : hw_R D b σ H) (hS : va_S (fun q => b ≤ q) s.heap H locs) {ls : Array Slot} (hl : hw_L ls 2 255 [(0, hw_vr b (some x0)), (1, .int l1)]) : W p l e rm11_want s m args below meth c H locs 0 0 (MQ below (hw_QI D b τ r) args s 0 0 (fun q => b ≤ q)) (F0 m 0 ls []) := by
  obtain ⟨hx, hb, hml, hr, hown, hts, hlk, hE, hnm⟩ := id C0
  have hown : s.vm.findClass RX11 = some m.cls := hown
  have hK := hE.1
  unfold m11_want at hm
  refine lv_iload_n hx hb dX11_want_0 rfl (hl.at 1 rfl) ?_
  refine lv_iconst (v := (-1)) hx hb dX11_want_1 (by decide) ?_
  refine lv_icmp_ne (tgt := 15) hx hb dX11_want_2 (by decide) (fun c2 => ?_) (fun c2 => ?_)
  · have hm := hw_in hm c2
    refine lv_iload_n hx hb dX11_want_15 rfl (hl.at 1 rfl) ?_
    obtain ⟨v16, e16, hm⟩ := hw_bs hm
    refine hw_cRI (va_runS (As := [.int l1]) (rest := []) ⟨hx, hb, hml, hown, hts⟩ (c11_isForm l D e16) (cwS 1 hts (hw_gS hw_m735 hw_m736 hw_m2 hw_m737) rfl rfl rfl (by decide +kernel) ⟨(Nat.le_of_ble_eq_true rfl), (Nat.le_of_ble_eq_true rfl)⟩) (hw_pre0 hE) rfl rfl hl.sz rfl (lv_room (Nat.le_of_ble_eq_true rfl)) dX11_want_16 ⟨(Nat.le_of_ble_eq_true rfl), (Nat.le_of_ble_eq_true rfl)⟩) ?_
    refine lv_if_ne (tgt := 25) hx hb dX11_want_19 (by decide) (fun c19 => ?_) (fun c19 => ?_)
    · have hm := hw_in hm c19
      refine hw_aload_n hx hb dX11_want_25 rfl (hl.at 0 rfl) ?_
      obtain ⟨v26, e26, hm⟩ := hw_bs hm
      refine hw_getP hx hb hw_cf11 hts hown hK hR e26 (by decide) rfl (hts _ hw_m16) (fun _ h9 => h9) dX11_want_26 ?_
      obtain ⟨v29, e29, hm⟩ := hw_bs hm
      refine hw_getI hx hb hw_cf8 hts hown hK hR e29 (by decide) rfl (hts _ hw_m751) (fun _ h9 => h9) dX11_want_29 ?_
      refine lv_bipush (v := 8) hx hb dX11_want_32 (by decide) ?_
      refine lv_icmp_lt (tgt := 40) hx hb dX11_want_34 (by decide) (fun c34 => ?_) (fun c34 => ?_)
      · have hm := hw_ip hm c34
        refine hw_aload_n hx hb dX11_want_40 rfl (hl.at 0 rfl) ?_
        obtain ⟨v41, e41, hm⟩ := hw_bs hm
        refine hw_getP hx hb hw_cf11 hts hown hK hR e41 (by decide) rfl (hts _ hw_m16) (fun _ h9 => h9) dX11_want_41 ?_
        obtain ⟨v44, e44, hm⟩ := hw_bs hm
        refine hw_getP hx hb hw_cf8 hts hown hK hR e44 (by decide) rfl (hts _ hw_m752) (fun _ h9 => h9) dX11_want_44 ?_
        refine hw_aload_n hx hb dX11_want_47 rfl (hl.at 0 rfl) ?_
        obtain ⟨v48, e48, hm⟩ := hw_bs hm
        refine hw_getP hx hb hw_cf11 hts hown hK hR e48 (by decide) rfl (hts _ hw_m16) (fun _ h9 => h9) dX11_want_48 ?_
        obtain ⟨v51, e51, hm⟩ := hw_bs hm
        refine hw_getI hx hb hw_cf8 hts hown hK hR e51 (by decide) rfl (hts _ hw_m751) (fun _ h9 => h9) dX11_want_51 ?_
        refine lv_iload_n hx hb dX11_want_54 rfl (hl.at 1 rfl) ?_
        obtain ⟨σ55, e55, hm⟩ := hw_bs hm
        refine hw_iast hx hb hK hR hS e55 dX11_want_55 (fun _ _ hR hS => ?_)
        refine hw_aload_n hx hb dX11_want_56 rfl (hl.at 0 rfl) ?_
        obtain ⟨v57, e57, hm⟩ := hw_bs hm
        refine hw_getP hx hb hw_cf11 hts hown hK hR e57 (by decide) rfl (hts _ hw_m16) (fun _ h9 => h9) dX11_want_57 ?_
        refine lv_dup hx hb dX11_want_60 (hw_vr_cat _ _) ?_
        obtain ⟨v61, e61, hm⟩ := hw_bs hm
        refine hw_getI hx hb hw_cf8 hts hown hK hR e61 (by decide) rfl (hts _ hw_m751) (fun _ h9 => h9) dX11_want_61 ?_
        refine lv_iconst (v := 1) hx hb dX11_want_64 (by decide) ?_
        refine lv_iadd hx hb dX11_want_65 ?_
        obtain ⟨σ66, e66, hm⟩ := hw_bs hm
        refine hw_putI hx hb hw_cf8 hts hown hK hR hS e66 (by decide) rfl rfl (hts _ hw_m751) (fun _ h9 => h9) (Or.inl rfl) dX11_want_66 (fun _ _ hR hS => ?_)
        refine hw_aload_n hx hb dX11_want_69 rfl (hl.at 0 rfl) ?_
        obtain ⟨v70, e70, hm⟩ := hw_bs hm
        refine hw_getP hx hb hw_cf11 hts hown hK hR e70 (by decide) rfl (hts _ hw_m16) (fun _ h9 => h9) dX11_want_70 ?_
        obtain ⟨v73, e73, hm⟩ := hw_bs hm
        refine hw_getI hx hb hw_cf8 hts hown hK hR e73 (by decide) rfl (hts _ hw_m751) (fun _ h9 => h9) dX11_want_73 ?_
        exact hw_rWI hx hb hr hlk hR hS hm dX11_want_76
      · have hm := hw_in hm c34
        refine lv_bipush (v := (-4)) hx hb dX11_want_37 (by decide) ?_
        exact hw_rWI hx hb hr hlk hR hS hm dX11_want_39
    · have hm := hw_ip hm c19
      refine lv_bipush (v := (-2)) hx hb dX11_want_22 (by decide) ?_
      exact hw_rWI hx hb hr hlk hR hS hm dX11_want_24
  · have hm := hw_ip hm c2
    refine hw_aload_n hx hb dX11_want_5 rfl (hl.at 0 rfl) ?_
    obtain ⟨v6, e6, hm⟩ := hw_bs hm
    refine hw_getP hx hb hw_cf11 hts hown hK hR e6 (by decide) rfl (hts _ hw_m16) (fun _ h9 => h9) dX11_want_6 ?_
    refine lv_iconst (v := 0) hx hb dX11_want_9 (by decide) ?_
    obtain ⟨σ10, e10, hm⟩ := hw_bs hm
    refine hw_putI hx hb hw_cf8 hts hown hK hR hS e10 (by decide) rfl rfl (hts _ hw_m751) (fun _ h9 => h9) (Or.inl rfl) dX11_want_10 (fun _ _ hR hS => ?_)
    refine lv_iconst (v := 0) hx hb dX11_want_13 (by decide) ?_
    exact hw_rWI hx hb hr hlk hR hS hm dX11_want_14
set_option maxRecDepth 100000 in
theorem c11_want (l : Launch) (D : hw_D) (b : Nat) {x0 : Nat} {l1 : Int32} {σ : hw_S} {r : Int32} {τ : hw_S} (hm : m11_want x0 l1 σ = some (r, τ)) : Met l yX11_want (Cond.code yX11_want cX11_want 2 (some .int) :: wsL_law) rm11_want (hw_P1 D b σ [hw_vr b (some x0), .int l1]) (hw_QI D b τ r) 0 0 (fun q => b ≤ q) := by
  refine hw_start1 (by decide +kernel) (by exact Nat.le_of_ble_eq_true rfl) ?_
  intro p e s m below meth c ls C0 hR hS hl
  have hl : lv_has ls 2 [(0, hw_vr b (some x0)), (1, .int l1)] := by exact hl
  exact w11_want_s hm C0 hR hS ⟨hl, (List.forall_mem_cons.mpr ⟨(fun h => by rw [show (hw_vr b (some x0) : Value).category = 1 from (hw_vr_cat _ _)] at h; cases h), (List.forall_mem_cons.mpr ⟨(fun h => absurd (show (1 : Nat) = 2 from h) (by decide)), (fun _ h => absurd h List.not_mem_nil)⟩)⟩)⟩

abbrev rm12_want : Room := { frames := 1, cells := 0, slots := 0, locals := 22 }
def m12_want (x0 : Nat) (l1 : Int32) (σ : hw_S) : Option (Int32 × hw_S) :=
  (if l1 = ((-1) : Int32) then
  (hw_gP (hw_q 12) 1 (some x0) σ).bind fun v6 =>
  (hw_sI v6 (4 : Int32) (0 : Int32) σ).bind fun σ11 =>
  some ((0 : Int32), σ11)
  else
  (m12_in l1 (0 : Int32) (4 : Int32)).bind fun v17 =>
  (if v17 = 0 then
  some (((-2) : Int32), σ)
  else
  (hw_gP (hw_q 12) 1 (some x0) σ).bind fun v27 =>
  (hw_aI 0 v27 (4 : Int32) σ).bind fun v31 =>
  (if v31 = (8 : Int32) then
  some (((-4) : Int32), σ)
  else
  (hw_gP (hw_q 12) 1 (some x0) σ).bind fun v41 =>
  (hw_gP (hw_q 12) 1 (some x0) σ).bind fun v48 =>
  (hw_aI 0 v48 (4 : Int32) σ).bind fun v52 =>
  (hw_sI v41 ((1352 : Int32) + v52) l1 σ).bind fun σ55 =>
  (hw_gP (hw_q 12) 1 (some x0) σ55).bind fun v57 =>
  (hw_aI 0 v57 (4 : Int32) σ55).bind fun v62 =>
  (hw_sI v57 (4 : Int32) (v62 + (1 : Int32)) σ55).bind fun σ65 =>
  (hw_gP (hw_q 12) 1 (some x0) σ65).bind fun v67 =>
  (hw_aI 0 v67 (4 : Int32) σ65).bind fun v71 =>
  some (v71, σ65))))
set_option maxRecDepth 100000 in
theorem w12_want_s {p : Program} {l : Launch} {e : Env} {s : State} {m : MethodId} {args : Array Value} {below : List Frame} {meth : Method} {c : Code} {D : hw_D} {b : Nat} {x0 : Nat} {l1 : Int32} {σ : hw_S} {r : Int32} {τ : hw_S} {H : Heap} {locs : List Loc} (hm : m12_want x0 l1 σ = some (r, τ)) (C0 : hw_C p s m args meth c D yX12_want cX12_want 2 (some .int)) (hR : hw_R D b σ H) (hS : va_S (fun q => b ≤ q) s.heap H locs) {ls : Array Slot} (hl : hw_L ls 2 255 [(0, hw_vr b (some x0)), (1, .int l1)]) : W p l e rm12_want s m args below meth c H locs 0 0 (MQ below (hw_QI D b τ r) args s 0 0 (fun q => b ≤ q)) (F0 m 0 ls []) := by
  obtain ⟨hx, hb, hml, hr, hown, hts, hlk, hE, hnm⟩ := id C0
  have hown : s.vm.findClass RX12 = some m.cls := hown
  have hK := hE.1
  unfold m12_want at hm
  refine lv_iload_n hx hb dX12_want_0 rfl (hl.at 1 rfl) ?_
  refine lv_iconst (v := (-1)) hx hb dX12_want_1 (by decide) ?_
  refine lv_icmp_ne (tgt := 14) hx hb dX12_want_2 (by decide) (fun c2 => ?_) (fun c2 => ?_)
  · have hm := hw_in hm c2
    refine lv_iload_n hx hb dX12_want_14 rfl (hl.at 1 rfl) ?_
    refine lv_iconst (v := 0) hx hb dX12_want_15 (by decide) ?_
    refine lv_iconst (v := 4) hx hb dX12_want_16 (by decide) ?_
    obtain ⟨v17, e17, hm⟩ := hw_bs hm
    refine hw_cRI (va_runS (As := [.int l1, .int (0 : Int32), .int (4 : Int32)]) (rest := []) ⟨hx, hb, hml, hown, hts⟩ (c12_in l D e17) (cwS 3 hts (hw_gS hw_m112 hw_m113 hw_m5 hw_m114) rfl rfl rfl (by decide +kernel) ⟨(Nat.le_of_ble_eq_true rfl), (Nat.le_of_ble_eq_true rfl)⟩) (hw_pre0 hE) rfl rfl hl.sz rfl (lv_room (Nat.le_of_ble_eq_true rfl)) dX12_want_17 ⟨(Nat.le_of_ble_eq_true rfl), (Nat.le_of_ble_eq_true rfl)⟩) ?_
    refine lv_if_ne (tgt := 26) hx hb dX12_want_20 (by decide) (fun c20 => ?_) (fun c20 => ?_)
    · have hm := hw_in hm c20
      refine hw_aload_n hx hb dX12_want_26 rfl (hl.at 0 rfl) ?_
      obtain ⟨v27, e27, hm⟩ := hw_bs hm
      refine hw_getP hx hb hw_cf12 hts hown hK hR e27 (by decide) rfl (hts _ hw_m76) (fun _ h9 => h9) dX12_want_27 ?_
      refine lv_iconst (v := 4) hx hb dX12_want_30 (by decide) ?_
      obtain ⟨v31, e31, hm⟩ := hw_bs hm
      refine hw_iald hx hb hK hR e31 dX12_want_31 ?_
      refine lv_bipush (v := 8) hx hb dX12_want_32 (by decide) ?_
      refine lv_icmp_ne (tgt := 40) hx hb dX12_want_34 (by decide) (fun c34 => ?_) (fun c34 => ?_)
      · have hm := hw_in hm c34
        refine hw_aload_n hx hb dX12_want_40 rfl (hl.at 0 rfl) ?_
        obtain ⟨v41, e41, hm⟩ := hw_bs hm
        refine hw_getP hx hb hw_cf12 hts hown hK hR e41 (by decide) rfl (hts _ hw_m76) (fun _ h9 => h9) dX12_want_41 ?_
        refine lv_sipush (v := 1352) hx hb dX12_want_44 (by decide) ?_
        refine hw_aload_n hx hb dX12_want_47 rfl (hl.at 0 rfl) ?_
        obtain ⟨v48, e48, hm⟩ := hw_bs hm
        refine hw_getP hx hb hw_cf12 hts hown hK hR e48 (by decide) rfl (hts _ hw_m76) (fun _ h9 => h9) dX12_want_48 ?_
        refine lv_iconst (v := 4) hx hb dX12_want_51 (by decide) ?_
        obtain ⟨v52, e52, hm⟩ := hw_bs hm
        refine hw_iald hx hb hK hR e52 dX12_want_52 ?_
        refine lv_iadd hx hb dX12_want_53 ?_
        refine lv_iload_n hx hb dX12_want_54 rfl (hl.at 1 rfl) ?_
        obtain ⟨σ55, e55, hm⟩ := hw_bs hm
        refine hw_iast hx hb hK hR hS e55 dX12_want_55 (fun _ _ hR hS => ?_)
        refine hw_aload_n hx hb dX12_want_56 rfl (hl.at 0 rfl) ?_
        obtain ⟨v57, e57, hm⟩ := hw_bs hm
        refine hw_getP hx hb hw_cf12 hts hown hK hR e57 (by decide) rfl (hts _ hw_m76) (fun _ h9 => h9) dX12_want_57 ?_
        refine lv_iconst (v := 4) hx hb dX12_want_60 (by decide) ?_
        refine lv_dup2_11 hx hb dX12_want_61 rfl (hw_vr_cat _ _) ?_
        obtain ⟨v62, e62, hm⟩ := hw_bs hm
        refine hw_iald hx hb hK hR e62 dX12_want_62 ?_
        refine lv_iconst (v := 1) hx hb dX12_want_63 (by decide) ?_
        refine lv_iadd hx hb dX12_want_64 ?_
        obtain ⟨σ65, e65, hm⟩ := hw_bs hm
        refine hw_iast hx hb hK hR hS e65 dX12_want_65 (fun _ _ hR hS => ?_)
        refine hw_aload_n hx hb dX12_want_66 rfl (hl.at 0 rfl) ?_
        obtain ⟨v67, e67, hm⟩ := hw_bs hm
        refine hw_getP hx hb hw_cf12 hts hown hK hR e67 (by decide) rfl (hts _ hw_m76) (fun _ h9 => h9) dX12_want_67 ?_
        refine lv_iconst (v := 4) hx hb dX12_want_70 (by decide) ?_
        obtain ⟨v71, e71, hm⟩ := hw_bs hm
        refine hw_iald hx hb hK hR e71 dX12_want_71 ?_
        exact hw_rWI hx hb hr hlk hR hS hm dX12_want_72
      · have hm := hw_ip hm c34
        refine lv_bipush (v := (-4)) hx hb dX12_want_37 (by decide) ?_
        exact hw_rWI hx hb hr hlk hR hS hm dX12_want_39
    · have hm := hw_ip hm c20
      refine lv_bipush (v := (-2)) hx hb dX12_want_23 (by decide) ?_
      exact hw_rWI hx hb hr hlk hR hS hm dX12_want_25
  · have hm := hw_ip hm c2
    refine hw_aload_n hx hb dX12_want_5 rfl (hl.at 0 rfl) ?_
    obtain ⟨v6, e6, hm⟩ := hw_bs hm
    refine hw_getP hx hb hw_cf12 hts hown hK hR e6 (by decide) rfl (hts _ hw_m76) (fun _ h9 => h9) dX12_want_6 ?_
    refine lv_iconst (v := 4) hx hb dX12_want_9 (by decide) ?_
    refine lv_iconst (v := 0) hx hb dX12_want_10 (by decide) ?_
    obtain ⟨σ11, e11, hm⟩ := hw_bs hm
    refine hw_iast hx hb hK hR hS e11 dX12_want_11 (fun _ _ hR hS => ?_)
    refine lv_iconst (v := 0) hx hb dX12_want_12 (by decide) ?_
    exact hw_rWI hx hb hr hlk hR hS hm dX12_want_13
set_option maxRecDepth 100000 in
theorem c12_want (l : Launch) (D : hw_D) (b : Nat) {x0 : Nat} {l1 : Int32} {σ : hw_S} {r : Int32} {τ : hw_S} (hm : m12_want x0 l1 σ = some (r, τ)) : Met l yX12_want (Cond.code yX12_want cX12_want 2 (some .int) :: wsL_law) rm12_want (hw_P1 D b σ [hw_vr b (some x0), .int l1]) (hw_QI D b τ r) 0 0 (fun q => b ≤ q) := by
  refine hw_start1 (by decide +kernel) (by exact Nat.le_of_ble_eq_true rfl) ?_
  intro p e s m below meth c ls C0 hR hS hl
  have hl : lv_has ls 2 [(0, hw_vr b (some x0)), (1, .int l1)] := by exact hl
  exact w12_want_s hm C0 hR hS ⟨hl, (List.forall_mem_cons.mpr ⟨(fun h => by rw [show (hw_vr b (some x0) : Value).category = 1 from (hw_vr_cat _ _)] at h; cases h), (List.forall_mem_cons.mpr ⟨(fun h => absurd (show (1 : Nat) = 2 from h) (by decide)), (fun _ h => absurd h List.not_mem_nil)⟩)⟩)⟩

abbrev rm11_cheapestGoingOn : Room := { frames := 1, cells := 0, slots := 0, locals := 21 }
def m11_cheapestGoingOn_b68 (l3 : Int32) (σ : hw_S) : Option Int32 :=
  some l3
set_option maxRecDepth 100000 in
theorem w11_cheapestGoingOn_b68 {p : Program} {l : Launch} {e : Env} {s : State} {m : MethodId} {args : Array Value} {below : List Frame} {meth : Method} {c : Code} {D : hw_D} {b : Nat} {r : Int32} (C0 : hw_C p s m args meth c D yX11_cheapestGoingOn cX11_cheapestGoingOn 5 (some .int)) {l3 : Int32} {σ : hw_S} (hm : m11_cheapestGoingOn_b68 l3 σ = some r) (hR : hw_R D b σ s.heap) {ls : Array Slot} (hl : hw_L ls 5 255 [(3, .int l3)]) : W p l e rm11_cheapestGoingOn s m args below meth c s.heap [] 0 0 (MQ below (hw_RI r) args s 0 0 hw_nof) (F0 m 68 ls []) := by
  obtain ⟨hx, hb, hml, hr, hown, hts, hlk, hE, hnm⟩ := id C0
  have hown : s.vm.findClass RX11 = some m.cls := hown
  have hK := hE.1
  unfold m11_cheapestGoingOn_b68 at hm
  refine lv_iload_n hx hb dX11_cheapestGoingOn_68 rfl (hl.at 0 rfl) ?_
  exact hw_rRI hx hb hr hlk hm dX11_cheapestGoingOn_69
def m11_cheapestGoingOn_b62 (k6 : Option Nat → Int32 → Int32 → Int32 → Int32 → hw_S → Option Int32) (l0 : Option Nat) (l1 : Int32) (l2 : Int32) (l3 : Int32) (l4 : Int32) (σ : hw_S) : Option Int32 :=
  k6 l0 l1 l2 l3 (l4 + 1) σ
set_option maxRecDepth 100000 in
theorem w11_cheapestGoingOn_b62 {p : Program} {l : Launch} {e : Env} {s : State} {m : MethodId} {args : Array Value} {below : List Frame} {meth : Method} {c : Code} {D : hw_D} {b : Nat} {k6 : Option Nat → Int32 → Int32 → Int32 → Int32 → hw_S → Option Int32} {r : Int32} (C0 : hw_C p s m args meth c D yX11_cheapestGoingOn cX11_cheapestGoingOn 5 (some .int)) (hk6 : ∀ {l0 : Option Nat} {l1 : Int32} {l2 : Int32} {l3 : Int32} {l4 : Int32} {σ : hw_S} {ls : Array Slot}, k6 l0 l1 l2 l3 l4 σ = some r → hw_R D b σ s.heap → hw_L ls 5 255 [(0, hw_vr b l0), (1, .int l1), (2, .int l2), (3, .int l3), (4, .int l4)] → W p l e rm11_cheapestGoingOn s m args below meth c s.heap [] 0 0 (MQ below (hw_RI r) args s 0 0 hw_nof) (F0 m 6 ls [])) {l0 : Option Nat} {l1 : Int32} {l2 : Int32} {l3 : Int32} {l4 : Int32} {σ : hw_S} (hm : m11_cheapestGoingOn_b62 k6 l0 l1 l2 l3 l4 σ = some r) (hR : hw_R D b σ s.heap) {ls : Array Slot} (hl : hw_L ls 5 255 [(0, hw_vr b l0), (1, .int l1), (2, .int l2), (3, .int l3), (4, .int l4)]) : W p l e rm11_cheapestGoingOn s m args below meth c s.heap [] 0 0 (MQ below (hw_RI r) args s 0 0 hw_nof) (F0 m 62 ls []) := by
  obtain ⟨hx, hb, hml, hr, hown, hts, hlk, hE, hnm⟩ := id C0
  have hown : s.vm.findClass RX11 = some m.cls := hown
  have hK := hE.1
  unfold m11_cheapestGoingOn_b62 at hm
  refine hw_iinc (v := (l4 + 1)) (lv' := [(4, .int (l4 + 1)), (0, hw_vr b l0), (1, .int l1), (2, .int l2), (3, .int l3)]) hx hb dX11_cheapestGoingOn_62 hl (k := 4) rfl rfl (by decide) (by decide) rfl (fun ls hl => ?_)
  refine lv_goto (tgt := 6) hx hb dX11_cheapestGoingOn_65 (by decide) ?_
  exact hk6 hm hR (hl.sub [1, 2, 3, 4, 0] rfl)
def m11_cheapestGoingOn_b39 (k6 : Option Nat → Int32 → Int32 → Int32 → Int32 → hw_S → Option Int32) (l0 : Option Nat) (l1 : Int32) (l2 : Int32) (l3 : Int32) (l4 : Int32) (σ : hw_S) : Option Int32 :=
  (if (100 : Int32) ≤ (l1 + l4) then
  m11_cheapestGoingOn_b62 k6 l0 l1 l2 l3 l4 σ
  else
  (hw_aI 0 l0 (l1 + l4) σ).bind fun v56 =>
  m11_cheapestGoingOn_b62 k6 l0 l1 l2 (hw_min l3 (l4 + v56)) l4 σ)
set_option maxRecDepth 100000 in
theorem w11_cheapestGoingOn_b39 {p : Program} {l : Launch} {e : Env} {s : State} {m : MethodId} {args : Array Value} {below : List Frame} {meth : Method} {c : Code} {D : hw_D} {b : Nat} {k6 : Option Nat → Int32 → Int32 → Int32 → Int32 → hw_S → Option Int32} {r : Int32} (C0 : hw_C p s m args meth c D yX11_cheapestGoingOn cX11_cheapestGoingOn 5 (some .int)) (hk6 : ∀ {l0 : Option Nat} {l1 : Int32} {l2 : Int32} {l3 : Int32} {l4 : Int32} {σ : hw_S} {ls : Array Slot}, k6 l0 l1 l2 l3 l4 σ = some r → hw_R D b σ s.heap → hw_L ls 5 255 [(0, hw_vr b l0), (1, .int l1), (2, .int l2), (3, .int l3), (4, .int l4)] → W p l e rm11_cheapestGoingOn s m args below meth c s.heap [] 0 0 (MQ below (hw_RI r) args s 0 0 hw_nof) (F0 m 6 ls [])) {l0 : Option Nat} {l1 : Int32} {l2 : Int32} {l3 : Int32} {l4 : Int32} {σ : hw_S} (hm : m11_cheapestGoingOn_b39 k6 l0 l1 l2 l3 l4 σ = some r) (hR : hw_R D b σ s.heap) {ls : Array Slot} (hl : hw_L ls 5 255 [(0, hw_vr b l0), (1, .int l1), (2, .int l2), (3, .int l3), (4, .int l4)]) : W p l e rm11_cheapestGoingOn s m args below meth c s.heap [] 0 0 (MQ below (hw_RI r) args s 0 0 hw_nof) (F0 m 39 ls []) := by
  obtain ⟨hx, hb, hml, hr, hown, hts, hlk, hE, hnm⟩ := id C0
  have hown : s.vm.findClass RX11 = some m.cls := hown
  have hK := hE.1
  unfold m11_cheapestGoingOn_b39 at hm
  refine lv_iload_n hx hb dX11_cheapestGoingOn_39 rfl (hl.at 1 rfl) ?_
  refine lv_iload hx hb dX11_cheapestGoingOn_40 (hl.at 4 rfl) ?_
  refine lv_iadd hx hb dX11_cheapestGoingOn_42 ?_
  refine lv_bipush (v := 100) hx hb dX11_cheapestGoingOn_43 (by decide) ?_
  refine lv_icmp_ge (tgt := 62) hx hb dX11_cheapestGoingOn_45 (by decide) (fun c45 => ?_) (fun c45 => ?_)
  · have hm := hw_ip hm c45
    exact w11_cheapestGoingOn_b62 C0 hk6 hm hR (hl.sub [0, 1, 2, 3, 4] rfl)
  · have hm := hw_in hm c45
    refine lv_iload_n hx hb dX11_cheapestGoingOn_48 rfl (hl.at 3 rfl) ?_
    refine lv_iload hx hb dX11_cheapestGoingOn_49 (hl.at 4 rfl) ?_
    refine hw_aload_n hx hb dX11_cheapestGoingOn_51 rfl (hl.at 0 rfl) ?_
    refine lv_iload_n hx hb dX11_cheapestGoingOn_52 rfl (hl.at 1 rfl) ?_
    refine lv_iload hx hb dX11_cheapestGoingOn_53 (hl.at 4 rfl) ?_
    refine lv_iadd hx hb dX11_cheapestGoingOn_55 ?_
    obtain ⟨v56, e56, hm⟩ := hw_bs hm
    refine hw_iald hx hb hK hR e56 dX11_cheapestGoingOn_56 ?_
    refine lv_iadd hx hb dX11_cheapestGoingOn_57 ?_
    refine hw_mmin hx hb hml hl hown (hts _ hw_m769) (hts _ hw_m156) (hts _ hw_m157) (hts _ hw_m158) (Nat.le_of_ble_eq_true rfl) ⟨Nat.le_of_ble_eq_true rfl, (Nat.le_of_ble_eq_true rfl)⟩ (Nat.le_of_ble_eq_true rfl) (Nat.le_of_ble_eq_true rfl) dX11_cheapestGoingOn_58 ?_
    refine hw_istore_n (lv' := [(3, .int (hw_min l3 (l4 + v56))), (0, hw_vr b l0), (1, .int l1), (2, .int l2), (4, .int l4)]) hx hb dX11_cheapestGoingOn_61 rfl hl (by decide) (by decide) rfl (fun ls hl => ?_)
    exact w11_cheapestGoingOn_b62 C0 hk6 hm hR (hl.sub [1, 2, 3, 0, 4] rfl)
def m11_cheapestGoingOn_b6 : Nat → Option Nat → Int32 → Int32 → Int32 → Int32 → hw_S → Option Int32
  | 0, _, _, _, _, _, _ => none
  | n + 1, l0, l1, l2, l3, l4, σ =>
  (if l2 < l4 then
  m11_cheapestGoingOn_b68 l3 σ
  else
  (if l3 ≤ l4 then
  m11_cheapestGoingOn_b68 l3 σ
  else
  (if (l1 - l4) < 0 then
  m11_cheapestGoingOn_b39 (m11_cheapestGoingOn_b6 n) l0 l1 l2 l3 l4 σ
  else
  (hw_aI 0 l0 (l1 - l4) σ).bind fun v33 =>
  m11_cheapestGoingOn_b39 (m11_cheapestGoingOn_b6 n) l0 l1 l2 (hw_min l3 (l4 + v33)) l4 σ)))
set_option maxRecDepth 100000 in
theorem w11_cheapestGoingOn_b6 {p : Program} {l : Launch} {e : Env} {s : State} {m : MethodId} {args : Array Value} {below : List Frame} {meth : Method} {c : Code} {D : hw_D} {b : Nat} {r : Int32} (C0 : hw_C p s m args meth c D yX11_cheapestGoingOn cX11_cheapestGoingOn 5 (some .int)) : ∀ (n : Nat) {l0 : Option Nat} {l1 : Int32} {l2 : Int32} {l3 : Int32} {l4 : Int32} {σ : hw_S} {ls : Array Slot}, m11_cheapestGoingOn_b6 n l0 l1 l2 l3 l4 σ = some r → hw_R D b σ s.heap → hw_L ls 5 255 [(0, hw_vr b l0), (1, .int l1), (2, .int l2), (3, .int l3), (4, .int l4)] → W p l e rm11_cheapestGoingOn s m args below meth c s.heap [] 0 0 (MQ below (hw_RI r) args s 0 0 hw_nof) (F0 m 6 ls []) := by
  obtain ⟨hx, hb, hml, hr, hown, hts, hlk, hE, hnm⟩ := id C0
  have hown : s.vm.findClass RX11 = some m.cls := hown
  have hK := hE.1
  intro n
  induction n with
  | zero => intro _ _ _ _ _ _ _ hm; cases hm
  | succ n ih =>
    intro l0 l1 l2 l3 l4 σ ls hm hR hl
    rw [m11_cheapestGoingOn_b6] at hm
    refine lv_iload hx hb dX11_cheapestGoingOn_6 (hl.at 4 rfl) ?_
    refine lv_iload_n hx hb dX11_cheapestGoingOn_8 rfl (hl.at 2 rfl) ?_
    refine lv_icmp_gt (tgt := 68) hx hb dX11_cheapestGoingOn_9 (by decide) (fun c9 => ?_) (fun c9 => ?_)
    · have hm := hw_ip hm c9
      exact w11_cheapestGoingOn_b68 C0 hm hR (hl.sub [3] rfl)
    · have hm := hw_in hm c9
      refine lv_iload hx hb dX11_cheapestGoingOn_12 (hl.at 4 rfl) ?_
      refine lv_iload_n hx hb dX11_cheapestGoingOn_14 rfl (hl.at 3 rfl) ?_
      refine lv_icmp_ge (tgt := 68) hx hb dX11_cheapestGoingOn_15 (by decide) (fun c15 => ?_) (fun c15 => ?_)
      · have hm := hw_ip hm c15
        exact w11_cheapestGoingOn_b68 C0 hm hR (hl.sub [3] rfl)
      · have hm := hw_in hm c15
        refine lv_iload_n hx hb dX11_cheapestGoingOn_18 rfl (hl.at 1 rfl) ?_
        refine lv_iload hx hb dX11_cheapestGoingOn_19 (hl.at 4 rfl) ?_
        refine lv_isub hx hb dX11_cheapestGoingOn_21 ?_
        refine lv_if_lt (tgt := 39) hx hb dX11_cheapestGoingOn_22 (by decide) (fun c22 => ?_) (fun c22 => ?_)
        · have hm := hw_ip hm c22
          exact w11_cheapestGoingOn_b39 C0 ih hm hR (hl.sub [0, 1, 2, 3, 4] rfl)
        · have hm := hw_in hm c22
          refine lv_iload_n hx hb dX11_cheapestGoingOn_25 rfl (hl.at 3 rfl) ?_
          refine lv_iload hx hb dX11_cheapestGoingOn_26 (hl.at 4 rfl) ?_
          refine hw_aload_n hx hb dX11_cheapestGoingOn_28 rfl (hl.at 0 rfl) ?_
          refine lv_iload_n hx hb dX11_cheapestGoingOn_29 rfl (hl.at 1 rfl) ?_
          refine lv_iload hx hb dX11_cheapestGoingOn_30 (hl.at 4 rfl) ?_
          refine lv_isub hx hb dX11_cheapestGoingOn_32 ?_
          obtain ⟨v33, e33, hm⟩ := hw_bs hm
          refine hw_iald hx hb hK hR e33 dX11_cheapestGoingOn_33 ?_
          refine lv_iadd hx hb dX11_cheapestGoingOn_34 ?_
          refine hw_mmin hx hb hml hl hown (hts _ hw_m769) (hts _ hw_m156) (hts _ hw_m157) (hts _ hw_m158) (Nat.le_of_ble_eq_true rfl) ⟨Nat.le_of_ble_eq_true rfl, (Nat.le_of_ble_eq_true rfl)⟩ (Nat.le_of_ble_eq_true rfl) (Nat.le_of_ble_eq_true rfl) dX11_cheapestGoingOn_35 ?_
          refine hw_istore_n (lv' := [(3, .int (hw_min l3 (l4 + v33))), (0, hw_vr b l0), (1, .int l1), (2, .int l2), (4, .int l4)]) hx hb dX11_cheapestGoingOn_38 rfl hl (by decide) (by decide) rfl (fun ls hl => ?_)
          exact w11_cheapestGoingOn_b39 C0 ih hm hR (hl.sub [1, 2, 3, 0, 4] rfl)
def m11_cheapestGoingOn (l0 : Option Nat) (l1 : Int32) (l2 : Int32) (σ : hw_S) : Option Int32 :=
  m11_cheapestGoingOn_b6 hw_fu l0 l1 l2 (1000000 : Int32) (0 : Int32) σ
set_option maxRecDepth 100000 in
theorem w11_cheapestGoingOn_s {p : Program} {l : Launch} {e : Env} {s : State} {m : MethodId} {args : Array Value} {below : List Frame} {meth : Method} {c : Code} {D : hw_D} {b : Nat} {l0 : Option Nat} {l1 : Int32} {l2 : Int32} {σ : hw_S} {r : Int32} (hm : m11_cheapestGoingOn l0 l1 l2 σ = some r) (C0 : hw_C p s m args meth c D yX11_cheapestGoingOn cX11_cheapestGoingOn 5 (some .int)) (hR : hw_R D b σ s.heap) {ls : Array Slot} (hl : hw_L ls 5 255 [(0, hw_vr b l0), (1, .int l1), (2, .int l2)]) : W p l e rm11_cheapestGoingOn s m args below meth c s.heap [] 0 0 (MQ below (hw_RI r) args s 0 0 hw_nof) (F0 m 0 ls []) := by
  obtain ⟨hx, hb, hml, hr, hown, hts, hlk, hE, hnm⟩ := id C0
  have hown : s.vm.findClass RX11 = some m.cls := hown
  have hK := hE.1
  unfold m11_cheapestGoingOn at hm
  refine lv_ldc (v := 1000000) hx hb hown (hts _ hw_m761) dX11_cheapestGoingOn_0 ?_
  refine hw_istore_n (lv' := [(3, .int (1000000 : Int32)), (0, hw_vr b l0), (1, .int l1), (2, .int l2)]) hx hb dX11_cheapestGoingOn_2 rfl hl (by decide) (by decide) rfl (fun ls hl => ?_)
  refine lv_iconst (v := 0) hx hb dX11_cheapestGoingOn_3 (by decide) ?_
  refine hw_istore (lv' := [(4, .int (0 : Int32)), (3, .int (1000000 : Int32)), (0, hw_vr b l0), (1, .int l1), (2, .int l2)]) hx hb dX11_cheapestGoingOn_4 hl (by decide) (by decide) rfl (fun ls hl => ?_)
  exact w11_cheapestGoingOn_b6 C0 hw_fu hm hR (hl.sub [2, 3, 4, 1, 0] rfl)
set_option maxRecDepth 100000 in
theorem c11_cheapestGoingOn (l : Launch) (D : hw_D) (b : Nat) {l0 : Option Nat} {l1 : Int32} {l2 : Int32} {σ : hw_S} {r : Int32} (hm : m11_cheapestGoingOn l0 l1 l2 σ = some r) : Met l yX11_cheapestGoingOn (Cond.code yX11_cheapestGoingOn cX11_cheapestGoingOn 5 (some .int) :: wsL_law) rm11_cheapestGoingOn (hw_P1 D b σ [hw_vr b l0, .int l1, .int l2]) (hw_RI r) 0 0 hw_nof := by
  refine hw_start1 (by decide +kernel) (by cases l0 <;> exact Nat.le_of_ble_eq_true rfl) ?_
  intro p e s m below meth c ls C0 hR hS hl
  have hl : lv_has ls 5 [(0, hw_vr b l0), (1, .int l1), (2, .int l2)] := by cases l0 <;> exact hl
  exact w11_cheapestGoingOn_s hm C0 hR ⟨hl, (List.forall_mem_cons.mpr ⟨(fun h => by rw [show (hw_vr b l0 : Value).category = 1 from (hw_vr_cat _ _)] at h; cases h), (List.forall_mem_cons.mpr ⟨(fun h => absurd (show (1 : Nat) = 2 from h) (by decide)), (List.forall_mem_cons.mpr ⟨(fun h => absurd (show (1 : Nat) = 2 from h) (by decide)), (fun _ h => absurd h List.not_mem_nil)⟩)⟩)⟩)⟩

abbrev rm11_fillRowCosts : Room := { frames := 2, cells := 0, slots := 0, locals := 45 }
def m11_fillRowCosts_b99 (k10 : Nat → Int32 → Int32 → hw_S → Option hw_S) (k16 : Nat → Int32 → Int32 → Int32 → hw_S → Option hw_S) (x0 : Nat) (l1 : Int32) (l2 : Int32) (l3 : Int32) (σ : hw_S) : Option hw_S :=
  k16 x0 l1 l2 (l3 + 1) σ
set_option maxRecDepth 100000 in
theorem w11_fillRowCosts_b99 {p : Program} {l : Launch} {e : Env} {s : State} {m : MethodId} {args : Array Value} {below : List Frame} {meth : Method} {c : Code} {D : hw_D} {b : Nat} {k10 : Nat → Int32 → Int32 → hw_S → Option hw_S} {k16 : Nat → Int32 → Int32 → Int32 → hw_S → Option hw_S} {τ : hw_S} (C0 : hw_C p s m args meth c D yX11_fillRowCosts cX11_fillRowCosts 4 none) (hk10 : ∀ {x0 : Nat} {l1 : Int32} {l2 : Int32} {σ : hw_S} {H : Heap} {locs : List Loc} {ls : Array Slot}, k10 x0 l1 l2 σ = some τ → hw_R D b σ H → va_S (fun q => b ≤ q) s.heap H locs → hw_L ls 4 255 [(0, hw_vr b (some x0)), (1, .int l1), (2, .int l2)] → W p l e rm11_fillRowCosts s m args below meth c H locs 0 0 (MQ below (hw_QV D b τ) args s 0 0 (fun q => b ≤ q)) (F0 m 10 ls [])) (hk16 : ∀ {x0 : Nat} {l1 : Int32} {l2 : Int32} {l3 : Int32} {σ : hw_S} {H : Heap} {locs : List Loc} {ls : Array Slot}, k16 x0 l1 l2 l3 σ = some τ → hw_R D b σ H → va_S (fun q => b ≤ q) s.heap H locs → hw_L ls 4 255 [(0, hw_vr b (some x0)), (1, .int l1), (2, .int l2), (3, .int l3)] → W p l e rm11_fillRowCosts s m args below meth c H locs 0 0 (MQ below (hw_QV D b τ) args s 0 0 (fun q => b ≤ q)) (F0 m 16 ls [])) {x0 : Nat} {l1 : Int32} {l2 : Int32} {l3 : Int32} {σ : hw_S} {H : Heap} {locs : List Loc} (hm : m11_fillRowCosts_b99 k10 k16 x0 l1 l2 l3 σ = some τ) (hR : hw_R D b σ H) (hS : va_S (fun q => b ≤ q) s.heap H locs) {ls : Array Slot} (hl : hw_L ls 4 255 [(0, hw_vr b (some x0)), (1, .int l1), (2, .int l2), (3, .int l3)]) : W p l e rm11_fillRowCosts s m args below meth c H locs 0 0 (MQ below (hw_QV D b τ) args s 0 0 (fun q => b ≤ q)) (F0 m 99 ls []) := by
  obtain ⟨hx, hb, hml, hr, hown, hts, hlk, hE, hnm⟩ := id C0
  have hown : s.vm.findClass RX11 = some m.cls := hown
  have hK := hE.1
  unfold m11_fillRowCosts_b99 at hm
  refine hw_iinc (v := (l3 + 1)) (lv' := [(3, .int (l3 + 1)), (0, hw_vr b (some x0)), (1, .int l1), (2, .int l2)]) hx hb dX11_fillRowCosts_99 hl (k := 3) rfl rfl (by decide) (by decide) rfl (fun ls hl => ?_)
  refine lv_goto (tgt := 16) hx hb dX11_fillRowCosts_102 (by decide) ?_
  exact hk16 hm hR hS (hl.sub [1, 2, 3, 0] rfl)
def m11_fillRowCosts_b16 (k10 : Nat → Int32 → Int32 → hw_S → Option hw_S) : Nat → Nat → Int32 → Int32 → Int32 → hw_S → Option hw_S
  | 0, _, _, _, _, _ => none
  | n + 1, x0, l1, l2, l3, σ =>
  (if (100 : Int32) ≤ l3 then
  k10 x0 l1 (l2 + (-1)) σ
  else
  (hw_gP (hw_q 11) 11 (some x0) σ).bind fun v23 =>
  (hw_aI 0 v23 l3 σ).bind fun v27 =>
  (hw_gP (hw_q 11) 0 (some x0) σ).bind fun v29 =>
  (hw_gP (hw_q 8) 8 v29 σ).bind fun v32 =>
  (hw_aI 0 v32 l2 σ).bind fun v36 =>
  (if v27 = v36 then
  (hw_gP (hw_q 11) 0 (some x0) σ).bind fun v55 =>
  (hw_gI (hw_q 8) 9 v55 σ).bind fun v58 =>
  (if l2 = (v58 - (1 : Int32)) then
  (hw_gP (hw_q 11) 12 (some x0) σ).bind fun v67 =>
  (hw_aP 4 v67 l2 σ).bind fun v71 =>
  (hw_sI v71 l3 (0 : Int32) σ).bind fun σ74 =>
  m11_fillRowCosts_b99 k10 (m11_fillRowCosts_b16 k10 n) x0 l1 l2 l3 σ74
  else
  (hw_gP (hw_q 11) 12 (some x0) σ).bind fun v79 =>
  (hw_aP 4 v79 l2 σ).bind fun v83 =>
  (hw_gP (hw_q 11) 12 (some x0) σ).bind fun v86 =>
  (hw_aP 4 v86 (l2 + (1 : Int32)) σ).bind fun v92 =>
  (m11_cheapestGoingOn v92 l3 l1 σ).bind fun v95 =>
  (hw_sI v83 l3 v95 σ).bind fun σ98 =>
  m11_fillRowCosts_b99 k10 (m11_fillRowCosts_b16 k10 n) x0 l1 l2 l3 σ98)
  else
  (hw_gP (hw_q 11) 12 (some x0) σ).bind fun v41 =>
  (hw_aP 4 v41 l2 σ).bind fun v45 =>
  (hw_sI v45 l3 (1000000 : Int32) σ).bind fun σ49 =>
  m11_fillRowCosts_b99 k10 (m11_fillRowCosts_b16 k10 n) x0 l1 l2 l3 σ49))
set_option maxRecDepth 100000 in
theorem w11_fillRowCosts_b16 {p : Program} {l : Launch} {e : Env} {s : State} {m : MethodId} {args : Array Value} {below : List Frame} {meth : Method} {c : Code} {D : hw_D} {b : Nat} {k10 : Nat → Int32 → Int32 → hw_S → Option hw_S} {τ : hw_S} (C0 : hw_C p s m args meth c D yX11_fillRowCosts cX11_fillRowCosts 4 none) (hk10 : ∀ {x0 : Nat} {l1 : Int32} {l2 : Int32} {σ : hw_S} {H : Heap} {locs : List Loc} {ls : Array Slot}, k10 x0 l1 l2 σ = some τ → hw_R D b σ H → va_S (fun q => b ≤ q) s.heap H locs → hw_L ls 4 255 [(0, hw_vr b (some x0)), (1, .int l1), (2, .int l2)] → W p l e rm11_fillRowCosts s m args below meth c H locs 0 0 (MQ below (hw_QV D b τ) args s 0 0 (fun q => b ≤ q)) (F0 m 10 ls [])) : ∀ (n : Nat) {x0 : Nat} {l1 : Int32} {l2 : Int32} {l3 : Int32} {σ : hw_S} {H : Heap} {locs : List Loc} {ls : Array Slot}, m11_fillRowCosts_b16 k10 n x0 l1 l2 l3 σ = some τ → hw_R D b σ H → va_S (fun q => b ≤ q) s.heap H locs → hw_L ls 4 255 [(0, hw_vr b (some x0)), (1, .int l1), (2, .int l2), (3, .int l3)] → W p l e rm11_fillRowCosts s m args below meth c H locs 0 0 (MQ below (hw_QV D b τ) args s 0 0 (fun q => b ≤ q)) (F0 m 16 ls []) := by
  obtain ⟨hx, hb, hml, hr, hown, hts, hlk, hE, hnm⟩ := id C0
  have hown : s.vm.findClass RX11 = some m.cls := hown
  have hK := hE.1
  intro n
  induction n with
  | zero => intro _ _ _ _ _ _ _ _ hm; cases hm
  | succ n ih =>
    intro x0 l1 l2 l3 σ H locs ls hm hR hS hl
    rw [m11_fillRowCosts_b16] at hm
    refine lv_iload_n hx hb dX11_fillRowCosts_16 rfl (hl.at 3 rfl) ?_
    refine lv_bipush (v := 100) hx hb dX11_fillRowCosts_17 (by decide) ?_
    refine lv_icmp_ge (tgt := 105) hx hb dX11_fillRowCosts_19 (by decide) (fun c19 => ?_) (fun c19 => ?_)
    · have hm := hw_ip hm c19
      refine hw_iinc (v := (l2 + (-1))) (lv' := [(2, .int (l2 + (-1))), (0, hw_vr b (some x0)), (1, .int l1), (3, .int l3)]) hx hb dX11_fillRowCosts_105 hl (k := 2) rfl rfl (by decide) (by decide) rfl (fun ls hl => ?_)
      refine lv_goto (tgt := 10) hx hb dX11_fillRowCosts_108 (by decide) ?_
      exact hk10 hm hR hS (hl.sub [1, 2, 0] rfl)
    · have hm := hw_in hm c19
      refine hw_aload_n hx hb dX11_fillRowCosts_22 rfl (hl.at 0 rfl) ?_
      obtain ⟨v23, e23, hm⟩ := hw_bs hm
      refine hw_getP hx hb hw_cf11 hts hown hK hR e23 (by decide) rfl (hts _ hw_m34) (fun _ h9 => h9) dX11_fillRowCosts_23 ?_
      refine lv_iload_n hx hb dX11_fillRowCosts_26 rfl (hl.at 3 rfl) ?_
      obtain ⟨v27, e27, hm⟩ := hw_bs hm
      refine hw_iald hx hb hK hR e27 dX11_fillRowCosts_27 ?_
      refine hw_aload_n hx hb dX11_fillRowCosts_28 rfl (hl.at 0 rfl) ?_
      obtain ⟨v29, e29, hm⟩ := hw_bs hm
      refine hw_getP hx hb hw_cf11 hts hown hK hR e29 (by decide) rfl (hts _ hw_m16) (fun _ h9 => h9) dX11_fillRowCosts_29 ?_
      obtain ⟨v32, e32, hm⟩ := hw_bs hm
      refine hw_getP hx hb hw_cf8 hts hown hK hR e32 (by decide) rfl (hts _ hw_m752) (fun _ h9 => h9) dX11_fillRowCosts_32 ?_
      refine lv_iload_n hx hb dX11_fillRowCosts_35 rfl (hl.at 2 rfl) ?_
      obtain ⟨v36, e36, hm⟩ := hw_bs hm
      refine hw_iald hx hb hK hR e36 dX11_fillRowCosts_36 ?_
      refine lv_icmp_eq (tgt := 53) hx hb dX11_fillRowCosts_37 (by decide) (fun c37 => ?_) (fun c37 => ?_)
      · have hm := hw_ip hm c37
        refine lv_iload_n hx hb dX11_fillRowCosts_53 rfl (hl.at 2 rfl) ?_
        refine hw_aload_n hx hb dX11_fillRowCosts_54 rfl (hl.at 0 rfl) ?_
        obtain ⟨v55, e55, hm⟩ := hw_bs hm
        refine hw_getP hx hb hw_cf11 hts hown hK hR e55 (by decide) rfl (hts _ hw_m16) (fun _ h9 => h9) dX11_fillRowCosts_55 ?_
        obtain ⟨v58, e58, hm⟩ := hw_bs hm
        refine hw_getI hx hb hw_cf8 hts hown hK hR e58 (by decide) rfl (hts _ hw_m751) (fun _ h9 => h9) dX11_fillRowCosts_58 ?_
        refine lv_iconst (v := 1) hx hb dX11_fillRowCosts_61 (by decide) ?_
        refine lv_isub hx hb dX11_fillRowCosts_62 ?_
        refine lv_icmp_ne (tgt := 78) hx hb dX11_fillRowCosts_63 (by decide) (fun c63 => ?_) (fun c63 => ?_)
        · have hm := hw_in hm c63
          refine hw_aload_n hx hb dX11_fillRowCosts_78 rfl (hl.at 0 rfl) ?_
          obtain ⟨v79, e79, hm⟩ := hw_bs hm
          refine hw_getP hx hb hw_cf11 hts hown hK hR e79 (by decide) rfl (hts _ hw_m36) (fun _ h9 => h9) dX11_fillRowCosts_79 ?_
          refine lv_iload_n hx hb dX11_fillRowCosts_82 rfl (hl.at 2 rfl) ?_
          obtain ⟨v83, e83, hm⟩ := hw_bs hm
          refine hw_aald (by decide) (by decide) hx hb hK hR e83 dX11_fillRowCosts_83 ?_
          refine lv_iload_n hx hb dX11_fillRowCosts_84 rfl (hl.at 3 rfl) ?_
          refine hw_aload_n hx hb dX11_fillRowCosts_85 rfl (hl.at 0 rfl) ?_
          obtain ⟨v86, e86, hm⟩ := hw_bs hm
          refine hw_getP hx hb hw_cf11 hts hown hK hR e86 (by decide) rfl (hts _ hw_m36) (fun _ h9 => h9) dX11_fillRowCosts_86 ?_
          refine lv_iload_n hx hb dX11_fillRowCosts_89 rfl (hl.at 2 rfl) ?_
          refine lv_iconst (v := 1) hx hb dX11_fillRowCosts_90 (by decide) ?_
          refine lv_iadd hx hb dX11_fillRowCosts_91 ?_
          obtain ⟨v92, e92, hm⟩ := hw_bs hm
          refine hw_aald (by decide) (by decide) hx hb hK hR e92 dX11_fillRowCosts_92 ?_
          refine lv_iload_n hx hb dX11_fillRowCosts_93 rfl (hl.at 3 rfl) ?_
          refine lv_iload_n hx hb dX11_fillRowCosts_94 rfl (hl.at 1 rfl) ?_
          obtain ⟨v95, e95, hm⟩ := hw_bs hm
          refine hw_cRI (va_runS (As := [hw_vr b v92, .int l3, .int l1]) (rest := [.int l3, hw_vr b v83]) ⟨hx, hb, hml, hown, hts⟩ (c11_cheapestGoingOn l D b e95) (cwS 3 hts (hw_gS hw_m766 hw_m767 hw_m2 hw_m768) rfl rfl rfl (by decide +kernel) ⟨(Nat.le_of_ble_eq_true rfl), (Nat.le_of_ble_eq_true rfl)⟩) (hw_pre1 hE hR) rfl rfl hl.sz rfl (lv_room (hw_sm (List.forall_mem_cons.mpr ⟨rfl, (List.forall_mem_cons.mpr ⟨(hw_vr_cat _ _), (fun _ h => absurd h List.not_mem_nil)⟩)⟩) (Nat.le_of_ble_eq_true rfl))) dX11_fillRowCosts_95 ⟨(Nat.le_of_ble_eq_true rfl), (Nat.le_of_ble_eq_true rfl)⟩) ?_
          obtain ⟨σ98, e98, hm⟩ := hw_bs hm
          refine hw_iast hx hb hK hR hS e98 dX11_fillRowCosts_98 (fun _ _ hR hS => ?_)
          exact w11_fillRowCosts_b99 C0 hk10 ih hm hR hS (hl.sub [0, 1, 2, 3] rfl)
        · have hm := hw_ip hm c63
          refine hw_aload_n hx hb dX11_fillRowCosts_66 rfl (hl.at 0 rfl) ?_
          obtain ⟨v67, e67, hm⟩ := hw_bs hm
          refine hw_getP hx hb hw_cf11 hts hown hK hR e67 (by decide) rfl (hts _ hw_m36) (fun _ h9 => h9) dX11_fillRowCosts_67 ?_
          refine lv_iload_n hx hb dX11_fillRowCosts_70 rfl (hl.at 2 rfl) ?_
          obtain ⟨v71, e71, hm⟩ := hw_bs hm
          refine hw_aald (by decide) (by decide) hx hb hK hR e71 dX11_fillRowCosts_71 ?_
          refine lv_iload_n hx hb dX11_fillRowCosts_72 rfl (hl.at 3 rfl) ?_
          refine lv_iconst (v := 0) hx hb dX11_fillRowCosts_73 (by decide) ?_
          obtain ⟨σ74, e74, hm⟩ := hw_bs hm
          refine hw_iast hx hb hK hR hS e74 dX11_fillRowCosts_74 (fun _ _ hR hS => ?_)
          refine lv_goto (tgt := 99) hx hb dX11_fillRowCosts_75 (by decide) ?_
          exact w11_fillRowCosts_b99 C0 hk10 ih hm hR hS (hl.sub [0, 1, 2, 3] rfl)
      · have hm := hw_in hm c37
        refine hw_aload_n hx hb dX11_fillRowCosts_40 rfl (hl.at 0 rfl) ?_
        obtain ⟨v41, e41, hm⟩ := hw_bs hm
        refine hw_getP hx hb hw_cf11 hts hown hK hR e41 (by decide) rfl (hts _ hw_m36) (fun _ h9 => h9) dX11_fillRowCosts_41 ?_
        refine lv_iload_n hx hb dX11_fillRowCosts_44 rfl (hl.at 2 rfl) ?_
        obtain ⟨v45, e45, hm⟩ := hw_bs hm
        refine hw_aald (by decide) (by decide) hx hb hK hR e45 dX11_fillRowCosts_45 ?_
        refine lv_iload_n hx hb dX11_fillRowCosts_46 rfl (hl.at 3 rfl) ?_
        refine lv_ldc (v := 1000000) hx hb hown (hts _ hw_m761) dX11_fillRowCosts_47 ?_
        obtain ⟨σ49, e49, hm⟩ := hw_bs hm
        refine hw_iast hx hb hK hR hS e49 dX11_fillRowCosts_49 (fun _ _ hR hS => ?_)
        refine lv_goto (tgt := 99) hx hb dX11_fillRowCosts_50 (by decide) ?_
        exact w11_fillRowCosts_b99 C0 hk10 ih hm hR hS (hl.sub [0, 1, 2, 3] rfl)
def m11_fillRowCosts_b10 : Nat → Nat → Int32 → Int32 → hw_S → Option hw_S
  | 0, _, _, _, _ => none
  | n + 1, x0, l1, l2, σ =>
  (if l2 < 0 then
  some σ
  else
  m11_fillRowCosts_b16 (m11_fillRowCosts_b10 n) hw_fu x0 l1 l2 (0 : Int32) σ)
set_option maxRecDepth 100000 in
theorem w11_fillRowCosts_b10 {p : Program} {l : Launch} {e : Env} {s : State} {m : MethodId} {args : Array Value} {below : List Frame} {meth : Method} {c : Code} {D : hw_D} {b : Nat} {τ : hw_S} (C0 : hw_C p s m args meth c D yX11_fillRowCosts cX11_fillRowCosts 4 none) : ∀ (n : Nat) {x0 : Nat} {l1 : Int32} {l2 : Int32} {σ : hw_S} {H : Heap} {locs : List Loc} {ls : Array Slot}, m11_fillRowCosts_b10 n x0 l1 l2 σ = some τ → hw_R D b σ H → va_S (fun q => b ≤ q) s.heap H locs → hw_L ls 4 255 [(0, hw_vr b (some x0)), (1, .int l1), (2, .int l2)] → W p l e rm11_fillRowCosts s m args below meth c H locs 0 0 (MQ below (hw_QV D b τ) args s 0 0 (fun q => b ≤ q)) (F0 m 10 ls []) := by
  obtain ⟨hx, hb, hml, hr, hown, hts, hlk, hE, hnm⟩ := id C0
  have hown : s.vm.findClass RX11 = some m.cls := hown
  have hK := hE.1
  intro n
  induction n with
  | zero => intro _ _ _ _ _ _ _ hm; cases hm
  | succ n ih =>
    intro x0 l1 l2 σ H locs ls hm hR hS hl
    rw [m11_fillRowCosts_b10] at hm
    refine lv_iload_n hx hb dX11_fillRowCosts_10 rfl (hl.at 2 rfl) ?_
    refine lv_if_lt (tgt := 111) hx hb dX11_fillRowCosts_11 (by decide) (fun c11 => ?_) (fun c11 => ?_)
    · have hm := hw_ip hm c11
      exact hw_rWV hx hb hr hlk hR hS hm dX11_fillRowCosts_111
    · have hm := hw_in hm c11
      refine lv_iconst (v := 0) hx hb dX11_fillRowCosts_14 (by decide) ?_
      refine hw_istore_n (lv' := [(3, .int (0 : Int32)), (0, hw_vr b (some x0)), (1, .int l1), (2, .int l2)]) hx hb dX11_fillRowCosts_15 rfl hl (by decide) (by decide) rfl (fun ls hl => ?_)
      exact w11_fillRowCosts_b16 C0 ih hw_fu hm hR hS (hl.sub [1, 2, 3, 0] rfl)
def m11_fillRowCosts (x0 : Nat) (l1 : Int32) (σ : hw_S) : Option hw_S :=
  (hw_gP (hw_q 11) 0 (some x0) σ).bind fun v1 =>
  (hw_gI (hw_q 8) 9 v1 σ).bind fun v4 =>
  m11_fillRowCosts_b10 hw_fu x0 l1 (v4 - (1 : Int32)) σ
set_option maxRecDepth 100000 in
theorem w11_fillRowCosts_s {p : Program} {l : Launch} {e : Env} {s : State} {m : MethodId} {args : Array Value} {below : List Frame} {meth : Method} {c : Code} {D : hw_D} {b : Nat} {x0 : Nat} {l1 : Int32} {σ : hw_S} {τ : hw_S} {H : Heap} {locs : List Loc} (hm : m11_fillRowCosts x0 l1 σ = some τ) (C0 : hw_C p s m args meth c D yX11_fillRowCosts cX11_fillRowCosts 4 none) (hR : hw_R D b σ H) (hS : va_S (fun q => b ≤ q) s.heap H locs) {ls : Array Slot} (hl : hw_L ls 4 255 [(0, hw_vr b (some x0)), (1, .int l1)]) : W p l e rm11_fillRowCosts s m args below meth c H locs 0 0 (MQ below (hw_QV D b τ) args s 0 0 (fun q => b ≤ q)) (F0 m 0 ls []) := by
  obtain ⟨hx, hb, hml, hr, hown, hts, hlk, hE, hnm⟩ := id C0
  have hown : s.vm.findClass RX11 = some m.cls := hown
  have hK := hE.1
  unfold m11_fillRowCosts at hm
  refine hw_aload_n hx hb dX11_fillRowCosts_0 rfl (hl.at 0 rfl) ?_
  obtain ⟨v1, e1, hm⟩ := hw_bs hm
  refine hw_getP hx hb hw_cf11 hts hown hK hR e1 (by decide) rfl (hts _ hw_m16) (fun _ h9 => h9) dX11_fillRowCosts_1 ?_
  obtain ⟨v4, e4, hm⟩ := hw_bs hm
  refine hw_getI hx hb hw_cf8 hts hown hK hR e4 (by decide) rfl (hts _ hw_m751) (fun _ h9 => h9) dX11_fillRowCosts_4 ?_
  refine lv_iconst (v := 1) hx hb dX11_fillRowCosts_7 (by decide) ?_
  refine lv_isub hx hb dX11_fillRowCosts_8 ?_
  refine hw_istore_n (lv' := [(2, .int (v4 - (1 : Int32))), (0, hw_vr b (some x0)), (1, .int l1)]) hx hb dX11_fillRowCosts_9 rfl hl (by decide) (by decide) rfl (fun ls hl => ?_)
  exact w11_fillRowCosts_b10 C0 hw_fu hm hR hS (hl.sub [1, 2, 0] rfl)
set_option maxRecDepth 100000 in
theorem c11_fillRowCosts (l : Launch) (D : hw_D) (b : Nat) {x0 : Nat} {l1 : Int32} {σ : hw_S} {τ : hw_S} (hm : m11_fillRowCosts x0 l1 σ = some τ) : Met l yX11_fillRowCosts (Cond.code yX11_fillRowCosts cX11_fillRowCosts 4 none :: wsL_law) rm11_fillRowCosts (hw_P1 D b σ [hw_vr b (some x0), .int l1]) (hw_QV D b τ) 0 0 (fun q => b ≤ q) := by
  refine hw_start1 (by decide +kernel) (by exact Nat.le_of_ble_eq_true rfl) ?_
  intro p e s m below meth c ls C0 hR hS hl
  have hl : lv_has ls 4 [(0, hw_vr b (some x0)), (1, .int l1)] := by exact hl
  exact w11_fillRowCosts_s hm C0 hR hS ⟨hl, (List.forall_mem_cons.mpr ⟨(fun h => by rw [show (hw_vr b (some x0) : Value).category = 1 from (hw_vr_cat _ _)] at h; cases h), (List.forall_mem_cons.mpr ⟨(fun h => absurd (show (1 : Nat) = 2 from h) (by decide)), (fun _ h => absurd h List.not_mem_nil)⟩)⟩)⟩

abbrev rm11_cheapestFirstPace : Room := { frames := 0, cells := 0, slots := 0, locals := 0 }
def m11_cheapestFirstPace_b31 (k4 : Nat → Int32 → Int32 → hw_S → Option Int32) (x0 : Nat) (l1 : Int32) (l2 : Int32) (σ : hw_S) : Option Int32 :=
  k4 x0 l1 (l2 + 1) σ
set_option maxRecDepth 100000 in
theorem w11_cheapestFirstPace_b31 {p : Program} {l : Launch} {e : Env} {s : State} {m : MethodId} {args : Array Value} {below : List Frame} {meth : Method} {c : Code} {D : hw_D} {b : Nat} {k4 : Nat → Int32 → Int32 → hw_S → Option Int32} {r : Int32} (C0 : hw_C p s m args meth c D yX11_cheapestFirstPace cX11_cheapestFirstPace 3 (some .int)) (hk4 : ∀ {x0 : Nat} {l1 : Int32} {l2 : Int32} {σ : hw_S} {ls : Array Slot}, k4 x0 l1 l2 σ = some r → hw_R D b σ s.heap → hw_L ls 3 255 [(0, hw_vr b (some x0)), (1, .int l1), (2, .int l2)] → W p l e rm11_cheapestFirstPace s m args below meth c s.heap [] 0 0 (MQ below (hw_RI r) args s 0 0 hw_nof) (F0 m 4 ls [])) {x0 : Nat} {l1 : Int32} {l2 : Int32} {σ : hw_S} (hm : m11_cheapestFirstPace_b31 k4 x0 l1 l2 σ = some r) (hR : hw_R D b σ s.heap) {ls : Array Slot} (hl : hw_L ls 3 255 [(0, hw_vr b (some x0)), (1, .int l1), (2, .int l2)]) : W p l e rm11_cheapestFirstPace s m args below meth c s.heap [] 0 0 (MQ below (hw_RI r) args s 0 0 hw_nof) (F0 m 31 ls []) := by
  obtain ⟨hx, hb, hml, hr, hown, hts, hlk, hE, hnm⟩ := id C0
  have hown : s.vm.findClass RX11 = some m.cls := hown
  have hK := hE.1
  unfold m11_cheapestFirstPace_b31 at hm
  refine hw_iinc (v := (l2 + 1)) (lv' := [(2, .int (l2 + 1)), (0, hw_vr b (some x0)), (1, .int l1)]) hx hb dX11_cheapestFirstPace_31 hl (k := 2) rfl rfl (by decide) (by decide) rfl (fun ls hl => ?_)
  refine lv_goto (tgt := 4) hx hb dX11_cheapestFirstPace_34 (by decide) ?_
  exact hk4 hm hR (hl.sub [1, 2, 0] rfl)
def m11_cheapestFirstPace_b4 : Nat → Nat → Int32 → Int32 → hw_S → Option Int32
  | 0, _, _, _, _ => none
  | n + 1, x0, l1, l2, σ =>
  (if (100 : Int32) ≤ l2 then
  some l1
  else
  (hw_gP (hw_q 11) 12 (some x0) σ).bind fun v11 =>
  (hw_aP 4 v11 (0 : Int32) σ).bind fun v15 =>
  (hw_aI 0 v15 l2 σ).bind fun v17 =>
  (hw_gP (hw_q 11) 12 (some x0) σ).bind fun v19 =>
  (hw_aP 4 v19 (0 : Int32) σ).bind fun v23 =>
  (hw_aI 0 v23 l1 σ).bind fun v25 =>
  (if v25 ≤ v17 then
  m11_cheapestFirstPace_b31 (m11_cheapestFirstPace_b4 n) x0 l1 l2 σ
  else
  m11_cheapestFirstPace_b31 (m11_cheapestFirstPace_b4 n) x0 l2 l2 σ))
set_option maxRecDepth 100000 in
theorem w11_cheapestFirstPace_b4 {p : Program} {l : Launch} {e : Env} {s : State} {m : MethodId} {args : Array Value} {below : List Frame} {meth : Method} {c : Code} {D : hw_D} {b : Nat} {r : Int32} (C0 : hw_C p s m args meth c D yX11_cheapestFirstPace cX11_cheapestFirstPace 3 (some .int)) : ∀ (n : Nat) {x0 : Nat} {l1 : Int32} {l2 : Int32} {σ : hw_S} {ls : Array Slot}, m11_cheapestFirstPace_b4 n x0 l1 l2 σ = some r → hw_R D b σ s.heap → hw_L ls 3 255 [(0, hw_vr b (some x0)), (1, .int l1), (2, .int l2)] → W p l e rm11_cheapestFirstPace s m args below meth c s.heap [] 0 0 (MQ below (hw_RI r) args s 0 0 hw_nof) (F0 m 4 ls []) := by
  obtain ⟨hx, hb, hml, hr, hown, hts, hlk, hE, hnm⟩ := id C0
  have hown : s.vm.findClass RX11 = some m.cls := hown
  have hK := hE.1
  intro n
  induction n with
  | zero => intro _ _ _ _ _ hm; cases hm
  | succ n ih =>
    intro x0 l1 l2 σ ls hm hR hl
    rw [m11_cheapestFirstPace_b4] at hm
    refine lv_iload_n hx hb dX11_cheapestFirstPace_4 rfl (hl.at 2 rfl) ?_
    refine lv_bipush (v := 100) hx hb dX11_cheapestFirstPace_5 (by decide) ?_
    refine lv_icmp_ge (tgt := 37) hx hb dX11_cheapestFirstPace_7 (by decide) (fun c7 => ?_) (fun c7 => ?_)
    · have hm := hw_ip hm c7
      refine lv_iload_n hx hb dX11_cheapestFirstPace_37 rfl (hl.at 1 rfl) ?_
      exact hw_rRI hx hb hr hlk hm dX11_cheapestFirstPace_38
    · have hm := hw_in hm c7
      refine hw_aload_n hx hb dX11_cheapestFirstPace_10 rfl (hl.at 0 rfl) ?_
      obtain ⟨v11, e11, hm⟩ := hw_bs hm
      refine hw_getP hx hb hw_cf11 hts hown hK hR e11 (by decide) rfl (hts _ hw_m36) (fun _ h9 => h9) dX11_cheapestFirstPace_11 ?_
      refine lv_iconst (v := 0) hx hb dX11_cheapestFirstPace_14 (by decide) ?_
      obtain ⟨v15, e15, hm⟩ := hw_bs hm
      refine hw_aald (by decide) (by decide) hx hb hK hR e15 dX11_cheapestFirstPace_15 ?_
      refine lv_iload_n hx hb dX11_cheapestFirstPace_16 rfl (hl.at 2 rfl) ?_
      obtain ⟨v17, e17, hm⟩ := hw_bs hm
      refine hw_iald hx hb hK hR e17 dX11_cheapestFirstPace_17 ?_
      refine hw_aload_n hx hb dX11_cheapestFirstPace_18 rfl (hl.at 0 rfl) ?_
      obtain ⟨v19, e19, hm⟩ := hw_bs hm
      refine hw_getP hx hb hw_cf11 hts hown hK hR e19 (by decide) rfl (hts _ hw_m36) (fun _ h9 => h9) dX11_cheapestFirstPace_19 ?_
      refine lv_iconst (v := 0) hx hb dX11_cheapestFirstPace_22 (by decide) ?_
      obtain ⟨v23, e23, hm⟩ := hw_bs hm
      refine hw_aald (by decide) (by decide) hx hb hK hR e23 dX11_cheapestFirstPace_23 ?_
      refine lv_iload_n hx hb dX11_cheapestFirstPace_24 rfl (hl.at 1 rfl) ?_
      obtain ⟨v25, e25, hm⟩ := hw_bs hm
      refine hw_iald hx hb hK hR e25 dX11_cheapestFirstPace_25 ?_
      refine lv_icmp_ge (tgt := 31) hx hb dX11_cheapestFirstPace_26 (by decide) (fun c26 => ?_) (fun c26 => ?_)
      · have hm := hw_ip hm c26
        exact w11_cheapestFirstPace_b31 C0 ih hm hR (hl.sub [0, 1, 2] rfl)
      · have hm := hw_in hm c26
        refine lv_iload_n hx hb dX11_cheapestFirstPace_29 rfl (hl.at 2 rfl) ?_
        refine hw_istore_n (lv' := [(1, .int l2), (0, hw_vr b (some x0)), (2, .int l2)]) hx hb dX11_cheapestFirstPace_30 rfl hl (by decide) (by decide) rfl (fun ls hl => ?_)
        exact w11_cheapestFirstPace_b31 C0 ih hm hR (hl.sub [1, 0, 2] rfl)
def m11_cheapestFirstPace (x0 : Nat) (σ : hw_S) : Option Int32 :=
  m11_cheapestFirstPace_b4 hw_fu x0 (0 : Int32) (1 : Int32) σ
set_option maxRecDepth 100000 in
theorem w11_cheapestFirstPace_s {p : Program} {l : Launch} {e : Env} {s : State} {m : MethodId} {args : Array Value} {below : List Frame} {meth : Method} {c : Code} {D : hw_D} {b : Nat} {x0 : Nat} {σ : hw_S} {r : Int32} (hm : m11_cheapestFirstPace x0 σ = some r) (C0 : hw_C p s m args meth c D yX11_cheapestFirstPace cX11_cheapestFirstPace 3 (some .int)) (hR : hw_R D b σ s.heap) {ls : Array Slot} (hl : hw_L ls 3 255 [(0, hw_vr b (some x0))]) : W p l e rm11_cheapestFirstPace s m args below meth c s.heap [] 0 0 (MQ below (hw_RI r) args s 0 0 hw_nof) (F0 m 0 ls []) := by
  obtain ⟨hx, hb, hml, hr, hown, hts, hlk, hE, hnm⟩ := id C0
  have hown : s.vm.findClass RX11 = some m.cls := hown
  have hK := hE.1
  unfold m11_cheapestFirstPace at hm
  refine lv_iconst (v := 0) hx hb dX11_cheapestFirstPace_0 (by decide) ?_
  refine hw_istore_n (lv' := [(1, .int (0 : Int32)), (0, hw_vr b (some x0))]) hx hb dX11_cheapestFirstPace_1 rfl hl (by decide) (by decide) rfl (fun ls hl => ?_)
  refine lv_iconst (v := 1) hx hb dX11_cheapestFirstPace_2 (by decide) ?_
  refine hw_istore_n (lv' := [(2, .int (1 : Int32)), (1, .int (0 : Int32)), (0, hw_vr b (some x0))]) hx hb dX11_cheapestFirstPace_3 rfl hl (by decide) (by decide) rfl (fun ls hl => ?_)
  exact w11_cheapestFirstPace_b4 C0 hw_fu hm hR (hl.sub [2, 1, 0] rfl)
set_option maxRecDepth 100000 in
theorem c11_cheapestFirstPace (l : Launch) (D : hw_D) (b : Nat) {x0 : Nat} {σ : hw_S} {r : Int32} (hm : m11_cheapestFirstPace x0 σ = some r) : Met l yX11_cheapestFirstPace (Cond.code yX11_cheapestFirstPace cX11_cheapestFirstPace 3 (some .int) :: wsL_law) rm11_cheapestFirstPace (hw_P1 D b σ [hw_vr b (some x0)]) (hw_RI r) 0 0 hw_nof := by
  refine hw_start1 (by decide +kernel) (by exact Nat.le_of_ble_eq_true rfl) ?_
  intro p e s m below meth c ls C0 hR hS hl
  have hl : lv_has ls 3 [(0, hw_vr b (some x0))] := by exact hl
  exact w11_cheapestFirstPace_s hm C0 hR ⟨hl, (List.forall_mem_cons.mpr ⟨(fun h => by rw [show (hw_vr b (some x0) : Value).category = 1 from (hw_vr_cat _ _)] at h; cases h), (fun _ h => absurd h List.not_mem_nil)⟩)⟩

abbrev rm11_firstGoingOn : Room := { frames := 1, cells := 0, slots := 0, locals := 21 }
def m11_firstGoingOn_b19 : Nat → Option Nat → Int32 → Int32 → Int32 → Int32 → hw_S → Option Int32
  | 0, _, _, _, _, _, _ => none
  | n + 1, l0, l1, l3, l4, l5, σ =>
  (if l4 < l5 then
  some l1
  else
  (hw_aI 0 l0 l5 σ).bind fun v36 =>
  (if ((hw_abs (l1 - l5)) + v36) = l3 then
  some l5
  else
  m11_firstGoingOn_b19 n l0 l1 l3 l4 (l5 + 1) σ))
set_option maxRecDepth 100000 in
theorem w11_firstGoingOn_b19 {p : Program} {l : Launch} {e : Env} {s : State} {m : MethodId} {args : Array Value} {below : List Frame} {meth : Method} {c : Code} {D : hw_D} {b : Nat} {r : Int32} (C0 : hw_C p s m args meth c D yX11_firstGoingOn cX11_firstGoingOn 6 (some .int)) : ∀ (n : Nat) {l0 : Option Nat} {l1 : Int32} {l3 : Int32} {l4 : Int32} {l5 : Int32} {σ : hw_S} {ls : Array Slot}, m11_firstGoingOn_b19 n l0 l1 l3 l4 l5 σ = some r → hw_R D b σ s.heap → hw_L ls 6 255 [(0, hw_vr b l0), (1, .int l1), (3, .int l3), (4, .int l4), (5, .int l5)] → W p l e rm11_firstGoingOn s m args below meth c s.heap [] 0 0 (MQ below (hw_RI r) args s 0 0 hw_nof) (F0 m 19 ls []) := by
  obtain ⟨hx, hb, hml, hr, hown, hts, hlk, hE, hnm⟩ := id C0
  have hown : s.vm.findClass RX11 = some m.cls := hown
  have hK := hE.1
  intro n
  induction n with
  | zero => intro _ _ _ _ _ _ _ hm; cases hm
  | succ n ih =>
    intro l0 l1 l3 l4 l5 σ ls hm hR hl
    rw [m11_firstGoingOn_b19] at hm
    refine lv_iload hx hb dX11_firstGoingOn_19 (hl.at 4 rfl) ?_
    refine lv_iload hx hb dX11_firstGoingOn_21 (hl.at 3 rfl) ?_
    refine lv_icmp_gt (tgt := 51) hx hb dX11_firstGoingOn_23 (by decide) (fun c23 => ?_) (fun c23 => ?_)
    · have hm := hw_ip hm c23
      refine lv_iload_n hx hb dX11_firstGoingOn_51 rfl (hl.at 1 rfl) ?_
      exact hw_rRI hx hb hr hlk hm dX11_firstGoingOn_52
    · have hm := hw_in hm c23
      refine lv_iload_n hx hb dX11_firstGoingOn_26 rfl (hl.at 1 rfl) ?_
      refine lv_iload hx hb dX11_firstGoingOn_27 (hl.at 4 rfl) ?_
      refine lv_isub hx hb dX11_firstGoingOn_29 ?_
      refine hw_mabs hx hb hml hl hown (hts _ hw_m710) (hts _ hw_m711) (hts _ hw_m157) (hts _ hw_m712) (Nat.le_of_ble_eq_true rfl) ⟨Nat.le_of_ble_eq_true rfl, (Nat.le_of_ble_eq_true rfl)⟩ (Nat.le_of_ble_eq_true rfl) (Nat.le_of_ble_eq_true rfl) dX11_firstGoingOn_30 ?_
      refine hw_aload_n hx hb dX11_firstGoingOn_33 rfl (hl.at 0 rfl) ?_
      refine lv_iload hx hb dX11_firstGoingOn_34 (hl.at 4 rfl) ?_
      obtain ⟨v36, e36, hm⟩ := hw_bs hm
      refine hw_iald hx hb hK hR e36 dX11_firstGoingOn_36 ?_
      refine lv_iadd hx hb dX11_firstGoingOn_37 ?_
      refine lv_iload_n hx hb dX11_firstGoingOn_38 rfl (hl.at 2 rfl) ?_
      refine lv_icmp_ne (tgt := 45) hx hb dX11_firstGoingOn_39 (by decide) (fun c39 => ?_) (fun c39 => ?_)
      · have hm := hw_in hm c39
        refine hw_iinc (v := (l5 + 1)) (lv' := [(5, .int (l5 + 1)), (0, hw_vr b l0), (1, .int l1), (3, .int l3), (4, .int l4)]) hx hb dX11_firstGoingOn_45 hl (k := 4) rfl rfl (by decide) (by decide) rfl (fun ls hl => ?_)
        refine lv_goto (tgt := 19) hx hb dX11_firstGoingOn_48 (by decide) ?_
        exact ih hm hR (hl.sub [1, 2, 3, 4, 0] rfl)
      · have hm := hw_ip hm c39
        refine lv_iload hx hb dX11_firstGoingOn_42 (hl.at 4 rfl) ?_
        exact hw_rRI hx hb hr hlk hm dX11_firstGoingOn_44
def m11_firstGoingOn (l0 : Option Nat) (l1 : Int32) (l2 : Int32) (l3 : Int32) (σ : hw_S) : Option Int32 :=
  m11_firstGoingOn_b19 hw_fu l0 l1 l3 (hw_min (99 : Int32) (l1 + l2)) (hw_max (0 : Int32) (l1 - l2)) σ
set_option maxRecDepth 100000 in
theorem w11_firstGoingOn_s {p : Program} {l : Launch} {e : Env} {s : State} {m : MethodId} {args : Array Value} {below : List Frame} {meth : Method} {c : Code} {D : hw_D} {b : Nat} {l0 : Option Nat} {l1 : Int32} {l2 : Int32} {l3 : Int32} {σ : hw_S} {r : Int32} (hm : m11_firstGoingOn l0 l1 l2 l3 σ = some r) (C0 : hw_C p s m args meth c D yX11_firstGoingOn cX11_firstGoingOn 6 (some .int)) (hR : hw_R D b σ s.heap) {ls : Array Slot} (hl : hw_L ls 6 255 [(0, hw_vr b l0), (1, .int l1), (2, .int l2), (3, .int l3)]) : W p l e rm11_firstGoingOn s m args below meth c s.heap [] 0 0 (MQ below (hw_RI r) args s 0 0 hw_nof) (F0 m 0 ls []) := by
  obtain ⟨hx, hb, hml, hr, hown, hts, hlk, hE, hnm⟩ := id C0
  have hown : s.vm.findClass RX11 = some m.cls := hown
  have hK := hE.1
  unfold m11_firstGoingOn at hm
  refine lv_bipush (v := 99) hx hb dX11_firstGoingOn_0 (by decide) ?_
  refine lv_iload_n hx hb dX11_firstGoingOn_2 rfl (hl.at 1 rfl) ?_
  refine lv_iload_n hx hb dX11_firstGoingOn_3 rfl (hl.at 2 rfl) ?_
  refine lv_iadd hx hb dX11_firstGoingOn_4 ?_
  refine hw_mmin hx hb hml hl hown (hts _ hw_m769) (hts _ hw_m156) (hts _ hw_m157) (hts _ hw_m158) (Nat.le_of_ble_eq_true rfl) ⟨Nat.le_of_ble_eq_true rfl, (Nat.le_of_ble_eq_true rfl)⟩ (Nat.le_of_ble_eq_true rfl) (Nat.le_of_ble_eq_true rfl) dX11_firstGoingOn_5 ?_
  refine hw_istore (lv' := [(4, .int (hw_min (99 : Int32) (l1 + l2))), (0, hw_vr b l0), (1, .int l1), (2, .int l2), (3, .int l3)]) hx hb dX11_firstGoingOn_8 hl (by decide) (by decide) rfl (fun ls hl => ?_)
  refine lv_iconst (v := 0) hx hb dX11_firstGoingOn_10 (by decide) ?_
  refine lv_iload_n hx hb dX11_firstGoingOn_11 rfl (hl.at 2 rfl) ?_
  refine lv_iload_n hx hb dX11_firstGoingOn_12 rfl (hl.at 3 rfl) ?_
  refine lv_isub hx hb dX11_firstGoingOn_13 ?_
  refine hw_mmax hx hb hml hl hown (hts _ hw_m781) (hts _ hw_m463) (hts _ hw_m157) (hts _ hw_m464) (Nat.le_of_ble_eq_true rfl) ⟨Nat.le_of_ble_eq_true rfl, (Nat.le_of_ble_eq_true rfl)⟩ (Nat.le_of_ble_eq_true rfl) (Nat.le_of_ble_eq_true rfl) dX11_firstGoingOn_14 ?_
  refine hw_istore (lv' := [(5, .int (hw_max (0 : Int32) (l1 - l2))), (4, .int (hw_min (99 : Int32) (l1 + l2))), (0, hw_vr b l0), (1, .int l1), (2, .int l2), (3, .int l3)]) hx hb dX11_firstGoingOn_17 hl (by decide) (by decide) rfl (fun ls hl => ?_)
  exact w11_firstGoingOn_b19 C0 hw_fu hm hR (hl.sub [2, 3, 5, 1, 0] rfl)
set_option maxRecDepth 100000 in
theorem c11_firstGoingOn (l : Launch) (D : hw_D) (b : Nat) {l0 : Option Nat} {l1 : Int32} {l2 : Int32} {l3 : Int32} {σ : hw_S} {r : Int32} (hm : m11_firstGoingOn l0 l1 l2 l3 σ = some r) : Met l yX11_firstGoingOn (Cond.code yX11_firstGoingOn cX11_firstGoingOn 6 (some .int) :: wsL_law) rm11_firstGoingOn (hw_P1 D b σ [hw_vr b l0, .int l1, .int l2, .int l3]) (hw_RI r) 0 0 hw_nof := by
  refine hw_start1 (by decide +kernel) (by cases l0 <;> exact Nat.le_of_ble_eq_true rfl) ?_
  intro p e s m below meth c ls C0 hR hS hl
  have hl : lv_has ls 6 [(0, hw_vr b l0), (1, .int l1), (2, .int l2), (3, .int l3)] := by cases l0 <;> exact hl
  exact w11_firstGoingOn_s hm C0 hR ⟨hl, (List.forall_mem_cons.mpr ⟨(fun h => by rw [show (hw_vr b l0 : Value).category = 1 from (hw_vr_cat _ _)] at h; cases h), (List.forall_mem_cons.mpr ⟨(fun h => absurd (show (1 : Nat) = 2 from h) (by decide)), (List.forall_mem_cons.mpr ⟨(fun h => absurd (show (1 : Nat) = 2 from h) (by decide)), (List.forall_mem_cons.mpr ⟨(fun h => absurd (show (1 : Nat) = 2 from h) (by decide)), (fun _ h => absurd h List.not_mem_nil)⟩)⟩)⟩)⟩)⟩

abbrev rm11_paceInRow : Room := { frames := 2, cells := 0, slots := 0, locals := 46 }
def m11_paceInRow_b6 : Nat → Nat → Int32 → Int32 → Int32 → Int32 → hw_S → Option Int32
  | 0, _, _, _, _, _, _ => none
  | n + 1, x0, l2, l3, l4, l5, σ =>
  (if l3 ≤ l5 then
  some l4
  else
  (hw_gP (hw_q 11) 12 (some x0) σ).bind fun v13 =>
  (hw_aP 4 v13 (l5 + (1 : Int32)) σ).bind fun v20 =>
  (hw_gP (hw_q 11) 12 (some x0) σ).bind fun v25 =>
  (hw_aP 4 v25 l5 σ).bind fun v30 =>
  (hw_aI 0 v30 l4 σ).bind fun v33 =>
  (m11_firstGoingOn v20 l4 l2 v33 σ).bind fun v34 =>
  m11_paceInRow_b6 n x0 l2 l3 v34 (l5 + 1) σ)
set_option maxRecDepth 100000 in
theorem w11_paceInRow_b6 {p : Program} {l : Launch} {e : Env} {s : State} {m : MethodId} {args : Array Value} {below : List Frame} {meth : Method} {c : Code} {D : hw_D} {b : Nat} {r : Int32} (C0 : hw_C p s m args meth c D yX11_paceInRow cX11_paceInRow 6 (some .int)) : ∀ (n : Nat) {x0 : Nat} {l2 : Int32} {l3 : Int32} {l4 : Int32} {l5 : Int32} {σ : hw_S} {ls : Array Slot}, m11_paceInRow_b6 n x0 l2 l3 l4 l5 σ = some r → hw_R D b σ s.heap → hw_L ls 6 255 [(0, hw_vr b (some x0)), (2, .int l2), (3, .int l3), (4, .int l4), (5, .int l5)] → W p l e rm11_paceInRow s m args below meth c s.heap [] 0 0 (MQ below (hw_RI r) args s 0 0 hw_nof) (F0 m 6 ls []) := by
  obtain ⟨hx, hb, hml, hr, hown, hts, hlk, hE, hnm⟩ := id C0
  have hown : s.vm.findClass RX11 = some m.cls := hown
  have hK := hE.1
  intro n
  induction n with
  | zero => intro _ _ _ _ _ _ _ hm; cases hm
  | succ n ih =>
    intro x0 l2 l3 l4 l5 σ ls hm hR hl
    rw [m11_paceInRow_b6] at hm
    refine lv_iload hx hb dX11_paceInRow_6 (hl.at 4 rfl) ?_
    refine lv_iload_n hx hb dX11_paceInRow_8 rfl (hl.at 2 rfl) ?_
    refine lv_icmp_ge (tgt := 45) hx hb dX11_paceInRow_9 (by decide) (fun c9 => ?_) (fun c9 => ?_)
    · have hm := hw_ip hm c9
      refine lv_iload hx hb dX11_paceInRow_45 (hl.at 3 rfl) ?_
      exact hw_rRI hx hb hr hlk hm dX11_paceInRow_47
    · have hm := hw_in hm c9
      refine hw_aload_n hx hb dX11_paceInRow_12 rfl (hl.at 0 rfl) ?_
      obtain ⟨v13, e13, hm⟩ := hw_bs hm
      refine hw_getP hx hb hw_cf11 hts hown hK hR e13 (by decide) rfl (hts _ hw_m36) (fun _ h9 => h9) dX11_paceInRow_13 ?_
      refine lv_iload hx hb dX11_paceInRow_16 (hl.at 4 rfl) ?_
      refine lv_iconst (v := 1) hx hb dX11_paceInRow_18 (by decide) ?_
      refine lv_iadd hx hb dX11_paceInRow_19 ?_
      obtain ⟨v20, e20, hm⟩ := hw_bs hm
      refine hw_aald (by decide) (by decide) hx hb hK hR e20 dX11_paceInRow_20 ?_
      refine lv_iload hx hb dX11_paceInRow_21 (hl.at 3 rfl) ?_
      refine lv_iload_n hx hb dX11_paceInRow_23 rfl (hl.at 1 rfl) ?_
      refine hw_aload_n hx hb dX11_paceInRow_24 rfl (hl.at 0 rfl) ?_
      obtain ⟨v25, e25, hm⟩ := hw_bs hm
      refine hw_getP hx hb hw_cf11 hts hown hK hR e25 (by decide) rfl (hts _ hw_m36) (fun _ h9 => h9) dX11_paceInRow_25 ?_
      refine lv_iload hx hb dX11_paceInRow_28 (hl.at 4 rfl) ?_
      obtain ⟨v30, e30, hm⟩ := hw_bs hm
      refine hw_aald (by decide) (by decide) hx hb hK hR e30 dX11_paceInRow_30 ?_
      refine lv_iload hx hb dX11_paceInRow_31 (hl.at 3 rfl) ?_
      obtain ⟨v33, e33, hm⟩ := hw_bs hm
      refine hw_iald hx hb hK hR e33 dX11_paceInRow_33 ?_
      obtain ⟨v34, e34, hm⟩ := hw_bs hm
      refine hw_cRI (va_runS (As := [hw_vr b v20, .int l4, .int l2, .int v33]) (rest := []) ⟨hx, hb, hml, hown, hts⟩ (c11_firstGoingOn l D b e34) (cwS 4 hts (hw_gS hw_m778 hw_m779 hw_m2 hw_m780) rfl rfl rfl (by decide +kernel) ⟨(Nat.le_of_ble_eq_true rfl), (Nat.le_of_ble_eq_true rfl)⟩) (hw_pre1 hE hR) rfl rfl hl.sz rfl (lv_room (Nat.le_of_ble_eq_true rfl)) dX11_paceInRow_34 ⟨(Nat.le_of_ble_eq_true rfl), (Nat.le_of_ble_eq_true rfl)⟩) ?_
      refine hw_istore (lv' := [(4, .int v34), (0, hw_vr b (some x0)), (2, .int l2), (3, .int l3), (5, .int l5)]) hx hb dX11_paceInRow_37 hl (by decide) (by decide) rfl (fun ls hl => ?_)
      refine hw_iinc (v := (l5 + 1)) (lv' := [(5, .int (l5 + 1)), (4, .int v34), (0, hw_vr b (some x0)), (2, .int l2), (3, .int l3)]) hx hb dX11_paceInRow_39 hl (k := 4) rfl rfl (by decide) (by decide) rfl (fun ls hl => ?_)
      refine lv_goto (tgt := 6) hx hb dX11_paceInRow_42 (by decide) ?_
      exact ih hm hR (hl.sub [2, 3, 4, 1, 0] rfl)
def m11_paceInRow (x0 : Nat) (l1 : Int32) (l2 : Int32) (l3 : Int32) (σ : hw_S) : Option Int32 :=
  m11_paceInRow_b6 hw_fu x0 l2 l3 l1 (0 : Int32) σ
set_option maxRecDepth 100000 in
theorem w11_paceInRow_s {p : Program} {l : Launch} {e : Env} {s : State} {m : MethodId} {args : Array Value} {below : List Frame} {meth : Method} {c : Code} {D : hw_D} {b : Nat} {x0 : Nat} {l1 : Int32} {l2 : Int32} {l3 : Int32} {σ : hw_S} {r : Int32} (hm : m11_paceInRow x0 l1 l2 l3 σ = some r) (C0 : hw_C p s m args meth c D yX11_paceInRow cX11_paceInRow 6 (some .int)) (hR : hw_R D b σ s.heap) {ls : Array Slot} (hl : hw_L ls 6 255 [(0, hw_vr b (some x0)), (1, .int l1), (2, .int l2), (3, .int l3)]) : W p l e rm11_paceInRow s m args below meth c s.heap [] 0 0 (MQ below (hw_RI r) args s 0 0 hw_nof) (F0 m 0 ls []) := by
  obtain ⟨hx, hb, hml, hr, hown, hts, hlk, hE, hnm⟩ := id C0
  have hown : s.vm.findClass RX11 = some m.cls := hown
  have hK := hE.1
  unfold m11_paceInRow at hm
  refine lv_iload_n hx hb dX11_paceInRow_0 rfl (hl.at 1 rfl) ?_
  refine hw_istore (lv' := [(4, .int l1), (0, hw_vr b (some x0)), (1, .int l1), (2, .int l2), (3, .int l3)]) hx hb dX11_paceInRow_1 hl (by decide) (by decide) rfl (fun ls hl => ?_)
  refine lv_iconst (v := 0) hx hb dX11_paceInRow_3 (by decide) ?_
  refine hw_istore (lv' := [(5, .int (0 : Int32)), (4, .int l1), (0, hw_vr b (some x0)), (1, .int l1), (2, .int l2), (3, .int l3)]) hx hb dX11_paceInRow_4 hl (by decide) (by decide) rfl (fun ls hl => ?_)
  exact w11_paceInRow_b6 C0 hw_fu hm hR (hl.sub [2, 4, 5, 1, 0] rfl)
set_option maxRecDepth 100000 in
theorem c11_paceInRow (l : Launch) (D : hw_D) (b : Nat) {x0 : Nat} {l1 : Int32} {l2 : Int32} {l3 : Int32} {σ : hw_S} {r : Int32} (hm : m11_paceInRow x0 l1 l2 l3 σ = some r) : Met l yX11_paceInRow (Cond.code yX11_paceInRow cX11_paceInRow 6 (some .int) :: wsL_law) rm11_paceInRow (hw_P1 D b σ [hw_vr b (some x0), .int l1, .int l2, .int l3]) (hw_RI r) 0 0 hw_nof := by
  refine hw_start1 (by decide +kernel) (by exact Nat.le_of_ble_eq_true rfl) ?_
  intro p e s m below meth c ls C0 hR hS hl
  have hl : lv_has ls 6 [(0, hw_vr b (some x0)), (1, .int l1), (2, .int l2), (3, .int l3)] := by exact hl
  exact w11_paceInRow_s hm C0 hR ⟨hl, (List.forall_mem_cons.mpr ⟨(fun h => by rw [show (hw_vr b (some x0) : Value).category = 1 from (hw_vr_cat _ _)] at h; cases h), (List.forall_mem_cons.mpr ⟨(fun h => absurd (show (1 : Nat) = 2 from h) (by decide)), (List.forall_mem_cons.mpr ⟨(fun h => absurd (show (1 : Nat) = 2 from h) (by decide)), (List.forall_mem_cons.mpr ⟨(fun h => absurd (show (1 : Nat) = 2 from h) (by decide)), (fun _ h => absurd h List.not_mem_nil)⟩)⟩)⟩)⟩)⟩

abbrev rm11_found : Room := { frames := 6, cells := 0, slots := 0, locals := 143 }
def m11_found_b42 (x0 : Nat) (σ : hw_S) : Option (Int32 × hw_S) :=
  some (((-1) : Int32), σ)
set_option maxRecDepth 100000 in
theorem w11_found_b42 {p : Program} {l : Launch} {e : Env} {s : State} {m : MethodId} {args : Array Value} {below : List Frame} {meth : Method} {c : Code} {D : hw_D} {b : Nat} {r : Int32} {τ : hw_S} (C0 : hw_C p s m args meth c D yX11_found cX11_found 9 (some .int)) {x0 : Nat} {σ : hw_S} {H : Heap} {locs : List Loc} (hm : m11_found_b42 x0 σ = some (r, τ)) (hR : hw_R D b σ H) (hS : va_S (fun q => b ≤ q) s.heap H locs) {ls : Array Slot} (hl : hw_L ls 9 255 [(0, hw_vr b (some x0))]) : W p l e rm11_found s m args below meth c H locs 0 0 (MQ below (hw_QI D b τ r) args s 0 0 (fun q => b ≤ q)) (F0 m 42 ls []) := by
  obtain ⟨hx, hb, hml, hr, hown, hts, hlk, hE, hnm⟩ := id C0
  have hown : s.vm.findClass RX11 = some m.cls := hown
  have hK := hE.1
  unfold m11_found_b42 at hm
  refine lv_iconst (v := (-1)) hx hb dX11_found_42 (by decide) ?_
  exact hw_rWI hx hb hr hlk hR hS hm dX11_found_43
def m11_found_b62 (x0 : Nat) (σ : hw_S) : Option (Int32 × hw_S) :=
  some (((-2) : Int32), σ)
set_option maxRecDepth 100000 in
theorem w11_found_b62 {p : Program} {l : Launch} {e : Env} {s : State} {m : MethodId} {args : Array Value} {below : List Frame} {meth : Method} {c : Code} {D : hw_D} {b : Nat} {r : Int32} {τ : hw_S} (C0 : hw_C p s m args meth c D yX11_found cX11_found 9 (some .int)) {x0 : Nat} {σ : hw_S} {H : Heap} {locs : List Loc} (hm : m11_found_b62 x0 σ = some (r, τ)) (hR : hw_R D b σ H) (hS : va_S (fun q => b ≤ q) s.heap H locs) {ls : Array Slot} (hl : hw_L ls 9 255 [(0, hw_vr b (some x0))]) : W p l e rm11_found s m args below meth c H locs 0 0 (MQ below (hw_QI D b τ r) args s 0 0 (fun q => b ≤ q)) (F0 m 62 ls []) := by
  obtain ⟨hx, hb, hml, hr, hown, hts, hlk, hE, hnm⟩ := id C0
  have hown : s.vm.findClass RX11 = some m.cls := hown
  have hK := hE.1
  unfold m11_found_b62 at hm
  refine lv_bipush (v := (-2)) hx hb dX11_found_62 (by decide) ?_
  exact hw_rWI hx hb hr hlk hR hS hm dX11_found_64
def m11_found_b180 (x0 : Nat) (t0 : Int32) (σ : hw_S) : Option (Int32 × hw_S) :=
  some (t0, σ)
set_option maxRecDepth 100000 in
theorem w11_found_b180 {p : Program} {l : Launch} {e : Env} {s : State} {m : MethodId} {args : Array Value} {below : List Frame} {meth : Method} {c : Code} {D : hw_D} {b : Nat} {r : Int32} {τ : hw_S} (C0 : hw_C p s m args meth c D yX11_found cX11_found 9 (some .int)) {x0 : Nat} {t0 : Int32} {σ : hw_S} {H : Heap} {locs : List Loc} (hm : m11_found_b180 x0 t0 σ = some (r, τ)) (hR : hw_R D b σ H) (hS : va_S (fun q => b ≤ q) s.heap H locs) {ls : Array Slot} (hl : hw_L ls 9 255 [(0, hw_vr b (some x0))]) : W p l e rm11_found s m args below meth c H locs 0 0 (MQ below (hw_QI D b τ r) args s 0 0 (fun q => b ≤ q)) (F0 m 180 ls [.int t0]) := by
  obtain ⟨hx, hb, hml, hr, hown, hts, hlk, hE, hnm⟩ := id C0
  have hown : s.vm.findClass RX11 = some m.cls := hown
  have hK := hE.1
  unfold m11_found_b180 at hm
  exact hw_rWI hx hb hr hlk hR hS hm dX11_found_180
def m11_found_b89 : Nat → Nat → Int32 → Int32 → Option Nat → Int32 → hw_S → Option (Int32 × hw_S)
  | 0, _, _, _, _, _, _ => none
  | n + 1, x0, l4, l5, l6, l8, σ =>
  (if (100 : Int32) ≤ l8 then
  (hw_rv (hw_q 11) (some x0) σ).bind fun a126 =>
  (m11_fillRowCosts x0 l4 σ).bind fun σ126 =>
  (hw_rv (hw_q 11) (some x0) σ126).bind fun a130 =>
  (m11_cheapestFirstPace x0 σ126).bind fun v130 =>
  (hw_gP (hw_q 11) 12 (some x0) σ126).bind fun v136 =>
  (hw_aP 4 v136 (0 : Int32) σ126).bind fun v140 =>
  (hw_aI 0 v140 v130 σ126).bind fun v143 =>
  (if v143 < (1000000 : Int32) then
  (if l5 = ((-1) : Int32) then
  (hw_gP (hw_q 11) 12 (some x0) σ126).bind fun v159 =>
  (hw_aP 4 v159 (0 : Int32) σ126).bind fun v163 =>
  (hw_aI 0 v163 v130 σ126).bind fun v166 =>
  m11_found_b180 x0 v166 σ126
  else
  (hw_rv (hw_q 11) (some x0) σ126).bind fun a177 =>
  (m11_paceInRow x0 v130 l4 l5 σ126).bind fun v177 =>
  m11_found_b180 x0 v177 σ126)
  else
  some (((-5) : Int32), σ126))
  else
  (hw_gP (hw_q 11) 11 (some x0) σ).bind fun v97 =>
  (hw_gP (hw_q 11) 10 (some x0) σ).bind fun v105 =>
  (hw_aI 0 v105 l8 σ).bind fun v110 =>
  (hw_rv hw_qL l6 σ).bind fun a113 =>
  (m3_formAt a113 v110 l8 σ).bind fun v113 =>
  (hw_sI v97 l8 v113 σ).bind fun σ116 =>
  m11_found_b89 n x0 l4 l5 l6 (l8 + 1) σ116)
set_option maxRecDepth 100000 in
theorem w11_found_b89 {p : Program} {l : Launch} {e : Env} {s : State} {m : MethodId} {args : Array Value} {below : List Frame} {meth : Method} {c : Code} {D : hw_D} {b : Nat} {r : Int32} {τ : hw_S} (C0 : hw_C p s m args meth c D yX11_found cX11_found 9 (some .int)) : ∀ (n : Nat) {x0 : Nat} {l4 : Int32} {l5 : Int32} {l6 : Option Nat} {l8 : Int32} {σ : hw_S} {H : Heap} {locs : List Loc} {ls : Array Slot}, m11_found_b89 n x0 l4 l5 l6 l8 σ = some (r, τ) → hw_R D b σ H → va_S (fun q => b ≤ q) s.heap H locs → hw_L ls 9 255 [(0, hw_vr b (some x0)), (4, .int l4), (5, .int l5), (6, hw_vr b l6), (8, .int l8)] → W p l e rm11_found s m args below meth c H locs 0 0 (MQ below (hw_QI D b τ r) args s 0 0 (fun q => b ≤ q)) (F0 m 89 ls []) := by
  obtain ⟨hx, hb, hml, hr, hown, hts, hlk, hE, hnm⟩ := id C0
  have hown : s.vm.findClass RX11 = some m.cls := hown
  have hK := hE.1
  intro n
  induction n with
  | zero => intro _ _ _ _ _ _ _ _ _ hm; cases hm
  | succ n ih =>
    intro x0 l4 l5 l6 l8 σ H locs ls hm hR hS hl
    rw [m11_found_b89] at hm
    refine lv_iload hx hb dX11_found_89 (hl.at 4 rfl) ?_
    refine lv_bipush (v := 100) hx hb dX11_found_91 (by decide) ?_
    refine lv_icmp_ge (tgt := 123) hx hb dX11_found_93 (by decide) (fun c93 => ?_) (fun c93 => ?_)
    · have hm := hw_ip hm c93
      refine hw_aload_n hx hb dX11_found_123 rfl (hl.at 0 rfl) ?_
      refine lv_iload hx hb dX11_found_124 (hl.at 1 rfl) ?_
      obtain ⟨a126, g126, hm⟩ := hw_bs hm
      obtain ⟨rfl, ht126⟩ := hw_rv_th g126
      obtain ⟨σ126, e126, hm⟩ := hw_bs hm
      refine hw_cWV (va_runV (As := [.int l4]) (rest := []) ⟨hx, hb, hml, hown, hts⟩ (c11_fillRowCosts l D b e126) (cwV 1 hts (hw_gV hw_m762 hw_m763 hw_m764 hw_m2 hw_m765) rfl rfl rfl (by decide +kernel) ⟨(Nat.le_of_ble_eq_true rfl), (Nat.le_of_ble_eq_true rfl)⟩) (hw_preV (ci := 11) hE hR rfl (by decide) (hw_q_of ht126)) rfl rfl hl.sz rfl (lv_room (Nat.le_of_ble_eq_true rfl)) dX11_found_126 ⟨(Nat.le_of_ble_eq_true rfl), (Nat.le_of_ble_eq_true rfl)⟩) hS (fun _ _ hR hS => ?_)
      refine hw_aload_n hx hb dX11_found_129 rfl (hl.at 0 rfl) ?_
      obtain ⟨a130, g130, hm⟩ := hw_bs hm
      obtain ⟨rfl, ht130⟩ := hw_rv_th g130
      obtain ⟨v130, e130, hm⟩ := hw_bs hm
      refine hw_cRI (va_runV (As := []) (rest := []) ⟨hx, hb, hml, hown, hts⟩ (c11_cheapestFirstPace l D b e130) (cwV 0 hts (hw_gV hw_m770 hw_m771 hw_m772 hw_m2 hw_m773) rfl rfl rfl (by decide +kernel) ⟨(Nat.le_of_ble_eq_true rfl), (Nat.le_of_ble_eq_true rfl)⟩) (hw_preV (ci := 11) hE hR rfl (by decide) (hw_q_of ht130)) rfl rfl hl.sz rfl (lv_room (Nat.le_of_ble_eq_true rfl)) dX11_found_130 ⟨(Nat.le_of_ble_eq_true rfl), (Nat.le_of_ble_eq_true rfl)⟩) ?_
      refine hw_istore (lv' := [(8, .int v130), (0, hw_vr b (some x0)), (4, .int l4), (5, .int l5), (6, hw_vr b l6)]) hx hb dX11_found_133 hl (by decide) (by decide) rfl (fun ls hl => ?_)
      refine hw_aload_n hx hb dX11_found_135 rfl (hl.at 1 rfl) ?_
      obtain ⟨v136, e136, hm⟩ := hw_bs hm
      refine hw_getP hx hb hw_cf11 hts hown hK hR e136 (by decide) rfl (hts _ hw_m36) (fun _ h9 => h9) dX11_found_136 ?_
      refine lv_iconst (v := 0) hx hb dX11_found_139 (by decide) ?_
      obtain ⟨v140, e140, hm⟩ := hw_bs hm
      refine hw_aald (by decide) (by decide) hx hb hK hR e140 dX11_found_140 ?_
      refine lv_iload hx hb dX11_found_141 (hl.at 0 rfl) ?_
      obtain ⟨v143, e143, hm⟩ := hw_bs hm
      refine hw_iald hx hb hK hR e143 dX11_found_143 ?_
      refine lv_ldc (v := 1000000) hx hb hown (hts _ hw_m761) dX11_found_144 ?_
      refine lv_icmp_lt (tgt := 152) hx hb dX11_found_146 (by decide) (fun c146 => ?_) (fun c146 => ?_)
      · have hm := hw_ip hm c146
        refine lv_iload hx hb dX11_found_152 (hl.at 3 rfl) ?_
        refine lv_iconst (v := (-1)) hx hb dX11_found_154 (by decide) ?_
        refine lv_icmp_ne (tgt := 170) hx hb dX11_found_155 (by decide) (fun c155 => ?_) (fun c155 => ?_)
        · have hm := hw_in hm c155
          refine hw_aload_n hx hb dX11_found_170 rfl (hl.at 1 rfl) ?_
          refine lv_iload hx hb dX11_found_171 (hl.at 0 rfl) ?_
          refine lv_iload hx hb dX11_found_173 (hl.at 2 rfl) ?_
          refine lv_iload hx hb dX11_found_175 (hl.at 3 rfl) ?_
          obtain ⟨a177, g177, hm⟩ := hw_bs hm
          obtain ⟨rfl, ht177⟩ := hw_rv_th g177
          obtain ⟨v177, e177, hm⟩ := hw_bs hm
          refine hw_cRI (va_runV (As := [.int v130, .int l4, .int l5]) (rest := []) ⟨hx, hb, hml, hown, hts⟩ (c11_paceInRow l D b e177) (cwV 3 hts (hw_gV hw_m774 hw_m775 hw_m776 hw_m2 hw_m777) rfl rfl rfl (by decide +kernel) ⟨(Nat.le_of_ble_eq_true rfl), (Nat.le_of_ble_eq_true rfl)⟩) (hw_preV (ci := 11) hE hR rfl (by decide) (hw_q_of ht177)) rfl rfl hl.sz rfl (lv_room (Nat.le_of_ble_eq_true rfl)) dX11_found_177 ⟨(Nat.le_of_ble_eq_true rfl), (Nat.le_of_ble_eq_true rfl)⟩) ?_
          exact w11_found_b180 C0 hm hR hS (hl.sub [1] rfl)
        · have hm := hw_ip hm c155
          refine hw_aload_n hx hb dX11_found_158 rfl (hl.at 1 rfl) ?_
          obtain ⟨v159, e159, hm⟩ := hw_bs hm
          refine hw_getP hx hb hw_cf11 hts hown hK hR e159 (by decide) rfl (hts _ hw_m36) (fun _ h9 => h9) dX11_found_159 ?_
          refine lv_iconst (v := 0) hx hb dX11_found_162 (by decide) ?_
          obtain ⟨v163, e163, hm⟩ := hw_bs hm
          refine hw_aald (by decide) (by decide) hx hb hK hR e163 dX11_found_163 ?_
          refine lv_iload hx hb dX11_found_164 (hl.at 0 rfl) ?_
          obtain ⟨v166, e166, hm⟩ := hw_bs hm
          refine hw_iald hx hb hK hR e166 dX11_found_166 ?_
          refine lv_goto (tgt := 180) hx hb dX11_found_167 (by decide) ?_
          exact w11_found_b180 C0 hm hR hS (hl.sub [1] rfl)
      · have hm := hw_in hm c146
        refine lv_bipush (v := (-5)) hx hb dX11_found_149 (by decide) ?_
        exact hw_rWI hx hb hr hlk hR hS hm dX11_found_151
    · have hm := hw_in hm c93
      refine hw_aload_n hx hb dX11_found_96 rfl (hl.at 0 rfl) ?_
      obtain ⟨v97, e97, hm⟩ := hw_bs hm
      refine hw_getP hx hb hw_cf11 hts hown hK hR e97 (by decide) rfl (hts _ hw_m34) (fun _ h9 => h9) dX11_found_97 ?_
      refine lv_iload hx hb dX11_found_100 (hl.at 4 rfl) ?_
      refine hw_aload hx hb dX11_found_102 (hl.at 3 rfl) ?_
      refine hw_aload_n hx hb dX11_found_104 rfl (hl.at 0 rfl) ?_
      obtain ⟨v105, e105, hm⟩ := hw_bs hm
      refine hw_getP hx hb hw_cf11 hts hown hK hR e105 (by decide) rfl (hts _ hw_m33) (fun _ h9 => h9) dX11_found_105 ?_
      refine lv_iload hx hb dX11_found_108 (hl.at 4 rfl) ?_
      obtain ⟨v110, e110, hm⟩ := hw_bs hm
      refine hw_iald hx hb hK hR e110 dX11_found_110 ?_
      refine lv_iload hx hb dX11_found_111 (hl.at 4 rfl) ?_
      obtain ⟨a113, g113, hm⟩ := hw_bs hm
      obtain ⟨h113, ht113⟩ := hw_rv_of g113
      rw [h113]
      obtain ⟨ci113, C113, f113_1, f113_2, f113_3, f113_4⟩ := hw_sel7 (y := fun _ => yX3_formAt) ht113 hw_m558 hw_m561 hw_m562 hw_m564 hw_m565 hw_m566 hw_m567
      obtain ⟨v113, e113, hm⟩ := hw_bs hm
      refine hw_cRI (va_runU (C := C113) (owner := RX3) (As := [.int v110, .int l8]) (rest := [.int l8, hw_vr b v97]) ⟨hx, hb, hml, hown, hts⟩ (c3_formAt l D b e113) (va_cwU 2 hts (hw_gU hw_m556 hw_m557 f113_4 hw_m559 hw_m285 hw_m560) rfl rfl rfl rfl (by decide +kernel) ⟨(Nat.le_of_ble_eq_true rfl), (Nat.le_of_ble_eq_true rfl)⟩) (hw_preV hE hR f113_3 f113_2 f113_1) rfl rfl hl.sz rfl (lv_room (hw_sm (List.forall_mem_cons.mpr ⟨rfl, (List.forall_mem_cons.mpr ⟨(hw_vr_cat _ _), (fun _ h => absurd h List.not_mem_nil)⟩)⟩) (Nat.le_of_ble_eq_true rfl))) dX11_found_113 ⟨(Nat.le_of_ble_eq_true rfl), (Nat.le_of_ble_eq_true rfl)⟩) ?_
      obtain ⟨σ116, e116, hm⟩ := hw_bs hm
      refine hw_iast hx hb hK hR hS e116 dX11_found_116 (fun _ _ hR hS => ?_)
      refine hw_iinc (v := (l8 + 1)) (lv' := [(8, .int (l8 + 1)), (0, hw_vr b (some x0)), (4, .int l4), (5, .int l5), (6, hw_vr b l6)]) hx hb dX11_found_117 hl (k := 4) rfl rfl (by decide) (by decide) rfl (fun ls hl => ?_)
      refine lv_goto (tgt := 89) hx hb dX11_found_120 (by decide) ?_
      exact ih hm hR hS (hl.sub [1, 2, 3, 4, 0] rfl)
def m11_found (x0 : Nat) (l1 : Int32) (l2 : Int32) (l3 : Int32) (l4 : Int32) (l5 : Int32) (σ : hw_S) : Option (Int32 × hw_S) :=
  (hw_rv (hw_q 11) (some x0) σ).bind fun a2 =>
  (m11_lawAt x0 l1 σ).bind fun v2 =>
  (hw_rv (hw_q 11) (some x0) σ).bind fun a9 =>
  (m11_stuffAt x0 l2 σ).bind fun v9 =>
  (if v2 = none then
  m11_found_b42 x0 σ
  else
  (if v9 = none then
  m11_found_b42 x0 σ
  else
  (hw_gP (hw_q 11) 0 (some x0) σ).bind fun v28 =>
  (hw_gI (hw_q 8) 9 v28 σ).bind fun v31 =>
  (m11_isWithin l5 ((-1) : Int32) (v31 - (1 : Int32))).bind fun v36 =>
  (if v36 = 0 then
  m11_found_b42 x0 σ
  else
  (m11_isDoing l3).bind fun v45 =>
  (if v45 = 0 then
  m11_found_b62 x0 σ
  else
  (m11_isWithin l4 (0 : Int32) (99 : Int32)).bind fun v56 =>
  (if v56 = 0 then
  m11_found_b62 x0 σ
  else
  (hw_gP (hw_q 11) 0 (some x0) σ).bind fun v66 =>
  (hw_gI (hw_q 8) 9 v66 σ).bind fun v69 =>
  (if v69 = 0 then
  some ((0 : Int32), σ)
  else
  (hw_rv (hw_q 11) (some x0) σ).bind fun a83 =>
  (m11_goThroughPaces x0 v2 v9 l3 σ).bind fun σ83 =>
  m11_found_b89 hw_fu x0 l4 l5 v2 (0 : Int32) σ83))))))
set_option maxRecDepth 100000 in
theorem w11_found_s {p : Program} {l : Launch} {e : Env} {s : State} {m : MethodId} {args : Array Value} {below : List Frame} {meth : Method} {c : Code} {D : hw_D} {b : Nat} {x0 : Nat} {l1 : Int32} {l2 : Int32} {l3 : Int32} {l4 : Int32} {l5 : Int32} {σ : hw_S} {r : Int32} {τ : hw_S} {H : Heap} {locs : List Loc} (hm : m11_found x0 l1 l2 l3 l4 l5 σ = some (r, τ)) (C0 : hw_C p s m args meth c D yX11_found cX11_found 9 (some .int)) (hR : hw_R D b σ H) (hS : va_S (fun q => b ≤ q) s.heap H locs) {ls : Array Slot} (hl : hw_L ls 9 255 [(0, hw_vr b (some x0)), (1, .int l1), (2, .int l2), (3, .int l3), (4, .int l4), (5, .int l5)]) : W p l e rm11_found s m args below meth c H locs 0 0 (MQ below (hw_QI D b τ r) args s 0 0 (fun q => b ≤ q)) (F0 m 0 ls []) := by
  obtain ⟨hx, hb, hml, hr, hown, hts, hlk, hE, hnm⟩ := id C0
  have hown : s.vm.findClass RX11 = some m.cls := hown
  have hK := hE.1
  unfold m11_found at hm
  refine hw_aload_n hx hb dX11_found_0 rfl (hl.at 0 rfl) ?_
  refine lv_iload_n hx hb dX11_found_1 rfl (hl.at 1 rfl) ?_
  obtain ⟨a2, g2, hm⟩ := hw_bs hm
  obtain ⟨rfl, ht2⟩ := hw_rv_th g2
  obtain ⟨v2, e2, hm⟩ := hw_bs hm
  refine hw_cRP (va_runV (As := [.int l1]) (rest := []) ⟨hx, hb, hml, hown, hts⟩ (c11_lawAt l D b e2) (cwV 1 hts (hw_gV hw_m426 hw_m427 hw_m428 hw_m2 hw_m429) rfl rfl rfl (by decide +kernel) ⟨(Nat.le_of_ble_eq_true rfl), (Nat.le_of_ble_eq_true rfl)⟩) (hw_preV (ci := 11) hE hR rfl (by decide) (hw_q_of ht2)) rfl rfl hl.sz rfl (lv_room (Nat.le_of_ble_eq_true rfl)) dX11_found_2 ⟨(Nat.le_of_ble_eq_true rfl), (Nat.le_of_ble_eq_true rfl)⟩) ?_
  refine hw_asto (lv' := [(6, hw_vr b v2), (0, hw_vr b (some x0)), (1, .int l1), (2, .int l2), (3, .int l3), (4, .int l4), (5, .int l5)]) hx hb dX11_found_5 hl (by decide) (by decide) rfl (fun ls hl => ?_)
  refine hw_aload_n hx hb dX11_found_7 rfl (hl.at 1 rfl) ?_
  refine lv_iload_n hx hb dX11_found_8 rfl (hl.at 3 rfl) ?_
  obtain ⟨a9, g9, hm⟩ := hw_bs hm
  obtain ⟨rfl, ht9⟩ := hw_rv_th g9
  obtain ⟨v9, e9, hm⟩ := hw_bs hm
  refine hw_cRP (va_runV (As := [.int l2]) (rest := []) ⟨hx, hb, hml, hown, hts⟩ (c11_stuffAt l D b e9) (cwV 1 hts (hw_gV hw_m121 hw_m122 hw_m123 hw_m2 hw_m124) rfl rfl rfl (by decide +kernel) ⟨(Nat.le_of_ble_eq_true rfl), (Nat.le_of_ble_eq_true rfl)⟩) (hw_preV (ci := 11) hE hR rfl (by decide) (hw_q_of ht9)) rfl rfl hl.sz rfl (lv_room (Nat.le_of_ble_eq_true rfl)) dX11_found_9 ⟨(Nat.le_of_ble_eq_true rfl), (Nat.le_of_ble_eq_true rfl)⟩) ?_
  refine hw_asto (lv' := [(7, hw_vr b v9), (6, hw_vr b v2), (0, hw_vr b (some x0)), (1, .int l1), (2, .int l2), (3, .int l3), (4, .int l4), (5, .int l5)]) hx hb dX11_found_12 hl (by decide) (by decide) rfl (fun ls hl => ?_)
  refine hw_aload hx hb dX11_found_14 (hl.at 1 rfl) ?_
  refine hw_ifnull (tgt := 42) hx hb dX11_found_16 (by decide) (fun c16 => ?_) (fun c16 => ?_)
  · have hm := hw_ip hm c16
    exact w11_found_b42 C0 hm hR hS (hl.sub [2] rfl)
  · have hm := hw_in hm c16
    refine hw_aload hx hb dX11_found_19 (hl.at 0 rfl) ?_
    refine hw_ifnull (tgt := 42) hx hb dX11_found_21 (by decide) (fun c21 => ?_) (fun c21 => ?_)
    · have hm := hw_ip hm c21
      exact w11_found_b42 C0 hm hR hS (hl.sub [2] rfl)
    · have hm := hw_in hm c21
      refine lv_iload hx hb dX11_found_24 (hl.at 7 rfl) ?_
      refine lv_iconst (v := (-1)) hx hb dX11_found_26 (by decide) ?_
      refine hw_aload_n hx hb dX11_found_27 rfl (hl.at 2 rfl) ?_
      obtain ⟨v28, e28, hm⟩ := hw_bs hm
      refine hw_getP hx hb hw_cf11 hts hown hK hR e28 (by decide) rfl (hts _ hw_m16) (fun _ h9 => h9) dX11_found_28 ?_
      obtain ⟨v31, e31, hm⟩ := hw_bs hm
      refine hw_getI hx hb hw_cf8 hts hown hK hR e31 (by decide) rfl (hts _ hw_m751) (fun _ h9 => h9) dX11_found_31 ?_
      refine lv_iconst (v := 1) hx hb dX11_found_34 (by decide) ?_
      refine lv_isub hx hb dX11_found_35 ?_
      obtain ⟨v36, e36, hm⟩ := hw_bs hm
      refine hw_cRI (va_runS (As := [.int l5, .int ((-1) : Int32), .int (v31 - (1 : Int32))]) (rest := []) ⟨hx, hb, hml, hown, hts⟩ (c11_isWithin l D e36) (cwS 3 hts (hw_gS hw_m99 hw_m100 hw_m2 hw_m101) rfl rfl rfl (by decide +kernel) ⟨(Nat.le_of_ble_eq_true rfl), (Nat.le_of_ble_eq_true rfl)⟩) (hw_pre0 hE) rfl rfl hl.sz rfl (lv_room (Nat.le_of_ble_eq_true rfl)) dX11_found_36 ⟨(Nat.le_of_ble_eq_true rfl), (Nat.le_of_ble_eq_true rfl)⟩) ?_
      refine lv_if_ne (tgt := 44) hx hb dX11_found_39 (by decide) (fun c39 => ?_) (fun c39 => ?_)
      · have hm := hw_in hm c39
        refine lv_iload_n hx hb dX11_found_44 rfl (hl.at 5 rfl) ?_
        obtain ⟨v45, e45, hm⟩ := hw_bs hm
        refine hw_cRI (va_runS (As := [.int l3]) (rest := []) ⟨hx, hb, hml, hown, hts⟩ (c11_isDoing l D e45) (cwS 1 hts (hw_gS hw_m442 hw_m443 hw_m2 hw_m444) rfl rfl rfl (by decide +kernel) ⟨(Nat.le_of_ble_eq_true rfl), (Nat.le_of_ble_eq_true rfl)⟩) (hw_pre0 hE) rfl rfl hl.sz rfl (lv_room (Nat.le_of_ble_eq_true rfl)) dX11_found_45 ⟨(Nat.le_of_ble_eq_true rfl), (Nat.le_of_ble_eq_true rfl)⟩) ?_
        refine lv_if_eq (tgt := 62) hx hb dX11_found_48 (by decide) (fun c48 => ?_) (fun c48 => ?_)
        · have hm := hw_ip hm c48
          exact w11_found_b62 C0 hm hR hS (hl.sub [2] rfl)
        · have hm := hw_in hm c48
          refine lv_iload hx hb dX11_found_51 (hl.at 6 rfl) ?_
          refine lv_iconst (v := 0) hx hb dX11_found_53 (by decide) ?_
          refine lv_bipush (v := 99) hx hb dX11_found_54 (by decide) ?_
          obtain ⟨v56, e56, hm⟩ := hw_bs hm
          refine hw_cRI (va_runS (As := [.int l4, .int (0 : Int32), .int (99 : Int32)]) (rest := []) ⟨hx, hb, hml, hown, hts⟩ (c11_isWithin l D e56) (cwS 3 hts (hw_gS hw_m99 hw_m100 hw_m2 hw_m101) rfl rfl rfl (by decide +kernel) ⟨(Nat.le_of_ble_eq_true rfl), (Nat.le_of_ble_eq_true rfl)⟩) (hw_pre0 hE) rfl rfl hl.sz rfl (lv_room (Nat.le_of_ble_eq_true rfl)) dX11_found_56 ⟨(Nat.le_of_ble_eq_true rfl), (Nat.le_of_ble_eq_true rfl)⟩) ?_
          refine lv_if_ne (tgt := 65) hx hb dX11_found_59 (by decide) (fun c59 => ?_) (fun c59 => ?_)
          · have hm := hw_in hm c59
            refine hw_aload_n hx hb dX11_found_65 rfl (hl.at 2 rfl) ?_
            obtain ⟨v66, e66, hm⟩ := hw_bs hm
            refine hw_getP hx hb hw_cf11 hts hown hK hR e66 (by decide) rfl (hts _ hw_m16) (fun _ h9 => h9) dX11_found_66 ?_
            obtain ⟨v69, e69, hm⟩ := hw_bs hm
            refine hw_getI hx hb hw_cf8 hts hown hK hR e69 (by decide) rfl (hts _ hw_m751) (fun _ h9 => h9) dX11_found_69 ?_
            refine lv_if_ne (tgt := 77) hx hb dX11_found_72 (by decide) (fun c72 => ?_) (fun c72 => ?_)
            · have hm := hw_in hm c72
              refine hw_aload_n hx hb dX11_found_77 rfl (hl.at 2 rfl) ?_
              refine hw_aload hx hb dX11_found_78 (hl.at 1 rfl) ?_
              refine hw_aload hx hb dX11_found_80 (hl.at 0 rfl) ?_
              refine lv_iload_n hx hb dX11_found_82 rfl (hl.at 5 rfl) ?_
              obtain ⟨a83, g83, hm⟩ := hw_bs hm
              obtain ⟨rfl, ht83⟩ := hw_rv_th g83
              obtain ⟨σ83, e83, hm⟩ := hw_bs hm
              refine hw_cWV (va_runV (As := [hw_vr b v2, hw_vr b v9, .int l3]) (rest := []) ⟨hx, hb, hml, hown, hts⟩ (c11_goThroughPaces l D b e83) (cwV 3 hts (hw_gV hw_m738 hw_m739 hw_m740 hw_m2 hw_m741) rfl rfl rfl (by decide +kernel) ⟨(Nat.le_of_ble_eq_true rfl), (Nat.le_of_ble_eq_true rfl)⟩) (hw_preV (ci := 11) hE hR rfl (by decide) (hw_q_of ht83)) rfl rfl hl.sz rfl (lv_room (Nat.le_of_ble_eq_true rfl)) dX11_found_83 ⟨(Nat.le_of_ble_eq_true rfl), (Nat.le_of_ble_eq_true rfl)⟩) hS (fun _ _ hR hS => ?_)
              refine lv_iconst (v := 0) hx hb dX11_found_86 (by decide) ?_
              refine hw_istore (lv' := [(8, .int (0 : Int32)), (7, hw_vr b v9), (6, hw_vr b v2), (0, hw_vr b (some x0)), (1, .int l1), (2, .int l2), (3, .int l3), (4, .int l4), (5, .int l5)]) hx hb dX11_found_87 hl (by decide) (by decide) rfl (fun ls hl => ?_)
              exact w11_found_b89 C0 hw_fu hm hR hS (hl.sub [3, 7, 8, 2, 0] rfl)
            · have hm := hw_ip hm c72
              refine lv_iconst (v := 0) hx hb dX11_found_75 (by decide) ?_
              exact hw_rWI hx hb hr hlk hR hS hm dX11_found_76
          · have hm := hw_ip hm c59
            exact w11_found_b62 C0 hm hR hS (hl.sub [2] rfl)
      · have hm := hw_ip hm c39
        exact w11_found_b42 C0 hm hR hS (hl.sub [2] rfl)
set_option maxRecDepth 100000 in
theorem c11_found (l : Launch) (D : hw_D) (b : Nat) {x0 : Nat} {l1 : Int32} {l2 : Int32} {l3 : Int32} {l4 : Int32} {l5 : Int32} {σ : hw_S} {r : Int32} {τ : hw_S} (hm : m11_found x0 l1 l2 l3 l4 l5 σ = some (r, τ)) : Met l yX11_found (Cond.code yX11_found cX11_found 9 (some .int) :: wsL_law) rm11_found (hw_P1 D b σ [hw_vr b (some x0), .int l1, .int l2, .int l3, .int l4, .int l5]) (hw_QI D b τ r) 0 0 (fun q => b ≤ q) := by
  refine hw_start1 (by decide +kernel) (by exact Nat.le_of_ble_eq_true rfl) ?_
  intro p e s m below meth c ls C0 hR hS hl
  have hl : lv_has ls 9 [(0, hw_vr b (some x0)), (1, .int l1), (2, .int l2), (3, .int l3), (4, .int l4), (5, .int l5)] := by exact hl
  exact w11_found_s hm C0 hR hS ⟨hl, (List.forall_mem_cons.mpr ⟨(fun h => by rw [show (hw_vr b (some x0) : Value).category = 1 from (hw_vr_cat _ _)] at h; cases h), (List.forall_mem_cons.mpr ⟨(fun h => absurd (show (1 : Nat) = 2 from h) (by decide)), (List.forall_mem_cons.mpr ⟨(fun h => absurd (show (1 : Nat) = 2 from h) (by decide)), (List.forall_mem_cons.mpr ⟨(fun h => absurd (show (1 : Nat) = 2 from h) (by decide)), (List.forall_mem_cons.mpr ⟨(fun h => absurd (show (1 : Nat) = 2 from h) (by decide)), (List.forall_mem_cons.mpr ⟨(fun h => absurd (show (1 : Nat) = 2 from h) (by decide)), (fun _ h => absurd h List.not_mem_nil)⟩)⟩)⟩)⟩)⟩)⟩)⟩
