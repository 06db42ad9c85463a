abbrev rm12_told : Room := { frames := 2, cells := 0, slots := 0, locals := 43 }
def m12_told_b69 (x0 : Nat) (t0 : Int32) (σ : hw_S) : Option Int32 :=
  some t0
set_option maxRecDepth 100000 in
theorem w12_told_b69 {p : Program} {l : Launch} {e : Env} {s : State} {m : MethodId} {args : Array Value} {below : List Frame} {meth : Method} {c : Code} {D : hw_D} {b : Nat} {r : Int32} (C0 : hw_C p s m args meth c D yX12_told cX12_told 3 (some .int)) {x0 : Nat} {t0 : Int32} {σ : hw_S} (hm : m12_told_b69 x0 t0 σ = some r) (hR : hw_R D b σ s.heap) {ls : Array Slot} (hl : hw_L ls 3 255 [(0, hw_vr b (some x0))]) : W p l e rm12_told s m args below meth c s.heap [] 0 0 (MQ below (hw_RI r) args s 0 0 hw_nof) (F0 m 69 ls [.int t0]) := by
  obtain ⟨hx, hb, hml, hr, hown, hts, hlk, hE, hnm⟩ := id C0
  have hown : s.vm.findClass RX12 = some m.cls := hown
  have hK := hE.1
  unfold m12_told_b69 at hm
  exact hw_rRI hx hb hr hlk hm dX12_told_69
def m12_told (x0 : Nat) (l1 : Int32) (l2 : Int32) (σ : hw_S) : Option Int32 :=
  (hw_rv (hw_q 12) (some x0) σ).bind fun a2 =>
  (m12_isLaw x0 l1 σ).bind fun v2 =>
  (if v2 = 0 then
  some ((-1) : Int32)
  else
  (m12_in l2 (0 : Int32) (3 : Int32)).bind fun v13 =>
  (if v13 = 0 then
  (m12_in l2 (11 : Int32) (14 : Int32)).bind fun v42 =>
  (if v42 = 0 then
  m12_told_b69 x0 ((-1) : Int32) σ
  else
  (hw_gP (hw_q 12) 1 (some x0) σ).bind fun v49 =>
  (hw_aI 0 v49 ((((172 : Int32) + ((4 : Int32) * l1)) + l2) - (11 : Int32)) σ).bind fun v64 =>
  m12_told_b69 x0 v64 σ)
  else
  (hw_gP (hw_q 12) 1 (some x0) σ).bind fun v20 =>
  (hw_aI 0 v20 (((140 : Int32) + ((8 : Int32) * l2)) + l1) σ).bind fun v33 =>
  m12_told_b69 x0 v33 σ))
set_option maxRecDepth 100000 in
theorem w12_told_s {p : Program} {l : Launch} {e : Env} {s : State} {m : MethodId} {args : Array Value} {below : List Frame} {meth : Method} {c : Code} {D : hw_D} {b : Nat} {x0 : Nat} {l1 : Int32} {l2 : Int32} {σ : hw_S} {r : Int32} (hm : m12_told x0 l1 l2 σ = some r) (C0 : hw_C p s m args meth c D yX12_told cX12_told 3 (some .int)) (hR : hw_R D b σ s.heap) {ls : Array Slot} (hl : hw_L ls 3 255 [(0, hw_vr b (some x0)), (1, .int l1), (2, .int l2)]) : W p l e rm12_told s m args below meth c s.heap [] 0 0 (MQ below (hw_RI r) args s 0 0 hw_nof) (F0 m 0 ls []) := by
  obtain ⟨hx, hb, hml, hr, hown, hts, hlk, hE, hnm⟩ := id C0
  have hown : s.vm.findClass RX12 = some m.cls := hown
  have hK := hE.1
  unfold m12_told at hm
  refine hw_aload_n hx hb dX12_told_0 rfl (hl.at 0 rfl) ?_
  refine lv_iload_n hx hb dX12_told_1 rfl (hl.at 1 rfl) ?_
  obtain ⟨a2, g2, hm⟩ := hw_bs hm
  obtain ⟨rfl, ht2⟩ := hw_rv_th g2
  obtain ⟨v2, e2, hm⟩ := hw_bs hm
  refine hw_cRI (va_runV (As := [.int l1]) (rest := []) ⟨hx, hb, hml, hown, hts⟩ (c12_isLaw l D b e2) (cwV 1 hts (hw_gV hw_m434 hw_m435 hw_m436 hw_m5 hw_m437) rfl rfl rfl (by decide +kernel) ⟨(Nat.le_of_ble_eq_true rfl), (Nat.le_of_ble_eq_true rfl)⟩) (hw_preV (ci := 12) hE hR rfl (by decide) (hw_q_of ht2)) rfl rfl hl.sz rfl (lv_room (Nat.le_of_ble_eq_true rfl)) dX12_told_2 ⟨(Nat.le_of_ble_eq_true rfl), (Nat.le_of_ble_eq_true rfl)⟩) ?_
  refine lv_if_ne (tgt := 10) hx hb dX12_told_5 (by decide) (fun c5 => ?_) (fun c5 => ?_)
  · have hm := hw_in hm c5
    refine lv_iload_n hx hb dX12_told_10 rfl (hl.at 2 rfl) ?_
    refine lv_iconst (v := 0) hx hb dX12_told_11 (by decide) ?_
    refine lv_iconst (v := 3) hx hb dX12_told_12 (by decide) ?_
    obtain ⟨v13, e13, hm⟩ := hw_bs hm
    refine hw_cRI (va_runS (As := [.int l2, .int (0 : Int32), .int (3 : Int32)]) (rest := []) ⟨hx, hb, hml, hown, hts⟩ (c12_in l D e13) (cwS 3 hts (hw_gS hw_m112 hw_m113 hw_m5 hw_m114) rfl rfl rfl (by decide +kernel) ⟨(Nat.le_of_ble_eq_true rfl), (Nat.le_of_ble_eq_true rfl)⟩) (hw_pre0 hE) rfl rfl hl.sz rfl (lv_room (Nat.le_of_ble_eq_true rfl)) dX12_told_13 ⟨(Nat.le_of_ble_eq_true rfl), (Nat.le_of_ble_eq_true rfl)⟩) ?_
    refine lv_if_eq (tgt := 37) hx hb dX12_told_16 (by decide) (fun c16 => ?_) (fun c16 => ?_)
    · have hm := hw_ip hm c16
      refine lv_iload_n hx hb dX12_told_37 rfl (hl.at 2 rfl) ?_
      refine lv_bipush (v := 11) hx hb dX12_told_38 (by decide) ?_
      refine lv_bipush (v := 14) hx hb dX12_told_40 (by decide) ?_
      obtain ⟨v42, e42, hm⟩ := hw_bs hm
      refine hw_cRI (va_runS (As := [.int l2, .int (11 : Int32), .int (14 : Int32)]) (rest := []) ⟨hx, hb, hml, hown, hts⟩ (c12_in l D e42) (cwS 3 hts (hw_gS hw_m112 hw_m113 hw_m5 hw_m114) rfl rfl rfl (by decide +kernel) ⟨(Nat.le_of_ble_eq_true rfl), (Nat.le_of_ble_eq_true rfl)⟩) (hw_pre0 hE) rfl rfl hl.sz rfl (lv_room (Nat.le_of_ble_eq_true rfl)) dX12_told_42 ⟨(Nat.le_of_ble_eq_true rfl), (Nat.le_of_ble_eq_true rfl)⟩) ?_
      refine lv_if_eq (tgt := 68) hx hb dX12_told_45 (by decide) (fun c45 => ?_) (fun c45 => ?_)
      · have hm := hw_ip hm c45
        refine lv_iconst (v := (-1)) hx hb dX12_told_68 (by decide) ?_
        exact w12_told_b69 C0 hm hR (hl.sub [0] rfl)
      · have hm := hw_in hm c45
        refine hw_aload_n hx hb dX12_told_48 rfl (hl.at 0 rfl) ?_
        obtain ⟨v49, e49, hm⟩ := hw_bs hm
        refine hw_getP hx hb hw_cf12 hts hown hK hR e49 (by decide) rfl (hts _ hw_m76) (fun _ h9 => h9) dX12_told_49 ?_
        refine lv_sipush (v := 172) hx hb dX12_told_52 (by decide) ?_
        refine lv_iconst (v := 4) hx hb dX12_told_55 (by decide) ?_
        refine lv_iload_n hx hb dX12_told_56 rfl (hl.at 1 rfl) ?_
        refine lv_imul hx hb dX12_told_57 ?_
        refine lv_iadd hx hb dX12_told_58 ?_
        refine lv_iload_n hx hb dX12_told_59 rfl (hl.at 2 rfl) ?_
        refine lv_iadd hx hb dX12_told_60 ?_
        refine lv_bipush (v := 11) hx hb dX12_told_61 (by decide) ?_
        refine lv_isub hx hb dX12_told_63 ?_
        obtain ⟨v64, e64, hm⟩ := hw_bs hm
        refine hw_iald hx hb hK hR e64 dX12_told_64 ?_
        refine lv_goto (tgt := 69) hx hb dX12_told_65 (by decide) ?_
        exact w12_told_b69 C0 hm hR (hl.sub [0] rfl)
    · have hm := hw_in hm c16
      refine hw_aload_n hx hb dX12_told_19 rfl (hl.at 0 rfl) ?_
      obtain ⟨v20, e20, hm⟩ := hw_bs hm
      refine hw_getP hx hb hw_cf12 hts hown hK hR e20 (by decide) rfl (hts _ hw_m76) (fun _ h9 => h9) dX12_told_20 ?_
      refine lv_sipush (v := 140) hx hb dX12_told_23 (by decide) ?_
      refine lv_bipush (v := 8) hx hb dX12_told_26 (by decide) ?_
      refine lv_iload_n hx hb dX12_told_28 rfl (hl.at 2 rfl) ?_
      refine lv_imul hx hb dX12_told_29 ?_
      refine lv_iadd hx hb dX12_told_30 ?_
      refine lv_iload_n hx hb dX12_told_31 rfl (hl.at 1 rfl) ?_
      refine lv_iadd hx hb dX12_told_32 ?_
      obtain ⟨v33, e33, hm⟩ := hw_bs hm
      refine hw_iald hx hb hK hR e33 dX12_told_33 ?_
      refine lv_goto (tgt := 69) hx hb dX12_told_34 (by decide) ?_
      exact w12_told_b69 C0 hm hR (hl.sub [0] rfl)
  · have hm := hw_ip hm c5
    refine lv_iconst (v := (-1)) hx hb dX12_told_8 (by decide) ?_
    exact hw_rRI hx hb hr hlk hm dX12_told_9
set_option maxRecDepth 100000 in
theorem c12_told (l : Launch) (D : hw_D) (b : Nat) {x0 : Nat} {l1 : Int32} {l2 : Int32} {σ : hw_S} {r : Int32} (hm : m12_told x0 l1 l2 σ = some r) : Met l yX12_told (Cond.code yX12_told cX12_told 3 (some .int) :: wsL_law) rm12_told (hw_P1 D b σ [hw_vr b (some x0), .int l1, .int l2]) (hw_RI r) 0 0 hw_nof := by
  refine hw_start1 (by decide +kernel) (by exact Nat.le_of_ble_eq_true rfl) ?_
  intro p e s m below meth c ls C0 hR hS hl
  have hl : lv_has ls 3 [(0, hw_vr b (some x0)), (1, .int l1), (2, .int l2)] := by exact hl
  exact w12_told_s hm C0 hR ⟨hl, (List.forall_mem_cons.mpr ⟨(fun h => by rw [show (hw_vr b (some x0) : Value).category = 1 from (hw_vr_cat _ _)] at h; cases h), (List.forall_mem_cons.mpr ⟨(fun h => absurd (show (1 : Nat) = 2 from h) (by decide)), (List.forall_mem_cons.mpr ⟨(fun h => absurd (show (1 : Nat) = 2 from h) (by decide)), (fun _ h => absurd h List.not_mem_nil)⟩)⟩)⟩)⟩

abbrev rm11_heightOf : Room := { frames := 0, cells := 0, slots := 0, locals := 0 }
def m11_heightOf (l0 : Int32) : Option Int32 :=
  (hw_dv l0 (10000 : Int32)).bind fun v4 =>
  some v4
set_option maxRecDepth 100000 in
theorem w11_heightOf_s {p : Program} {l : Launch} {e : Env} {s : State} {m : MethodId} {args : Array Value} {below : List Frame} {meth : Method} {c : Code} {D : hw_D} {l0 : Int32} {r : Int32} (hm : m11_heightOf l0 = some r) (C0 : hw_C p s m args meth c D yX11_heightOf cX11_heightOf 1 (some .int)) {ls : Array Slot} (hl : hw_L ls 1 255 [(0, .int l0)]) : W p l e rm11_heightOf s m args below meth c s.heap [] 0 0 (MQ below (hw_RI r) args s 0 0 hw_nof) (F0 m 0 ls []) := by
  obtain ⟨hx, hb, hml, hr, hown, hts, hlk, hE, hnm⟩ := id C0
  have hown : s.vm.findClass RX11 = some m.cls := hown
  unfold m11_heightOf at hm
  refine lv_iload_n hx hb dX11_heightOf_0 rfl (hl.at 0 rfl) ?_
  refine lv_sipush (v := 10000) hx hb dX11_heightOf_1 (by decide) ?_
  obtain ⟨v4, e4, hm⟩ := hw_bs hm
  refine hw_idiv hx hb e4 dX11_heightOf_4 ?_
  exact hw_rRI hx hb hr hlk hm dX11_heightOf_5
set_option maxRecDepth 100000 in
theorem c11_heightOf (l : Launch) (D : hw_D) {l0 : Int32} {r : Int32} (hm : m11_heightOf l0 = some r) : Met l yX11_heightOf (Cond.code yX11_heightOf cX11_heightOf 1 (some .int) :: wsL_law) rm11_heightOf (hw_P0 D [.int l0]) (hw_RI r) 0 0 hw_nof := by
  refine hw_start0 (by decide +kernel) (by exact Nat.le_of_ble_eq_true rfl) ?_
  intro p e s m below meth c ls C0 hl
  have hl : lv_has ls 1 [(0, .int l0)] := by exact hl
  exact w11_heightOf_s hm C0 ⟨hl, (List.forall_mem_cons.mpr ⟨(fun h => absurd (show (1 : Nat) = 2 from h) (by decide)), (fun _ h => absurd h List.not_mem_nil)⟩)⟩

abbrev rm11_isHeight : Room := { frames := 1, cells := 0, slots := 0, locals := 22 }
def m11_isHeight (l0 : Int32) : Option Int32 :=
  (m11_isWithin l0 (1 : Int32) (60 : Int32)).bind fun v4 =>
  (hw_tf v4).bind fun _ =>
  some v4
set_option maxRecDepth 100000 in
theorem w11_isHeight_s {p : Program} {l : Launch} {e : Env} {s : State} {m : MethodId} {args : Array Value} {below : List Frame} {meth : Method} {c : Code} {D : hw_D} {l0 : Int32} {r : Int32} (hm : m11_isHeight l0 = some r) (C0 : hw_C p s m args meth c D yX11_isHeight cX11_isHeight 1 (some .boolean)) {ls : Array Slot} (hl : hw_L ls 1 255 [(0, .int l0)]) : W p l e rm11_isHeight s m args below meth c s.heap [] 0 0 (MQ below (hw_RI r) args s 0 0 hw_nof) (F0 m 0 ls []) := by
  obtain ⟨hx, hb, hml, hr, hown, hts, hlk, hE, hnm⟩ := id C0
  have hown : s.vm.findClass RX11 = some m.cls := hown
  unfold m11_isHeight at hm
  refine lv_iload_n hx hb dX11_isHeight_0 rfl (hl.at 0 rfl) ?_
  refine lv_iconst (v := 1) hx hb dX11_isHeight_1 (by decide) ?_
  refine lv_bipush (v := 60) hx hb dX11_isHeight_2 (by decide) ?_
  obtain ⟨v4, e4, hm⟩ := hw_bs hm
  refine hw_cRI (va_runS (As := [.int l0, .int (1 : Int32), .int (60 : Int32)]) (rest := []) ⟨hx, hb, hml, hown, hts⟩ (c11_isWithin l D e4) (cwS 3 hts (hw_gS hw_m99 hw_m100 hw_m2 hw_m101) rfl rfl rfl (by decide +kernel) ⟨(Nat.le_of_ble_eq_true rfl), (Nat.le_of_ble_eq_true rfl)⟩) (hw_pre0 hE) rfl rfl hl.sz rfl (lv_room (Nat.le_of_ble_eq_true rfl)) dX11_isHeight_4 ⟨(Nat.le_of_ble_eq_true rfl), (Nat.le_of_ble_eq_true rfl)⟩) ?_
  obtain ⟨_, z7, hm⟩ := hw_bs hm
  exact hw_rRZ hx hb hr hlk z7 hm dX11_isHeight_7
set_option maxRecDepth 100000 in
theorem c11_isHeight (l : Launch) (D : hw_D) {l0 : Int32} {r : Int32} (hm : m11_isHeight l0 = some r) : Met l yX11_isHeight (Cond.code yX11_isHeight cX11_isHeight 1 (some .boolean) :: wsL_law) rm11_isHeight (hw_P0 D [.int l0]) (hw_RI r) 0 0 hw_nof := by
  refine hw_start0 (by decide +kernel) (by exact Nat.le_of_ble_eq_true rfl) ?_
  intro p e s m below meth c ls C0 hl
  have hl : lv_has ls 1 [(0, .int l0)] := by exact hl
  exact w11_isHeight_s hm C0 ⟨hl, (List.forall_mem_cons.mpr ⟨(fun h => absurd (show (1 : Nat) = 2 from h) (by decide)), (fun _ h => absurd h List.not_mem_nil)⟩)⟩

abbrev rm11_flowOf : Room := { frames := 0, cells := 0, slots := 0, locals := 0 }
def m11_flowOf (l0 : Int32) : Option Int32 :=
  (hw_dv l0 (100 : Int32)).bind fun v3 =>
  (hw_rm v3 (100 : Int32)).bind fun v6 =>
  some v6
set_option maxRecDepth 100000 in
theorem w11_flowOf_s {p : Program} {l : Launch} {e : Env} {s : State} {m : MethodId} {args : Array Value} {below : List Frame} {meth : Method} {c : Code} {D : hw_D} {l0 : Int32} {r : Int32} (hm : m11_flowOf l0 = some r) (C0 : hw_C p s m args meth c D yX11_flowOf cX11_flowOf 1 (some .int)) {ls : Array Slot} (hl : hw_L ls 1 255 [(0, .int l0)]) : W p l e rm11_flowOf s m args below meth c s.heap [] 0 0 (MQ below (hw_RI r) args s 0 0 hw_nof) (F0 m 0 ls []) := by
  obtain ⟨hx, hb, hml, hr, hown, hts, hlk, hE, hnm⟩ := id C0
  have hown : s.vm.findClass RX11 = some m.cls := hown
  unfold m11_flowOf at hm
  refine lv_iload_n hx hb dX11_flowOf_0 rfl (hl.at 0 rfl) ?_
  refine lv_bipush (v := 100) hx hb dX11_flowOf_1 (by decide) ?_
  obtain ⟨v3, e3, hm⟩ := hw_bs hm
  refine hw_idiv hx hb e3 dX11_flowOf_3 ?_
  refine lv_bipush (v := 100) hx hb dX11_flowOf_4 (by decide) ?_
  obtain ⟨v6, e6, hm⟩ := hw_bs hm
  refine hw_irem hx hb e6 dX11_flowOf_6 ?_
  exact hw_rRI hx hb hr hlk hm dX11_flowOf_7
set_option maxRecDepth 100000 in
theorem c11_flowOf (l : Launch) (D : hw_D) {l0 : Int32} {r : Int32} (hm : m11_flowOf l0 = some r) : Met l yX11_flowOf (Cond.code yX11_flowOf cX11_flowOf 1 (some .int) :: wsL_law) rm11_flowOf (hw_P0 D [.int l0]) (hw_RI r) 0 0 hw_nof := by
  refine hw_start0 (by decide +kernel) (by exact Nat.le_of_ble_eq_true rfl) ?_
  intro p e s m below meth c ls C0 hl
  have hl : lv_has ls 1 [(0, .int l0)] := by exact hl
  exact w11_flowOf_s hm C0 ⟨hl, (List.forall_mem_cons.mpr ⟨(fun h => absurd (show (1 : Nat) = 2 from h) (by decide)), (fun _ h => absurd h List.not_mem_nil)⟩)⟩

abbrev rm11_isFlow : Room := { frames := 1, cells := 0, slots := 0, locals := 22 }
def m11_isFlow (l0 : Int32) : Option Int32 :=
  (m11_isWithin l0 (1 : Int32) (20 : Int32)).bind fun v4 =>
  (hw_tf v4).bind fun _ =>
  some v4
set_option maxRecDepth 100000 in
theorem w11_isFlow_s {p : Program} {l : Launch} {e : Env} {s : State} {m : MethodId} {args : Array Value} {below : List Frame} {meth : Method} {c : Code} {D : hw_D} {l0 : Int32} {r : Int32} (hm : m11_isFlow l0 = some r) (C0 : hw_C p s m args meth c D yX11_isFlow cX11_isFlow 1 (some .boolean)) {ls : Array Slot} (hl : hw_L ls 1 255 [(0, .int l0)]) : W p l e rm11_isFlow s m args below meth c s.heap [] 0 0 (MQ below (hw_RI r) args s 0 0 hw_nof) (F0 m 0 ls []) := by
  obtain ⟨hx, hb, hml, hr, hown, hts, hlk, hE, hnm⟩ := id C0
  have hown : s.vm.findClass RX11 = some m.cls := hown
  unfold m11_isFlow at hm
  refine lv_iload_n hx hb dX11_isFlow_0 rfl (hl.at 0 rfl) ?_
  refine lv_iconst (v := 1) hx hb dX11_isFlow_1 (by decide) ?_
  refine lv_bipush (v := 20) hx hb dX11_isFlow_2 (by decide) ?_
  obtain ⟨v4, e4, hm⟩ := hw_bs hm
  refine hw_cRI (va_runS (As := [.int l0, .int (1 : Int32), .int (20 : Int32)]) (rest := []) ⟨hx, hb, hml, hown, hts⟩ (c11_isWithin l D e4) (cwS 3 hts (hw_gS hw_m99 hw_m100 hw_m2 hw_m101) rfl rfl rfl (by decide +kernel) ⟨(Nat.le_of_ble_eq_true rfl), (Nat.le_of_ble_eq_true rfl)⟩) (hw_pre0 hE) rfl rfl hl.sz rfl (lv_room (Nat.le_of_ble_eq_true rfl)) dX11_isFlow_4 ⟨(Nat.le_of_ble_eq_true rfl), (Nat.le_of_ble_eq_true rfl)⟩) ?_
  obtain ⟨_, z7, hm⟩ := hw_bs hm
  exact hw_rRZ hx hb hr hlk z7 hm dX11_isFlow_7
set_option maxRecDepth 100000 in
theorem c11_isFlow (l : Launch) (D : hw_D) {l0 : Int32} {r : Int32} (hm : m11_isFlow l0 = some r) : Met l yX11_isFlow (Cond.code yX11_isFlow cX11_isFlow 1 (some .boolean) :: wsL_law) rm11_isFlow (hw_P0 D [.int l0]) (hw_RI r) 0 0 hw_nof := by
  refine hw_start0 (by decide +kernel) (by exact Nat.le_of_ble_eq_true rfl) ?_
  intro p e s m below meth c ls C0 hl
  have hl : lv_has ls 1 [(0, .int l0)] := by exact hl
  exact w11_isFlow_s hm C0 ⟨hl, (List.forall_mem_cons.mpr ⟨(fun h => absurd (show (1 : Nat) = 2 from h) (by decide)), (fun _ h => absurd h List.not_mem_nil)⟩)⟩

abbrev rm11_isDoing : Room := { frames := 2, cells := 0, slots := 0, locals := 42 }
def m11_isDoing_b29 (t0 : Int32) : Option Int32 :=
  (hw_tf t0).bind fun _ =>
  some t0
set_option maxRecDepth 100000 in
theorem w11_isDoing_b29 {p : Program} {l : Launch} {e : Env} {s : State} {m : MethodId} {args : Array Value} {below : List Frame} {meth : Method} {c : Code} {D : hw_D} {r : Int32} (C0 : hw_C p s m args meth c D yX11_isDoing cX11_isDoing 1 (some .boolean)) {t0 : Int32} (hm : m11_isDoing_b29 t0 = some r) {ls : Array Slot} (hl : hw_L ls 1 255 []) : W p l e rm11_isDoing s m args below meth c s.heap [] 0 0 (MQ below (hw_RI r) args s 0 0 hw_nof) (F0 m 29 ls [.int t0]) := by
  obtain ⟨hx, hb, hml, hr, hown, hts, hlk, hE, hnm⟩ := id C0
  have hown : s.vm.findClass RX11 = some m.cls := hown
  unfold m11_isDoing_b29 at hm
  obtain ⟨_, z29, hm⟩ := hw_bs hm
  exact hw_rRZ hx hb hr hlk z29 hm dX11_isDoing_29
def m11_isDoing_b28 : Option Int32 :=
  m11_isDoing_b29 (0 : Int32)
set_option maxRecDepth 100000 in
theorem w11_isDoing_b28 {p : Program} {l : Launch} {e : Env} {s : State} {m : MethodId} {args : Array Value} {below : List Frame} {meth : Method} {c : Code} {D : hw_D} {r : Int32} (C0 : hw_C p s m args meth c D yX11_isDoing cX11_isDoing 1 (some .boolean)) (hm : m11_isDoing_b28  = some r) {ls : Array Slot} (hl : hw_L ls 1 255 []) : W p l e rm11_isDoing s m args below meth c s.heap [] 0 0 (MQ below (hw_RI r) args s 0 0 hw_nof) (F0 m 28 ls []) := by
  obtain ⟨hx, hb, hml, hr, hown, hts, hlk, hE, hnm⟩ := id C0
  have hown : s.vm.findClass RX11 = some m.cls := hown
  unfold m11_isDoing_b28 at hm
  refine lv_iconst (v := 0) hx hb dX11_isDoing_28 (by decide) ?_
  exact w11_isDoing_b29 C0 hm (hl.sub [] rfl)
def m11_isDoing (l0 : Int32) : Option Int32 :=
  (if l0 < 0 then
  m11_isDoing_b28 
  else
  (m11_heightOf l0).bind fun v5 =>
  (m11_isHeight v5).bind fun v8 =>
  (if v8 = 0 then
  m11_isDoing_b28 
  else
  (m11_flowOf l0).bind fun v15 =>
  (m11_isFlow v15).bind fun v18 =>
  (if v18 = 0 then
  m11_isDoing_b28 
  else
  m11_isDoing_b29 (1 : Int32))))
set_option maxRecDepth 100000 in
theorem w11_isDoing_s {p : Program} {l : Launch} {e : Env} {s : State} {m : MethodId} {args : Array Value} {below : List Frame} {meth : Method} {c : Code} {D : hw_D} {l0 : Int32} {r : Int32} (hm : m11_isDoing l0 = some r) (C0 : hw_C p s m args meth c D yX11_isDoing cX11_isDoing 1 (some .boolean)) {ls : Array Slot} (hl : hw_L ls 1 255 [(0, .int l0)]) : W p l e rm11_isDoing s m args below meth c s.heap [] 0 0 (MQ below (hw_RI r) args s 0 0 hw_nof) (F0 m 0 ls []) := by
  obtain ⟨hx, hb, hml, hr, hown, hts, hlk, hE, hnm⟩ := id C0
  have hown : s.vm.findClass RX11 = some m.cls := hown
  unfold m11_isDoing at hm
  refine lv_iload_n hx hb dX11_isDoing_0 rfl (hl.at 0 rfl) ?_
  refine lv_if_lt (tgt := 28) hx hb dX11_isDoing_1 (by decide) (fun c1 => ?_) (fun c1 => ?_)
  · have hm := hw_ip hm c1
    exact w11_isDoing_b28 C0 hm (hl.sub [] rfl)
  · have hm := hw_in hm c1
    refine lv_iload_n hx hb dX11_isDoing_4 rfl (hl.at 0 rfl) ?_
    obtain ⟨v5, e5, hm⟩ := hw_bs hm
    refine hw_cRI (va_runS (As := [.int l0]) (rest := []) ⟨hx, hb, hml, hown, hts⟩ (c11_heightOf l D e5) (cwS 1 hts (hw_gS hw_m445 hw_m446 hw_m2 hw_m447) rfl rfl rfl (by decide +kernel) ⟨(Nat.le_of_ble_eq_true rfl), (Nat.le_of_ble_eq_true rfl)⟩) (hw_pre0 hE) rfl rfl hl.sz rfl (lv_room (Nat.le_of_ble_eq_true rfl)) dX11_isDoing_5 ⟨(Nat.le_of_ble_eq_true rfl), (Nat.le_of_ble_eq_true rfl)⟩) ?_
    obtain ⟨v8, e8, hm⟩ := hw_bs hm
    refine hw_cRI (va_runS (As := [.int v5]) (rest := []) ⟨hx, hb, hml, hown, hts⟩ (c11_isHeight l D e8) (cwS 1 hts (hw_gS hw_m448 hw_m449 hw_m2 hw_m450) rfl rfl rfl (by decide +kernel) ⟨(Nat.le_of_ble_eq_true rfl), (Nat.le_of_ble_eq_true rfl)⟩) (hw_pre0 hE) rfl rfl hl.sz rfl (lv_room (Nat.le_of_ble_eq_true rfl)) dX11_isDoing_8 ⟨(Nat.le_of_ble_eq_true rfl), (Nat.le_of_ble_eq_true rfl)⟩) ?_
    refine lv_if_eq (tgt := 28) hx hb dX11_isDoing_11 (by decide) (fun c11 => ?_) (fun c11 => ?_)
    · have hm := hw_ip hm c11
      exact w11_isDoing_b28 C0 hm (hl.sub [] rfl)
    · have hm := hw_in hm c11
      refine lv_iload_n hx hb dX11_isDoing_14 rfl (hl.at 0 rfl) ?_
      obtain ⟨v15, e15, hm⟩ := hw_bs hm
      refine hw_cRI (va_runS (As := [.int l0]) (rest := []) ⟨hx, hb, hml, hown, hts⟩ (c11_flowOf l D e15) (cwS 1 hts (hw_gS hw_m451 hw_m452 hw_m2 hw_m453) rfl rfl rfl (by decide +kernel) ⟨(Nat.le_of_ble_eq_true rfl), (Nat.le_of_ble_eq_true rfl)⟩) (hw_pre0 hE) rfl rfl hl.sz rfl (lv_room (Nat.le_of_ble_eq_true rfl)) dX11_isDoing_15 ⟨(Nat.le_of_ble_eq_true rfl), (Nat.le_of_ble_eq_true rfl)⟩) ?_
      obtain ⟨v18, e18, hm⟩ := hw_bs hm
      refine hw_cRI (va_runS (As := [.int v15]) (rest := []) ⟨hx, hb, hml, hown, hts⟩ (c11_isFlow l D e18) (cwS 1 hts (hw_gS hw_m454 hw_m455 hw_m2 hw_m456) rfl rfl rfl (by decide +kernel) ⟨(Nat.le_of_ble_eq_true rfl), (Nat.le_of_ble_eq_true rfl)⟩) (hw_pre0 hE) rfl rfl hl.sz rfl (lv_room (Nat.le_of_ble_eq_true rfl)) dX11_isDoing_18 ⟨(Nat.le_of_ble_eq_true rfl), (Nat.le_of_ble_eq_true rfl)⟩) ?_
      refine lv_if_eq (tgt := 28) hx hb dX11_isDoing_21 (by decide) (fun c21 => ?_) (fun c21 => ?_)
      · have hm := hw_ip hm c21
        exact w11_isDoing_b28 C0 hm (hl.sub [] rfl)
      · have hm := hw_in hm c21
        refine lv_iconst (v := 1) hx hb dX11_isDoing_24 (by decide) ?_
        refine lv_goto (tgt := 29) hx hb dX11_isDoing_25 (by decide) ?_
        exact w11_isDoing_b29 C0 hm (hl.sub [] rfl)
set_option maxRecDepth 100000 in
theorem c11_isDoing (l : Launch) (D : hw_D) {l0 : Int32} {r : Int32} (hm : m11_isDoing l0 = some r) : Met l yX11_isDoing (Cond.code yX11_isDoing cX11_isDoing 1 (some .boolean) :: wsL_law) rm11_isDoing (hw_P0 D [.int l0]) (hw_RI r) 0 0 hw_nof := by
  refine hw_start0 (by decide +kernel) (by exact Nat.le_of_ble_eq_true rfl) ?_
  intro p e s m below meth c ls C0 hl
  have hl : lv_has ls 1 [(0, .int l0)] := by exact hl
  exact w11_isDoing_s hm C0 ⟨hl, (List.forall_mem_cons.mpr ⟨(fun h => absurd (show (1 : Nat) = 2 from h) (by decide)), (fun _ h => absurd h List.not_mem_nil)⟩)⟩

abbrev rm11_paceOf : Room := { frames := 0, cells := 0, slots := 0, locals := 0 }
def m11_paceOf (l0 : Int32) : Option Int32 :=
  (hw_rm l0 (100 : Int32)).bind fun v3 =>
  some v3
set_option maxRecDepth 100000 in
theorem w11_paceOf_s {p : Program} {l : Launch} {e : Env} {s : State} {m : MethodId} {args : Array Value} {below : List Frame} {meth : Method} {c : Code} {D : hw_D} {l0 : Int32} {r : Int32} (hm : m11_paceOf l0 = some r) (C0 : hw_C p s m args meth c D yX11_paceOf cX11_paceOf 1 (some .int)) {ls : Array Slot} (hl : hw_L ls 1 255 [(0, .int l0)]) : W p l e rm11_paceOf s m args below meth c s.heap [] 0 0 (MQ below (hw_RI r) args s 0 0 hw_nof) (F0 m 0 ls []) := by
  obtain ⟨hx, hb, hml, hr, hown, hts, hlk, hE, hnm⟩ := id C0
  have hown : s.vm.findClass RX11 = some m.cls := hown
  unfold m11_paceOf at hm
  refine lv_iload_n hx hb dX11_paceOf_0 rfl (hl.at 0 rfl) ?_
  refine lv_bipush (v := 100) hx hb dX11_paceOf_1 (by decide) ?_
  obtain ⟨v3, e3, hm⟩ := hw_bs hm
  refine hw_irem hx hb e3 dX11_paceOf_3 ?_
  exact hw_rRI hx hb hr hlk hm dX11_paceOf_4
set_option maxRecDepth 100000 in
theorem c11_paceOf (l : Launch) (D : hw_D) {l0 : Int32} {r : Int32} (hm : m11_paceOf l0 = some r) : Met l yX11_paceOf (Cond.code yX11_paceOf cX11_paceOf 1 (some .int) :: wsL_law) rm11_paceOf (hw_P0 D [.int l0]) (hw_RI r) 0 0 hw_nof := by
  refine hw_start0 (by decide +kernel) (by exact Nat.le_of_ble_eq_true rfl) ?_
  intro p e s m below meth c ls C0 hl
  have hl : lv_has ls 1 [(0, .int l0)] := by exact hl
  exact w11_paceOf_s hm C0 ⟨hl, (List.forall_mem_cons.mpr ⟨(fun h => absurd (show (1 : Nat) = 2 from h) (by decide)), (fun _ h => absurd h List.not_mem_nil)⟩)⟩

abbrev rm3_tested : Room := { frames := 0, cells := 0, slots := 0, locals := 0 }
def m3_tested (l0 : Int32) (l1 : Int32) (l2 : Int32) (l3 : Int32) (l4 : Option Nat) (σ : hw_S) : Option Int32 :=
  (if ((l0 >>> ((3 : Int32) &&& 31)) &&& (7 : Int32)) = 0 then
  some l1
  else
  (if ((l0 >>> ((3 : Int32) &&& 31)) &&& (7 : Int32)) = 1 then
  some l2
  else
  (if ((l0 >>> ((3 : Int32) &&& 31)) &&& (7 : Int32)) = 2 then
  some l3
  else
  (if ((l0 >>> ((3 : Int32) &&& 31)) &&& (7 : Int32)) = 3 then
  (hw_gI (hw_q 9) 0 l4 σ).bind fun v44 =>
  some v44
  else
  (hw_gI (hw_q 9) 1 l4 σ).bind fun v50 =>
  some v50))))
set_option maxRecDepth 100000 in
theorem w3_tested_s {p : Program} {l : Launch} {e : Env} {s : State} {m : MethodId} {args : Array Value} {below : List Frame} {meth : Method} {c : Code} {D : hw_D} {b : Nat} {l0 : Int32} {l1 : Int32} {l2 : Int32} {l3 : Int32} {l4 : Option Nat} {σ : hw_S} {r : Int32} (hm : m3_tested l0 l1 l2 l3 l4 σ = some r) (C0 : hw_C p s m args meth c D yX3_tested cX3_tested 5 (some .int)) (hR : hw_R D b σ s.heap) {ls : Array Slot} (hl : hw_L ls 5 255 [(0, .int l0), (1, .int l1), (2, .int l2), (3, .int l3), (4, hw_vr b l4)]) : W p l e rm3_tested s m args below meth c s.heap [] 0 0 (MQ below (hw_RI r) args s 0 0 hw_nof) (F0 m 0 ls []) := by
  obtain ⟨hx, hb, hml, hr, hown, hts, hlk, hE, hnm⟩ := id C0
  have hown : s.vm.findClass RX3 = some m.cls := hown
  have hK := hE.1
  unfold m3_tested at hm
  refine lv_iload_n hx hb dX3_tested_0 rfl (hl.at 0 rfl) ?_
  refine lv_iconst (v := 3) hx hb dX3_tested_1 (by decide) ?_
  refine lv_ishr hx hb dX3_tested_2 ?_
  refine lv_bipush (v := 7) hx hb dX3_tested_3 (by decide) ?_
  refine lv_iand hx hb dX3_tested_5 ?_
  refine hw_case ((l0 >>> ((3 : Int32) &&& 31)) &&& (7 : Int32)) (0) (fun c6_0 => ?_) (fun c6_0 => ?_)
  · have hm := hw_ip hm c6_0
    refine lv_tableIn (off := 30) (tgt := 36) hx hb dX3_tested_6 (by rw [c6_0]; decide) (by rw [c6_0]; decide) (by rw [c6_0]; rfl) (by decide) ?_
    refine lv_iload_n hx hb dX3_tested_36 rfl (hl.at 1 rfl) ?_
    exact hw_rRI hx hb hr hlk hm dX3_tested_37
  · have hm := hw_in hm c6_0
    refine hw_case ((l0 >>> ((3 : Int32) &&& 31)) &&& (7 : Int32)) (1) (fun c6_1 => ?_) (fun c6_1 => ?_)
    · have hm := hw_ip hm c6_1
      refine lv_tableIn (off := 32) (tgt := 38) hx hb dX3_tested_6 (by rw [c6_1]; decide) (by rw [c6_1]; decide) (by rw [c6_1]; rfl) (by decide) ?_
      refine lv_iload_n hx hb dX3_tested_38 rfl (hl.at 2 rfl) ?_
      exact hw_rRI hx hb hr hlk hm dX3_tested_39
    · have hm := hw_in hm c6_1
      refine hw_case ((l0 >>> ((3 : Int32) &&& 31)) &&& (7 : Int32)) (2) (fun c6_2 => ?_) (fun c6_2 => ?_)
      · have hm := hw_ip hm c6_2
        refine lv_tableIn (off := 34) (tgt := 40) hx hb dX3_tested_6 (by rw [c6_2]; decide) (by rw [c6_2]; decide) (by rw [c6_2]; rfl) (by decide) ?_
        refine lv_iload_n hx hb dX3_tested_40 rfl (hl.at 3 rfl) ?_
        exact hw_rRI hx hb hr hlk hm dX3_tested_41
      · have hm := hw_in hm c6_2
        refine hw_case ((l0 >>> ((3 : Int32) &&& 31)) &&& (7 : Int32)) (3) (fun c6_3 => ?_) (fun c6_3 => ?_)
        · have hm := hw_ip hm c6_3
          refine lv_tableIn (off := 36) (tgt := 42) hx hb dX3_tested_6 (by rw [c6_3]; decide) (by rw [c6_3]; decide) (by rw [c6_3]; rfl) (by decide) ?_
          refine hw_aload hx hb dX3_tested_42 (hl.at 4 rfl) ?_
          obtain ⟨v44, e44, hm⟩ := hw_bs hm
          refine hw_getI hx hb hw_cf9 hts hown hK hR e44 (by decide) rfl (hts _ hw_m470) (fun _ h9 => h9) dX3_tested_44 ?_
          exact hw_rRI hx hb hr hlk hm dX3_tested_47
        · have hm := hw_in hm c6_3
          refine lv_tableOut (tgt := 48) hx hb dX3_tested_6 (by have h0 := hw_ne (0) c6_0 rfl; have h1 := hw_ne (1) c6_1 rfl; have h2 := hw_ne (2) c6_2 rfl; have h3 := hw_ne (3) c6_3 rfl; omega) (by decide) ?_
          refine hw_aload hx hb dX3_tested_48 (hl.at 4 rfl) ?_
          obtain ⟨v50, e50, hm⟩ := hw_bs hm
          refine hw_getI hx hb hw_cf9 hts hown hK hR e50 (by decide) rfl (hts _ hw_m471) (fun _ h9 => h9) dX3_tested_50 ?_
          exact hw_rRI hx hb hr hlk hm dX3_tested_53
set_option maxRecDepth 100000 in
theorem c3_tested (l : Launch) (D : hw_D) (b : Nat) {l0 : Int32} {l1 : Int32} {l2 : Int32} {l3 : Int32} {l4 : Option Nat} {σ : hw_S} {r : Int32} (hm : m3_tested l0 l1 l2 l3 l4 σ = some r) : Met l yX3_tested (Cond.code yX3_tested cX3_tested 5 (some .int) :: wsL_law) rm3_tested (hw_P1 D b σ [.int l0, .int l1, .int l2, .int l3, hw_vr b l4]) (hw_RI r) 0 0 hw_nof := by
  refine hw_start1 (by decide +kernel) (by cases l4 <;> exact Nat.le_of_ble_eq_true rfl) ?_
  intro p e s m below meth c ls C0 hR hS hl
  have hl : lv_has ls 5 [(0, .int l0), (1, .int l1), (2, .int l2), (3, .int l3), (4, hw_vr b l4)] := by cases l4 <;> exact hl
  exact w3_tested_s hm C0 hR ⟨hl, (List.forall_mem_cons.mpr ⟨(fun h => absurd (show (1 : Nat) = 2 from h) (by decide)), (List.forall_mem_cons.mpr ⟨(fun h => absurd (show (1 : Nat) = 2 from h) (by decide)), (List.forall_mem_cons.mpr ⟨(fun h => absurd (show (1 : Nat) = 2 from h) (by decide)), (List.forall_mem_cons.mpr ⟨(fun h => absurd (show (1 : Nat) = 2 from h) (by decide)), (List.forall_mem_cons.mpr ⟨(fun h => by rw [show (hw_vr b l4 : Value).category = 1 from (hw_vr_cat _ _)] at h; cases h), (fun _ h => absurd h List.not_mem_nil)⟩)⟩)⟩)⟩)⟩)⟩

abbrev rm3_truth : Room := { frames := 0, cells := 0, slots := 0, locals := 0 }
def m3_truth_b46 (t0 : Int32) : Option Int32 :=
  some t0
set_option maxRecDepth 100000 in
theorem w3_truth_b46 {p : Program} {l : Launch} {e : Env} {s : State} {m : MethodId} {args : Array Value} {below : List Frame} {meth : Method} {c : Code} {D : hw_D} {r : Int32} (C0 : hw_C p s m args meth c D yX3_truth cX3_truth 3 (some .int)) {t0 : Int32} (hm : m3_truth_b46 t0 = some r) {ls : Array Slot} (hl : hw_L ls 3 255 []) : W p l e rm3_truth s m args below meth c s.heap [] 0 0 (MQ below (hw_RI r) args s 0 0 hw_nof) (F0 m 46 ls [.int t0]) := by
  obtain ⟨hx, hb, hml, hr, hown, hts, hlk, hE, hnm⟩ := id C0
  have hown : s.vm.findClass RX3 = some m.cls := hown
  unfold m3_truth_b46 at hm
  exact hw_rRI hx hb hr hlk hm dX3_truth_46
def m3_truth_b57 (t0 : Int32) : Option Int32 :=
  some t0
set_option maxRecDepth 100000 in
theorem w3_truth_b57 {p : Program} {l : Launch} {e : Env} {s : State} {m : MethodId} {args : Array Value} {below : List Frame} {meth : Method} {c : Code} {D : hw_D} {r : Int32} (C0 : hw_C p s m args meth c D yX3_truth cX3_truth 3 (some .int)) {t0 : Int32} (hm : m3_truth_b57 t0 = some r) {ls : Array Slot} (hl : hw_L ls 3 255 []) : W p l e rm3_truth s m args below meth c s.heap [] 0 0 (MQ below (hw_RI r) args s 0 0 hw_nof) (F0 m 57 ls [.int t0]) := by
  obtain ⟨hx, hb, hml, hr, hown, hts, hlk, hE, hnm⟩ := id C0
  have hown : s.vm.findClass RX3 = some m.cls := hown
  unfold m3_truth_b57 at hm
  exact hw_rRI hx hb hr hlk hm dX3_truth_57
def m3_truth_b68 (t0 : Int32) : Option Int32 :=
  some t0
set_option maxRecDepth 100000 in
theorem w3_truth_b68 {p : Program} {l : Launch} {e : Env} {s : State} {m : MethodId} {args : Array Value} {below : List Frame} {meth : Method} {c : Code} {D : hw_D} {r : Int32} (C0 : hw_C p s m args meth c D yX3_truth cX3_truth 3 (some .int)) {t0 : Int32} (hm : m3_truth_b68 t0 = some r) {ls : Array Slot} (hl : hw_L ls 3 255 []) : W p l e rm3_truth s m args below meth c s.heap [] 0 0 (MQ below (hw_RI r) args s 0 0 hw_nof) (F0 m 68 ls [.int t0]) := by
  obtain ⟨hx, hb, hml, hr, hown, hts, hlk, hE, hnm⟩ := id C0
  have hown : s.vm.findClass RX3 = some m.cls := hown
  unfold m3_truth_b68 at hm
  exact hw_rRI hx hb hr hlk hm dX3_truth_68
def m3_truth (l0 : Int32) (l1 : Int32) : Option Int32 :=
  (if ((l0 >>> ((6 : Int32) &&& 31)) &&& (3 : Int32)) = 0 then
  (if (l0 >>> ((8 : Int32) &&& 31)) ≤ l1 then
  m3_truth_b46 (0 : Int32)
  else
  m3_truth_b46 (1 : Int32))
  else
  (if ((l0 >>> ((6 : Int32) &&& 31)) &&& (3 : Int32)) = 1 then
  (if l1 = (l0 >>> ((8 : Int32) &&& 31)) then
  m3_truth_b57 (1 : Int32)
  else
  m3_truth_b57 (0 : Int32))
  else
  (if l1 ≤ (l0 >>> ((8 : Int32) &&& 31)) then
  m3_truth_b68 (0 : Int32)
  else
  m3_truth_b68 (1 : Int32))))
set_option maxRecDepth 100000 in
theorem w3_truth_s {p : Program} {l : Launch} {e : Env} {s : State} {m : MethodId} {args : Array Value} {below : List Frame} {meth : Method} {c : Code} {D : hw_D} {l0 : Int32} {l1 : Int32} {r : Int32} (hm : m3_truth l0 l1 = some r) (C0 : hw_C p s m args meth c D yX3_truth cX3_truth 3 (some .int)) {ls : Array Slot} (hl : hw_L ls 3 255 [(0, .int l0), (1, .int l1)]) : W p l e rm3_truth s m args below meth c s.heap [] 0 0 (MQ below (hw_RI r) args s 0 0 hw_nof) (F0 m 0 ls []) := by
  obtain ⟨hx, hb, hml, hr, hown, hts, hlk, hE, hnm⟩ := id C0
  have hown : s.vm.findClass RX3 = some m.cls := hown
  unfold m3_truth at hm
  refine lv_iload_n hx hb dX3_truth_0 rfl (hl.at 0 rfl) ?_
  refine lv_bipush (v := 8) hx hb dX3_truth_1 (by decide) ?_
  refine lv_ishr hx hb dX3_truth_3 ?_
  refine hw_istore_n (lv' := [(2, .int (l0 >>> ((8 : Int32) &&& 31))), (0, .int l0), (1, .int l1)]) hx hb dX3_truth_4 rfl hl (by decide) (by decide) rfl (fun ls hl => ?_)
  refine lv_iload_n hx hb dX3_truth_5 rfl (hl.at 1 rfl) ?_
  refine lv_bipush (v := 6) hx hb dX3_truth_6 (by decide) ?_
  refine lv_ishr hx hb dX3_truth_8 ?_
  refine lv_iconst (v := 3) hx hb dX3_truth_9 (by decide) ?_
  refine lv_iand hx hb dX3_truth_10 ?_
  refine hw_case ((l0 >>> ((6 : Int32) &&& 31)) &&& (3 : Int32)) (0) (fun c11_0 => ?_) (fun c11_0 => ?_)
  · have hm := hw_ip hm c11_0
    refine lv_lookup (off := 25) (tgt := 36) hx hb dX3_truth_11 (by decide) (by rw [c11_0]; decide) (by decide) ?_
    refine lv_iload_n hx hb dX3_truth_36 rfl (hl.at 2 rfl) ?_
    refine lv_iload_n hx hb dX3_truth_37 rfl (hl.at 0 rfl) ?_
    refine lv_icmp_ge (tgt := 45) hx hb dX3_truth_38 (by decide) (fun c38 => ?_) (fun c38 => ?_)
    · have hm := hw_ip hm c38
      refine lv_iconst (v := 0) hx hb dX3_truth_45 (by decide) ?_
      exact w3_truth_b46 C0 hm (hl.sub [] rfl)
    · have hm := hw_in hm c38
      refine lv_iconst (v := 1) hx hb dX3_truth_41 (by decide) ?_
      refine lv_goto (tgt := 46) hx hb dX3_truth_42 (by decide) ?_
      exact w3_truth_b46 C0 hm (hl.sub [] rfl)
  · have hm := hw_in hm c11_0
    refine hw_case ((l0 >>> ((6 : Int32) &&& 31)) &&& (3 : Int32)) (1) (fun c11_1 => ?_) (fun c11_1 => ?_)
    · have hm := hw_ip hm c11_1
      refine lv_lookup (off := 36) (tgt := 47) hx hb dX3_truth_11 (by decide) (by rw [c11_1]; decide) (by decide) ?_
      refine lv_iload_n hx hb dX3_truth_47 rfl (hl.at 2 rfl) ?_
      refine lv_iload_n hx hb dX3_truth_48 rfl (hl.at 0 rfl) ?_
      refine lv_icmp_ne (tgt := 56) hx hb dX3_truth_49 (by decide) (fun c49 => ?_) (fun c49 => ?_)
      · have hm := hw_in hm c49
        refine lv_iconst (v := 0) hx hb dX3_truth_56 (by decide) ?_
        exact w3_truth_b57 C0 hm (hl.sub [] rfl)
      · have hm := hw_ip hm c49
        refine lv_iconst (v := 1) hx hb dX3_truth_52 (by decide) ?_
        refine lv_goto (tgt := 57) hx hb dX3_truth_53 (by decide) ?_
        exact w3_truth_b57 C0 hm (hl.sub [] rfl)
    · have hm := hw_in hm c11_1
      refine lv_lookup (off := 47) (tgt := 58) hx hb dX3_truth_11 (by decide) (by show Op.lookupswitch.offset [(0, 25), (1, 36)] _ _ = _; rw [lv_osw c11_0 (a := 0) rfl, lv_osw c11_1 (a := 1) rfl]; rfl) (by decide) ?_
      refine lv_iload_n hx hb dX3_truth_58 rfl (hl.at 2 rfl) ?_
      refine lv_iload_n hx hb dX3_truth_59 rfl (hl.at 0 rfl) ?_
      refine lv_icmp_le (tgt := 67) hx hb dX3_truth_60 (by decide) (fun c60 => ?_) (fun c60 => ?_)
      · have hm := hw_ip hm c60
        refine lv_iconst (v := 0) hx hb dX3_truth_67 (by decide) ?_
        exact w3_truth_b68 C0 hm (hl.sub [] rfl)
      · have hm := hw_in hm c60
        refine lv_iconst (v := 1) hx hb dX3_truth_63 (by decide) ?_
        refine lv_goto (tgt := 68) hx hb dX3_truth_64 (by decide) ?_
        exact w3_truth_b68 C0 hm (hl.sub [] rfl)
set_option maxRecDepth 100000 in
theorem c3_truth (l : Launch) (D : hw_D) {l0 : Int32} {l1 : Int32} {r : Int32} (hm : m3_truth l0 l1 = some r) : Met l yX3_truth (Cond.code yX3_truth cX3_truth 3 (some .int) :: wsL_law) rm3_truth (hw_P0 D [.int l0, .int l1]) (hw_RI r) 0 0 hw_nof := by
  refine hw_start0 (by decide +kernel) (by exact Nat.le_of_ble_eq_true rfl) ?_
  intro p e s m below meth c ls C0 hl
  have hl : lv_has ls 3 [(0, .int l0), (1, .int l1)] := by exact hl
  exact w3_truth_s hm C0 ⟨hl, (List.forall_mem_cons.mpr ⟨(fun h => absurd (show (1 : Nat) = 2 from h) (by decide)), (List.forall_mem_cons.mpr ⟨(fun h => absurd (show (1 : Nat) = 2 from h) (by decide)), (fun _ h => absurd h List.not_mem_nil)⟩)⟩)⟩

abbrev rm3_baseIn : Room := { frames := 1, cells := 0, slots := 0, locals := 24 }
def m3_baseIn_b215 (k26 : Nat → Option Nat → Int32 → Int32 → Int32 → Int32 → Int32 → Int32 → hw_S → Option Int32) (x0 : Nat) (l1 : Option Nat) (l3 : Int32) (l4 : Int32) (l5 : Int32) (l6 : Int32) (l7 : Int32) (l8 : Int32) (σ : hw_S) : Option Int32 :=
  k26 x0 l1 l3 l4 l5 l6 l7 (l8 + 1) σ
set_option maxRecDepth 100000 in
theorem w3_baseIn_b215 {p : Program} {l : Launch} {e : Env} {s : State} {m : MethodId} {args : Array Value} {below : List Frame} {meth : Method} {c : Code} {D : hw_D} {b : Nat} {k26 : Nat → Option Nat → Int32 → Int32 → Int32 → Int32 → Int32 → Int32 → hw_S → Option Int32} {r : Int32} (C0 : hw_C p s m args meth c D yX3_baseIn cX3_baseIn 11 (some .int)) (hk26 : ∀ {x0 : Nat} {l1 : Option Nat} {l3 : Int32} {l4 : Int32} {l5 : Int32} {l6 : Int32} {l7 : Int32} {l8 : Int32} {σ : hw_S} {ls : Array Slot}, k26 x0 l1 l3 l4 l5 l6 l7 l8 σ = some r → hw_R D b σ s.heap → hw_L ls 11 255 [(0, hw_vr b (some x0)), (1, hw_vr b l1), (3, .int l3), (4, .int l4), (5, .int l5), (6, .int l6), (7, .int l7), (8, .int l8)] → W p l e rm3_baseIn s m args below meth c s.heap [] 0 0 (MQ below (hw_RI r) args s 0 0 hw_nof) (F0 m 26 ls [])) {x0 : Nat} {l1 : Option Nat} {l3 : Int32} {l4 : Int32} {l5 : Int32} {l6 : Int32} {l7 : Int32} {l8 : Int32} {σ : hw_S} (hm : m3_baseIn_b215 k26 x0 l1 l3 l4 l5 l6 l7 l8 σ = some r) (hR : hw_R D b σ s.heap) {ls : Array Slot} (hl : hw_L ls 11 255 [(0, hw_vr b (some x0)), (1, hw_vr b l1), (3, .int l3), (4, .int l4), (5, .int l5), (6, .int l6), (7, .int l7), (8, .int l8)]) : W p l e rm3_baseIn s m args below meth c s.heap [] 0 0 (MQ below (hw_RI r) args s 0 0 hw_nof) (F0 m 215 ls []) := by
  obtain ⟨hx, hb, hml, hr, hown, hts, hlk, hE, hnm⟩ := id C0
  have hown : s.vm.findClass RX3 = some m.cls := hown
  have hK := hE.1
  unfold m3_baseIn_b215 at hm
  refine hw_iinc (v := (l8 + 1)) (lv' := [(8, .int (l8 + 1)), (0, hw_vr b (some x0)), (1, hw_vr b l1), (3, .int l3), (4, .int l4), (5, .int l5), (6, .int l6), (7, .int l7)]) hx hb dX3_baseIn_215 hl (k := 7) rfl rfl (by decide) (by decide) rfl (fun ls hl => ?_)
  refine lv_goto (tgt := 26) hx hb dX3_baseIn_218 (by decide) ?_
  exact hk26 hm hR (hl.sub [1, 2, 3, 4, 5, 6, 7, 0] rfl)
def m3_baseIn_b165 (k26 : Nat → Option Nat → Int32 → Int32 → Int32 → Int32 → Int32 → Int32 → hw_S → Option Int32) (x0 : Nat) (l1 : Option Nat) (l3 : Int32) (l4 : Int32) (l5 : Int32) (l6 : Int32) (l8 : Int32) (t0 : Int32) (t1 : Int32) (σ : hw_S) : Option Int32 :=
  m3_baseIn_b215 k26 x0 l1 l3 l4 l5 l6 (t0 &&& t1) l8 σ
set_option maxRecDepth 100000 in
theorem w3_baseIn_b165 {p : Program} {l : Launch} {e : Env} {s : State} {m : MethodId} {args : Array Value} {below : List Frame} {meth : Method} {c : Code} {D : hw_D} {b : Nat} {k26 : Nat → Option Nat → Int32 → Int32 → Int32 → Int32 → Int32 → Int32 → hw_S → Option Int32} {r : Int32} (C0 : hw_C p s m args meth c D yX3_baseIn cX3_baseIn 11 (some .int)) (hk26 : ∀ {x0 : Nat} {l1 : Option Nat} {l3 : Int32} {l4 : Int32} {l5 : Int32} {l6 : Int32} {l7 : Int32} {l8 : Int32} {σ : hw_S} {ls : Array Slot}, k26 x0 l1 l3 l4 l5 l6 l7 l8 σ = some r → hw_R D b σ s.heap → hw_L ls 11 255 [(0, hw_vr b (some x0)), (1, hw_vr b l1), (3, .int l3), (4, .int l4), (5, .int l5), (6, .int l6), (7, .int l7), (8, .int l8)] → W p l e rm3_baseIn s m args below meth c s.heap [] 0 0 (MQ below (hw_RI r) args s 0 0 hw_nof) (F0 m 26 ls [])) {x0 : Nat} {l1 : Option Nat} {l3 : Int32} {l4 : Int32} {l5 : Int32} {l6 : Int32} {l8 : Int32} {t0 : Int32} {t1 : Int32} {σ : hw_S} (hm : m3_baseIn_b165 k26 x0 l1 l3 l4 l5 l6 l8 t0 t1 σ = some r) (hR : hw_R D b σ s.heap) {ls : Array Slot} (hl : hw_L ls 11 255 [(0, hw_vr b (some x0)), (1, hw_vr b l1), (3, .int l3), (4, .int l4), (5, .int l5), (6, .int l6), (8, .int l8)]) : W p l e rm3_baseIn s m args below meth c s.heap [] 0 0 (MQ below (hw_RI r) args s 0 0 hw_nof) (F0 m 165 ls [.int t1, .int t0]) := by
  obtain ⟨hx, hb, hml, hr, hown, hts, hlk, hE, hnm⟩ := id C0
  have hown : s.vm.findClass RX3 = some m.cls := hown
  have hK := hE.1
  unfold m3_baseIn_b165 at hm
  refine lv_iand hx hb dX3_baseIn_165 ?_
  refine hw_istore (lv' := [(7, .int (t0 &&& t1)), (0, hw_vr b (some x0)), (1, hw_vr b l1), (3, .int l3), (4, .int l4), (5, .int l5), (6, .int l6), (8, .int l8)]) hx hb dX3_baseIn_166 hl (by decide) (by decide) rfl (fun ls hl => ?_)
  refine lv_goto (tgt := 215) hx hb dX3_baseIn_168 (by decide) ?_
  exact w3_baseIn_b215 C0 hk26 hm hR (hl.sub [1, 2, 3, 4, 5, 6, 0, 7] rfl)
def m3_baseIn_b26 : Nat → Nat → Option Nat → Int32 → Int32 → Int32 → Int32 → Int32 → Int32 → hw_S → Option Int32
  | 0, _, _, _, _, _, _, _, _, _ => none
  | n + 1, x0, l1, l3, l4, l5, l6, l7, l8, σ =>
  (hw_gP hw_qL 6 (some x0) σ).bind fun v29 =>
  (hw_aL v29 σ).bind fun v32 =>
  (if v32 ≤ l8 then
  some (hw_max (1 : Int32) l6)
  else
  (hw_gP hw_qL 6 (some x0) σ).bind fun v37 =>
  (hw_aI 0 v37 l8 σ).bind fun v42 =>
  (hw_gP hw_qL 6 (some x0) σ).bind fun v55 =>
  (hw_aI 0 v55 l8 σ).bind fun v60 =>
  (if (v60 &&& (7 : Int32)) = 0 then
  (hw_gP hw_qL 6 (some x0) σ).bind fun v109 =>
  (hw_aI 0 v109 l8 σ).bind fun v114 =>
  (hw_gP hw_qL 6 (some x0) σ).bind fun v116 =>
  (hw_aI 0 v116 l8 σ).bind fun v121 =>
  (m3_tested v121 l3 l4 l5 l1 σ).bind fun v128 =>
  (m3_truth v114 v128).bind fun v131 =>
  m3_baseIn_b215 (m3_baseIn_b26 n) x0 l1 l3 l4 l5 l6 ((l7 <<< ((1 : Int32) &&& 31)) ||| v131) l8 σ
  else
  (if (v60 &&& (7 : Int32)) = 1 then
  m3_baseIn_b215 (m3_baseIn_b26 n) x0 l1 l3 l4 l5 l6 (l7 ^^^ (1 : Int32)) l8 σ
  else
  (if (v60 &&& (7 : Int32)) = 2 then
  (if (l7 &&& (1 : Int32)) = (1 : Int32) then
  m3_baseIn_b165 (m3_baseIn_b26 n) x0 l1 l3 l4 l5 l6 l8 (l7 >>> ((1 : Int32) &&& 31)) ((-1) : Int32) σ
  else
  m3_baseIn_b165 (m3_baseIn_b26 n) x0 l1 l3 l4 l5 l6 l8 (l7 >>> ((1 : Int32) &&& 31)) ((-2) : Int32) σ)
  else
  (if (v60 &&& (7 : Int32)) = 3 then
  m3_baseIn_b215 (m3_baseIn_b26 n) x0 l1 l3 l4 l5 l6 ((l7 >>> ((1 : Int32) &&& 31)) ||| (l7 &&& (1 : Int32))) l8 σ
  else
  (if (v60 &&& (7 : Int32)) = 4 then
  m3_baseIn_b215 (m3_baseIn_b26 n) x0 l1 l3 l4 l5 (l6 + ((l7 &&& (1 : Int32)) * (v42 >>> ((8 : Int32) &&& 31)))) (0 : Int32) l8 σ
  else
  (if (v60 &&& (7 : Int32)) = 5 then
  m3_baseIn_b215 (m3_baseIn_b26 n) x0 l1 l3 l4 l5 (l6 - ((l7 &&& (1 : Int32)) * (v42 >>> ((8 : Int32) &&& 31)))) (0 : Int32) l8 σ
  else
  m3_baseIn_b215 (m3_baseIn_b26 n) x0 l1 l3 l4 l5 l6 l7 l8 σ)))))))
set_option maxRecDepth 100000 in
theorem w3_baseIn_b26 {p : Program} {l : Launch} {e : Env} {s : State} {m : MethodId} {args : Array Value} {below : List Frame} {meth : Method} {c : Code} {D : hw_D} {b : Nat} {r : Int32} (C0 : hw_C p s m args meth c D yX3_baseIn cX3_baseIn 11 (some .int)) : ∀ (n : Nat) {x0 : Nat} {l1 : Option Nat} {l3 : Int32} {l4 : Int32} {l5 : Int32} {l6 : Int32} {l7 : Int32} {l8 : Int32} {σ : hw_S} {ls : Array Slot}, m3_baseIn_b26 n x0 l1 l3 l4 l5 l6 l7 l8 σ = some r → hw_R D b σ s.heap → hw_L ls 11 255 [(0, hw_vr b (some x0)), (1, hw_vr b l1), (3, .int l3), (4, .int l4), (5, .int l5), (6, .int l6), (7, .int l7), (8, .int l8)] → W p l e rm3_baseIn s m args below meth c s.heap [] 0 0 (MQ below (hw_RI r) args s 0 0 hw_nof) (F0 m 26 ls []) := by
  obtain ⟨hx, hb, hml, hr, hown, hts, hlk, hE, hnm⟩ := id C0
  have hown : s.vm.findClass RX3 = some m.cls := hown
  have hK := hE.1
  intro n
  induction n with
  | zero => intro _ _ _ _ _ _ _ _ _ _ hm; cases hm
  | succ n ih =>
    intro x0 l1 l3 l4 l5 l6 l7 l8 σ ls hm hR hl
    rw [m3_baseIn_b26] at hm
    refine lv_iload hx hb dX3_baseIn_26 (hl.at 7 rfl) ?_
    refine hw_aload_n hx hb dX3_baseIn_28 rfl (hl.at 0 rfl) ?_
    obtain ⟨v29, e29, hm⟩ := hw_bs hm
    refine hw_getP hx hb hw_cfL hts hown hK hR e29 (by decide) rfl (hts _ hw_m305) (fun _ h9 => h9) dX3_baseIn_29 ?_
    obtain ⟨v32, e32, hm⟩ := hw_bs hm
    refine hw_alen hx hb hK hR e32 dX3_baseIn_32 ?_
    refine lv_icmp_ge (tgt := 221) hx hb dX3_baseIn_33 (by decide) (fun c33 => ?_) (fun c33 => ?_)
    · have hm := hw_ip hm c33
      refine lv_iconst (v := 1) hx hb dX3_baseIn_221 (by decide) ?_
      refine lv_iload hx hb dX3_baseIn_222 (hl.at 5 rfl) ?_
      refine hw_mmax hx hb hml hl hown (hts _ hw_m462) (hts _ hw_m463) (hts _ hw_m157) (hts _ hw_m464) (Nat.le_of_ble_eq_true rfl) ⟨Nat.le_of_ble_eq_true rfl, (Nat.le_of_ble_eq_true rfl)⟩ (Nat.le_of_ble_eq_true rfl) (Nat.le_of_ble_eq_true rfl) dX3_baseIn_224 ?_
      exact hw_rRI hx hb hr hlk hm dX3_baseIn_227
    · have hm := hw_in hm c33
      refine hw_aload_n hx hb dX3_baseIn_36 rfl (hl.at 0 rfl) ?_
      obtain ⟨v37, e37, hm⟩ := hw_bs hm
      refine hw_getP hx hb hw_cfL hts hown hK hR e37 (by decide) rfl (hts _ hw_m305) (fun _ h9 => h9) dX3_baseIn_37 ?_
      refine lv_iload hx hb dX3_baseIn_40 (hl.at 7 rfl) ?_
      obtain ⟨v42, e42, hm⟩ := hw_bs hm
      refine hw_iald hx hb hK hR e42 dX3_baseIn_42 ?_
      refine lv_bipush (v := 8) hx hb dX3_baseIn_43 (by decide) ?_
      refine lv_ishr hx hb dX3_baseIn_45 ?_
      refine hw_istore (lv' := [(9, .int (v42 >>> ((8 : Int32) &&& 31))), (0, hw_vr b (some x0)), (1, hw_vr b l1), (3, .int l3), (4, .int l4), (5, .int l5), (6, .int l6), (7, .int l7), (8, .int l8)]) hx hb dX3_baseIn_46 hl (by decide) (by decide) rfl (fun ls hl => ?_)
      refine lv_iload hx hb dX3_baseIn_48 (hl.at 7 rfl) ?_
      refine lv_iconst (v := 1) hx hb dX3_baseIn_50 (by decide) ?_
      refine lv_iand hx hb dX3_baseIn_51 ?_
      refine hw_istore (lv' := [(10, .int (l7 &&& (1 : Int32))), (9, .int (v42 >>> ((8 : Int32) &&& 31))), (0, hw_vr b (some x0)), (1, hw_vr b l1), (3, .int l3), (4, .int l4), (5, .int l5), (6, .int l6), (7, .int l7), (8, .int l8)]) hx hb dX3_baseIn_52 hl (by decide) (by decide) rfl (fun ls hl => ?_)
      refine hw_aload_n hx hb dX3_baseIn_54 rfl (hl.at 2 rfl) ?_
      obtain ⟨v55, e55, hm⟩ := hw_bs hm
      refine hw_getP hx hb hw_cfL hts hown hK hR e55 (by decide) rfl (hts _ hw_m305) (fun _ h9 => h9) dX3_baseIn_55 ?_
      refine lv_iload hx hb dX3_baseIn_58 (hl.at 9 rfl) ?_
      obtain ⟨v60, e60, hm⟩ := hw_bs hm
      refine hw_iald hx hb hK hR e60 dX3_baseIn_60 ?_
      refine lv_bipush (v := 7) hx hb dX3_baseIn_61 (by decide) ?_
      refine lv_iand hx hb dX3_baseIn_63 ?_
      refine hw_case (v60 &&& (7 : Int32)) (0) (fun c64_0 => ?_) (fun c64_0 => ?_)
      · have hm := hw_ip hm c64_0
        refine lv_tableIn (off := 40) (tgt := 104) hx hb dX3_baseIn_64 (by rw [c64_0]; decide) (by rw [c64_0]; decide) (by rw [c64_0]; rfl) (by decide) ?_
        refine lv_iload hx hb dX3_baseIn_104 (hl.at 8 rfl) ?_
        refine lv_iconst (v := 1) hx hb dX3_baseIn_106 (by decide) ?_
        refine lv_ishl hx hb dX3_baseIn_107 ?_
        refine hw_aload_n hx hb dX3_baseIn_108 rfl (hl.at 2 rfl) ?_
        obtain ⟨v109, e109, hm⟩ := hw_bs hm
        refine hw_getP hx hb hw_cfL hts hown hK hR e109 (by decide) rfl (hts _ hw_m305) (fun _ h9 => h9) dX3_baseIn_109 ?_
        refine lv_iload hx hb dX3_baseIn_112 (hl.at 9 rfl) ?_
        obtain ⟨v114, e114, hm⟩ := hw_bs hm
        refine hw_iald hx hb hK hR e114 dX3_baseIn_114 ?_
        refine hw_aload_n hx hb dX3_baseIn_115 rfl (hl.at 2 rfl) ?_
        obtain ⟨v116, e116, hm⟩ := hw_bs hm
        refine hw_getP hx hb hw_cfL hts hown hK hR e116 (by decide) rfl (hts _ hw_m305) (fun _ h9 => h9) dX3_baseIn_116 ?_
        refine lv_iload hx hb dX3_baseIn_119 (hl.at 9 rfl) ?_
        obtain ⟨v121, e121, hm⟩ := hw_bs hm
        refine hw_iald hx hb hK hR e121 dX3_baseIn_121 ?_
        refine lv_iload_n hx hb dX3_baseIn_122 rfl (hl.at 4 rfl) ?_
        refine lv_iload hx hb dX3_baseIn_123 (hl.at 5 rfl) ?_
        refine lv_iload hx hb dX3_baseIn_125 (hl.at 6 rfl) ?_
        refine hw_aload_n hx hb dX3_baseIn_127 rfl (hl.at 3 rfl) ?_
        obtain ⟨v128, e128, hm⟩ := hw_bs hm
        refine hw_cRI (va_runS (As := [.int v121, .int l3, .int l4, .int l5, hw_vr b l1]) (rest := [.int v114, .int (l7 <<< ((1 : Int32) &&& 31))]) ⟨hx, hb, hml, hown, hts⟩ (c3_tested l D b e128) (cwS 5 hts (hw_gS hw_m467 hw_m468 hw_m285 hw_m469) rfl rfl rfl (by decide +kernel) ⟨(Nat.le_of_ble_eq_true rfl), (Nat.le_of_ble_eq_true rfl)⟩) (hw_pre1 hE hR) rfl rfl hl.sz rfl (lv_room (Nat.le_of_ble_eq_true rfl)) dX3_baseIn_128 ⟨(Nat.le_of_ble_eq_true rfl), (Nat.le_of_ble_eq_true rfl)⟩) ?_
        obtain ⟨v131, e131, hm⟩ := hw_bs hm
        refine hw_cRI (va_runS (As := [.int v114, .int v128]) (rest := [.int (l7 <<< ((1 : Int32) &&& 31))]) ⟨hx, hb, hml, hown, hts⟩ (c3_truth l D e131) (cwS 2 hts (hw_gS hw_m472 hw_m473 hw_m285 hw_m474) rfl rfl rfl (by decide +kernel) ⟨(Nat.le_of_ble_eq_true rfl), (Nat.le_of_ble_eq_true rfl)⟩) (hw_pre0 hE) rfl rfl hl.sz rfl (lv_room (Nat.le_of_ble_eq_true rfl)) dX3_baseIn_131 ⟨(Nat.le_of_ble_eq_true rfl), (Nat.le_of_ble_eq_true rfl)⟩) ?_
        refine lv_ior hx hb dX3_baseIn_134 ?_
        refine hw_istore (lv' := [(7, .int ((l7 <<< ((1 : Int32) &&& 31)) ||| v131)), (10, .int (l7 &&& (1 : Int32))), (9, .int (v42 >>> ((8 : Int32) &&& 31))), (0, hw_vr b (some x0)), (1, hw_vr b l1), (3, .int l3), (4, .int l4), (5, .int l5), (6, .int l6), (8, .int l8)]) hx hb dX3_baseIn_135 hl (by decide) (by decide) rfl (fun ls hl => ?_)
        refine lv_goto (tgt := 215) hx hb dX3_baseIn_137 (by decide) ?_
        exact w3_baseIn_b215 C0 ih hm hR (hl.sub [3, 4, 5, 6, 7, 8, 0, 9] rfl)
      · have hm := hw_in hm c64_0
        refine hw_case (v60 &&& (7 : Int32)) (1) (fun c64_1 => ?_) (fun c64_1 => ?_)
        · have hm := hw_ip hm c64_1
          refine lv_tableIn (off := 76) (tgt := 140) hx hb dX3_baseIn_64 (by rw [c64_1]; decide) (by rw [c64_1]; decide) (by rw [c64_1]; rfl) (by decide) ?_
          refine lv_iload hx hb dX3_baseIn_140 (hl.at 8 rfl) ?_
          refine lv_iconst (v := 1) hx hb dX3_baseIn_142 (by decide) ?_
          refine lv_ixor hx hb dX3_baseIn_143 ?_
          refine hw_istore (lv' := [(7, .int (l7 ^^^ (1 : Int32))), (10, .int (l7 &&& (1 : Int32))), (9, .int (v42 >>> ((8 : Int32) &&& 31))), (0, hw_vr b (some x0)), (1, hw_vr b l1), (3, .int l3), (4, .int l4), (5, .int l5), (6, .int l6), (8, .int l8)]) hx hb dX3_baseIn_144 hl (by decide) (by decide) rfl (fun ls hl => ?_)
          refine lv_goto (tgt := 215) hx hb dX3_baseIn_146 (by decide) ?_
          exact w3_baseIn_b215 C0 ih hm hR (hl.sub [3, 4, 5, 6, 7, 8, 0, 9] rfl)
        · have hm := hw_in hm c64_1
          refine hw_case (v60 &&& (7 : Int32)) (2) (fun c64_2 => ?_) (fun c64_2 => ?_)
          · have hm := hw_ip hm c64_2
            refine lv_tableIn (off := 85) (tgt := 149) hx hb dX3_baseIn_64 (by rw [c64_2]; decide) (by rw [c64_2]; decide) (by rw [c64_2]; rfl) (by decide) ?_
            refine lv_iload hx hb dX3_baseIn_149 (hl.at 8 rfl) ?_
            refine lv_iconst (v := 1) hx hb dX3_baseIn_151 (by decide) ?_
            refine lv_ishr hx hb dX3_baseIn_152 ?_
            refine lv_iload hx hb dX3_baseIn_153 (hl.at 0 rfl) ?_
            refine lv_iconst (v := 1) hx hb dX3_baseIn_155 (by decide) ?_
            refine lv_icmp_ne (tgt := 163) hx hb dX3_baseIn_156 (by decide) (fun c156 => ?_) (fun c156 => ?_)
            · have hm := hw_in hm c156
              refine lv_bipush (v := (-2)) hx hb dX3_baseIn_163 (by decide) ?_
              exact w3_baseIn_b165 C0 ih hm hR (hl.sub [2, 3, 4, 5, 6, 7, 9] rfl)
            · have hm := hw_ip hm c156
              refine lv_iconst (v := (-1)) hx hb dX3_baseIn_159 (by decide) ?_
              refine lv_goto (tgt := 165) hx hb dX3_baseIn_160 (by decide) ?_
              exact w3_baseIn_b165 C0 ih hm hR (hl.sub [2, 3, 4, 5, 6, 7, 9] rfl)
          · have hm := hw_in hm c64_2
            refine hw_case (v60 &&& (7 : Int32)) (3) (fun c64_3 => ?_) (fun c64_3 => ?_)
            · have hm := hw_ip hm c64_3
              refine lv_tableIn (off := 107) (tgt := 171) hx hb dX3_baseIn_64 (by rw [c64_3]; decide) (by rw [c64_3]; decide) (by rw [c64_3]; rfl) (by decide) ?_
              refine lv_iload hx hb dX3_baseIn_171 (hl.at 8 rfl) ?_
              refine lv_iconst (v := 1) hx hb dX3_baseIn_173 (by decide) ?_
              refine lv_ishr hx hb dX3_baseIn_174 ?_
              refine lv_iload hx hb dX3_baseIn_175 (hl.at 0 rfl) ?_
              refine lv_ior hx hb dX3_baseIn_177 ?_
              refine hw_istore (lv' := [(7, .int ((l7 >>> ((1 : Int32) &&& 31)) ||| (l7 &&& (1 : Int32)))), (10, .int (l7 &&& (1 : Int32))), (9, .int (v42 >>> ((8 : Int32) &&& 31))), (0, hw_vr b (some x0)), (1, hw_vr b l1), (3, .int l3), (4, .int l4), (5, .int l5), (6, .int l6), (8, .int l8)]) hx hb dX3_baseIn_178 hl (by decide) (by decide) rfl (fun ls hl => ?_)
              refine lv_goto (tgt := 215) hx hb dX3_baseIn_180 (by decide) ?_
              exact w3_baseIn_b215 C0 ih hm hR (hl.sub [3, 4, 5, 6, 7, 8, 0, 9] rfl)
            · have hm := hw_in hm c64_3
              refine hw_case (v60 &&& (7 : Int32)) (4) (fun c64_4 => ?_) (fun c64_4 => ?_)
              · have hm := hw_ip hm c64_4
                refine lv_tableIn (off := 119) (tgt := 183) hx hb dX3_baseIn_64 (by rw [c64_4]; decide) (by rw [c64_4]; decide) (by rw [c64_4]; rfl) (by decide) ?_
                refine lv_iload hx hb dX3_baseIn_183 (hl.at 7 rfl) ?_
                refine lv_iload hx hb dX3_baseIn_185 (hl.at 0 rfl) ?_
                refine lv_iload hx hb dX3_baseIn_187 (hl.at 1 rfl) ?_
                refine lv_imul hx hb dX3_baseIn_189 ?_
                refine lv_iadd hx hb dX3_baseIn_190 ?_
                refine hw_istore (lv' := [(6, .int (l6 + ((l7 &&& (1 : Int32)) * (v42 >>> ((8 : Int32) &&& 31))))), (10, .int (l7 &&& (1 : Int32))), (9, .int (v42 >>> ((8 : Int32) &&& 31))), (0, hw_vr b (some x0)), (1, hw_vr b l1), (3, .int l3), (4, .int l4), (5, .int l5), (7, .int l7), (8, .int l8)]) hx hb dX3_baseIn_191 hl (by decide) (by decide) rfl (fun ls hl => ?_)
                refine lv_iconst (v := 0) hx hb dX3_baseIn_193 (by decide) ?_
                refine hw_istore (lv' := [(7, .int (0 : Int32)), (6, .int (l6 + ((l7 &&& (1 : Int32)) * (v42 >>> ((8 : Int32) &&& 31))))), (10, .int (l7 &&& (1 : Int32))), (9, .int (v42 >>> ((8 : Int32) &&& 31))), (0, hw_vr b (some x0)), (1, hw_vr b l1), (3, .int l3), (4, .int l4), (5, .int l5), (8, .int l8)]) hx hb dX3_baseIn_194 hl (by decide) (by decide) rfl (fun ls hl => ?_)
                refine lv_goto (tgt := 215) hx hb dX3_baseIn_196 (by decide) ?_
                exact w3_baseIn_b215 C0 ih hm hR (hl.sub [4, 5, 6, 7, 8, 1, 0, 9] rfl)
              · have hm := hw_in hm c64_4
                refine hw_case (v60 &&& (7 : Int32)) (5) (fun c64_5 => ?_) (fun c64_5 => ?_)
                · have hm := hw_ip hm c64_5
                  refine lv_tableIn (off := 135) (tgt := 199) hx hb dX3_baseIn_64 (by rw [c64_5]; decide) (by rw [c64_5]; decide) (by rw [c64_5]; rfl) (by decide) ?_
                  refine lv_iload hx hb dX3_baseIn_199 (hl.at 7 rfl) ?_
                  refine lv_iload hx hb dX3_baseIn_201 (hl.at 0 rfl) ?_
                  refine lv_iload hx hb dX3_baseIn_203 (hl.at 1 rfl) ?_
                  refine lv_imul hx hb dX3_baseIn_205 ?_
                  refine lv_isub hx hb dX3_baseIn_206 ?_
                  refine hw_istore (lv' := [(6, .int (l6 - ((l7 &&& (1 : Int32)) * (v42 >>> ((8 : Int32) &&& 31))))), (10, .int (l7 &&& (1 : Int32))), (9, .int (v42 >>> ((8 : Int32) &&& 31))), (0, hw_vr b (some x0)), (1, hw_vr b l1), (3, .int l3), (4, .int l4), (5, .int l5), (7, .int l7), (8, .int l8)]) hx hb dX3_baseIn_207 hl (by decide) (by decide) rfl (fun ls hl => ?_)
                  refine lv_iconst (v := 0) hx hb dX3_baseIn_209 (by decide) ?_
                  refine hw_istore (lv' := [(7, .int (0 : Int32)), (6, .int (l6 - ((l7 &&& (1 : Int32)) * (v42 >>> ((8 : Int32) &&& 31))))), (10, .int (l7 &&& (1 : Int32))), (9, .int (v42 >>> ((8 : Int32) &&& 31))), (0, hw_vr b (some x0)), (1, hw_vr b l1), (3, .int l3), (4, .int l4), (5, .int l5), (8, .int l8)]) hx hb dX3_baseIn_210 hl (by decide) (by decide) rfl (fun ls hl => ?_)
                  refine lv_goto (tgt := 215) hx hb dX3_baseIn_212 (by decide) ?_
                  exact w3_baseIn_b215 C0 ih hm hR (hl.sub [4, 5, 6, 7, 8, 1, 0, 9] rfl)
                · have hm := hw_in hm c64_5
                  refine lv_tableOut (tgt := 215) hx hb dX3_baseIn_64 (by have h0 := hw_ne (0) c64_0 rfl; have h1 := hw_ne (1) c64_1 rfl; have h2 := hw_ne (2) c64_2 rfl; have h3 := hw_ne (3) c64_3 rfl; have h4 := hw_ne (4) c64_4 rfl; have h5 := hw_ne (5) c64_5 rfl; omega) (by decide) ?_
                  exact w3_baseIn_b215 C0 ih hm hR (hl.sub [2, 3, 4, 5, 6, 7, 8, 9] rfl)
def m3_baseIn (x0 : Nat) (l1 : Option Nat) (l2 : Int32) (σ : hw_S) : Option Int32 :=
  (m11_heightOf l2).bind fun v1 =>
  (m11_flowOf l2).bind fun v6 =>
  (m11_paceOf l2).bind fun v12 =>
  m3_baseIn_b26 hw_fu x0 l1 v1 v6 v12 (0 : Int32) (0 : Int32) (0 : Int32) σ
set_option maxRecDepth 100000 in
theorem w3_baseIn_s {p : Program} {l : Launch} {e : Env} {s : State} {m : MethodId} {args : Array Value} {below : List Frame} {meth : Method} {c : Code} {D : hw_D} {b : Nat} {x0 : Nat} {l1 : Option Nat} {l2 : Int32} {σ : hw_S} {r : Int32} (hm : m3_baseIn x0 l1 l2 σ = some r) (C0 : hw_C p s m args meth c D yX3_baseIn cX3_baseIn 11 (some .int)) (hR : hw_R D b σ s.heap) {ls : Array Slot} (hl : hw_L ls 11 255 [(0, hw_vr b (some x0)), (1, hw_vr b l1), (2, .int l2)]) : W p l e rm3_baseIn s m args below meth c s.heap [] 0 0 (MQ below (hw_RI r) args s 0 0 hw_nof) (F0 m 0 ls []) := by
  obtain ⟨hx, hb, hml, hr, hown, hts, hlk, hE, hnm⟩ := id C0
  have hown : s.vm.findClass RX3 = some m.cls := hown
  have hK := hE.1
  unfold m3_baseIn at hm
  refine lv_iload_n hx hb dX3_baseIn_0 rfl (hl.at 2 rfl) ?_
  obtain ⟨v1, e1, hm⟩ := hw_bs hm
  refine hw_cRI (va_runSN (As := [.int l2]) (rest := []) ⟨hx, hb, hml, hown, hts⟩ (c11_heightOf l D e1) ⟨va_cnB 1 hts (hw_gC hw_m447) rfl rfl rfl (hE.2.1 _ (List.mem_of_getElem? (i := 4) rfl)) (hts _ hw_m2) (by decide +kernel) ⟨(Nat.le_of_ble_eq_true rfl), (Nat.le_of_ble_eq_true rfl)⟩, hts _ hw_m446, trivial⟩ (hw_pre0 hE) rfl rfl hl.sz rfl (lv_room (Nat.le_of_ble_eq_true rfl)) dX3_baseIn_1 ⟨(Nat.le_of_ble_eq_true rfl), (Nat.le_of_ble_eq_true rfl)⟩) ?_
  refine hw_istore_n (lv' := [(3, .int v1), (0, hw_vr b (some x0)), (1, hw_vr b l1), (2, .int l2)]) hx hb dX3_baseIn_4 rfl hl (by decide) (by decide) rfl (fun ls hl => ?_)
  refine lv_iload_n hx hb dX3_baseIn_5 rfl (hl.at 3 rfl) ?_
  obtain ⟨v6, e6, hm⟩ := hw_bs hm
  refine hw_cRI (va_runSN (As := [.int l2]) (rest := []) ⟨hx, hb, hml, hown, hts⟩ (c11_flowOf l D e6) ⟨va_cnB 1 hts (hw_gC hw_m453) rfl rfl rfl (hE.2.1 _ (List.mem_of_getElem? (i := 5) rfl)) (hts _ hw_m2) (by decide +kernel) ⟨(Nat.le_of_ble_eq_true rfl), (Nat.le_of_ble_eq_true rfl)⟩, hts _ hw_m452, trivial⟩ (hw_pre0 hE) rfl rfl hl.sz rfl (lv_room (Nat.le_of_ble_eq_true rfl)) dX3_baseIn_6 ⟨(Nat.le_of_ble_eq_true rfl), (Nat.le_of_ble_eq_true rfl)⟩) ?_
  refine hw_istore (lv' := [(4, .int v6), (3, .int v1), (0, hw_vr b (some x0)), (1, hw_vr b l1), (2, .int l2)]) hx hb dX3_baseIn_9 hl (by decide) (by decide) rfl (fun ls hl => ?_)
  refine lv_iload_n hx hb dX3_baseIn_11 rfl (hl.at 4 rfl) ?_
  obtain ⟨v12, e12, hm⟩ := hw_bs hm
  refine hw_cRI (va_runSN (As := [.int l2]) (rest := []) ⟨hx, hb, hml, hown, hts⟩ (c11_paceOf l D e12) ⟨va_cnB 1 hts (hw_gC hw_m466) rfl rfl rfl (hE.2.1 _ (List.mem_of_getElem? (i := 6) rfl)) (hts _ hw_m2) (by decide +kernel) ⟨(Nat.le_of_ble_eq_true rfl), (Nat.le_of_ble_eq_true rfl)⟩, hts _ hw_m465, trivial⟩ (hw_pre0 hE) rfl rfl hl.sz rfl (lv_room (Nat.le_of_ble_eq_true rfl)) dX3_baseIn_12 ⟨(Nat.le_of_ble_eq_true rfl), (Nat.le_of_ble_eq_true rfl)⟩) ?_
  refine hw_istore (lv' := [(5, .int v12), (4, .int v6), (3, .int v1), (0, hw_vr b (some x0)), (1, hw_vr b l1), (2, .int l2)]) hx hb dX3_baseIn_15 hl (by decide) (by decide) rfl (fun ls hl => ?_)
  refine lv_iconst (v := 0) hx hb dX3_baseIn_17 (by decide) ?_
  refine hw_istore (lv' := [(6, .int (0 : Int32)), (5, .int v12), (4, .int v6), (3, .int v1), (0, hw_vr b (some x0)), (1, hw_vr b l1), (2, .int l2)]) hx hb dX3_baseIn_18 hl (by decide) (by decide) rfl (fun ls hl => ?_)
  refine lv_iconst (v := 0) hx hb dX3_baseIn_20 (by decide) ?_
  refine hw_istore (lv' := [(7, .int (0 : Int32)), (6, .int (0 : Int32)), (5, .int v12), (4, .int v6), (3, .int v1), (0, hw_vr b (some x0)), (1, hw_vr b l1), (2, .int l2)]) hx hb dX3_baseIn_21 hl (by decide) (by decide) rfl (fun ls hl => ?_)
  refine lv_iconst (v := 0) hx hb dX3_baseIn_23 (by decide) ?_
  refine hw_istore (lv' := [(8, .int (0 : Int32)), (7, .int (0 : Int32)), (6, .int (0 : Int32)), (5, .int v12), (4, .int v6), (3, .int v1), (0, hw_vr b (some x0)), (1, hw_vr b l1), (2, .int l2)]) hx hb dX3_baseIn_24 hl (by decide) (by decide) rfl (fun ls hl => ?_)
  exact w3_baseIn_b26 C0 hw_fu hm hR (hl.sub [6, 7, 5, 4, 3, 2, 1, 0] rfl)
set_option maxRecDepth 100000 in
theorem c3_baseIn (l : Launch) (D : hw_D) (b : Nat) {x0 : Nat} {l1 : Option Nat} {l2 : Int32} {σ : hw_S} {r : Int32} (hm : m3_baseIn x0 l1 l2 σ = some r) : Met l yX3_baseIn (Cond.code yX3_baseIn cX3_baseIn 11 (some .int) :: wsL_law) rm3_baseIn (hw_P1 D b σ [hw_vr b (some x0), hw_vr b l1, .int l2]) (hw_RI r) 0 0 hw_nof := by
  refine hw_start1 (by decide +kernel) (by cases l1 <;> exact Nat.le_of_ble_eq_true rfl) ?_
  intro p e s m below meth c ls C0 hR hS hl
  have hl : lv_has ls 11 [(0, hw_vr b (some x0)), (1, hw_vr b l1), (2, .int l2)] := by cases l1 <;> exact hl
  exact w3_baseIn_s hm C0 hR ⟨hl, (List.forall_mem_cons.mpr ⟨(fun h => by rw [show (hw_vr b (some x0) : Value).category = 1 from (hw_vr_cat _ _)] at h; cases h), (List.forall_mem_cons.mpr ⟨(fun h => by rw [show (hw_vr b l1 : Value).category = 1 from (hw_vr_cat _ _)] at h; cases h), (List.forall_mem_cons.mpr ⟨(fun h => absurd (show (1 : Nat) = 2 from h) (by decide)), (fun _ h => absurd h List.not_mem_nil)⟩)⟩)⟩)⟩

abbrev rm3_isHighAt : Room := { frames := 0, cells := 0, slots := 0, locals := 0 }
def m3_isHighAt_b16 (x0 : Nat) (t0 : Int32) (σ : hw_S) : Option Int32 :=
  (hw_tf t0).bind fun _ =>
  some t0
set_option maxRecDepth 100000 in
theorem w3_isHighAt_b16 {p : Program} {l : Launch} {e : Env} {s : State} {m : MethodId} {args : Array Value} {below : List Frame} {meth : Method} {c : Code} {D : hw_D} {b : Nat} {r : Int32} (C0 : hw_C p s m args meth c D yX3_isHighAt cX3_isHighAt 2 (some .boolean)) {x0 : Nat} {t0 : Int32} {σ : hw_S} (hm : m3_isHighAt_b16 x0 t0 σ = some r) (hR : hw_R D b σ s.heap) {ls : Array Slot} (hl : hw_L ls 2 255 [(0, hw_vr b (some x0))]) : W p l e rm3_isHighAt s m args below meth c s.heap [] 0 0 (MQ below (hw_RI r) args s 0 0 hw_nof) (F0 m 16 ls [.int t0]) := by
  obtain ⟨hx, hb, hml, hr, hown, hts, hlk, hE, hnm⟩ := id C0
  have hown : s.vm.findClass RX3 = some m.cls := hown
  have hK := hE.1
  unfold m3_isHighAt_b16 at hm
  obtain ⟨_, z16, hm⟩ := hw_bs hm
  exact hw_rRZ hx hb hr hlk z16 hm dX3_isHighAt_16
def m3_isHighAt (x0 : Nat) (l1 : Int32) (σ : hw_S) : Option Int32 :=
  (hw_gI hw_qL 2 (some x0) σ).bind fun v4 =>
  (if l1 ≤ ((10 : Int32) * v4) then
  m3_isHighAt_b16 x0 (0 : Int32) σ
  else
  m3_isHighAt_b16 x0 (1 : Int32) σ)
set_option maxRecDepth 100000 in
theorem w3_isHighAt_s {p : Program} {l : Launch} {e : Env} {s : State} {m : MethodId} {args : Array Value} {below : List Frame} {meth : Method} {c : Code} {D : hw_D} {b : Nat} {x0 : Nat} {l1 : Int32} {σ : hw_S} {r : Int32} (hm : m3_isHighAt x0 l1 σ = some r) (C0 : hw_C p s m args meth c D yX3_isHighAt cX3_isHighAt 2 (some .boolean)) (hR : hw_R D b σ s.heap) {ls : Array Slot} (hl : hw_L ls 2 255 [(0, hw_vr b (some x0)), (1, .int l1)]) : W p l e rm3_isHighAt s m args below meth c s.heap [] 0 0 (MQ below (hw_RI r) args s 0 0 hw_nof) (F0 m 0 ls []) := by
  obtain ⟨hx, hb, hml, hr, hown, hts, hlk, hE, hnm⟩ := id C0
  have hown : s.vm.findClass RX3 = some m.cls := hown
  have hK := hE.1
  unfold m3_isHighAt at hm
  refine lv_iload_n hx hb dX3_isHighAt_0 rfl (hl.at 1 rfl) ?_
  refine lv_bipush (v := 10) hx hb dX3_isHighAt_1 (by decide) ?_
  refine hw_aload_n hx hb dX3_isHighAt_3 rfl (hl.at 0 rfl) ?_
  obtain ⟨v4, e4, hm⟩ := hw_bs hm
  refine hw_getI hx hb hw_cfL hts hown hK hR e4 (by decide) rfl (hts _ hw_m296) (fun _ h9 => h9) dX3_isHighAt_4 ?_
  refine lv_imul hx hb dX3_isHighAt_7 ?_
  refine lv_icmp_le (tgt := 15) hx hb dX3_isHighAt_8 (by decide) (fun c8 => ?_) (fun c8 => ?_)
  · have hm := hw_ip hm c8
    refine lv_iconst (v := 0) hx hb dX3_isHighAt_15 (by decide) ?_
    exact w3_isHighAt_b16 C0 hm hR (hl.sub [0] rfl)
  · have hm := hw_in hm c8
    refine lv_iconst (v := 1) hx hb dX3_isHighAt_11 (by decide) ?_
    refine lv_goto (tgt := 16) hx hb dX3_isHighAt_12 (by decide) ?_
    exact w3_isHighAt_b16 C0 hm hR (hl.sub [0] rfl)
set_option maxRecDepth 100000 in
theorem c3_isHighAt (l : Launch) (D : hw_D) (b : Nat) {x0 : Nat} {l1 : Int32} {σ : hw_S} {r : Int32} (hm : m3_isHighAt x0 l1 σ = some r) : Met l yX3_isHighAt (Cond.code yX3_isHighAt cX3_isHighAt 2 (some .boolean) :: wsL_law) rm3_isHighAt (hw_P1 D b σ [hw_vr b (some x0), .int l1]) (hw_RI r) 0 0 hw_nof := by
  refine hw_start1 (by decide +kernel) (by exact Nat.le_of_ble_eq_true rfl) ?_
  intro p e s m below meth c ls C0 hR hS hl
  have hl : lv_has ls 2 [(0, hw_vr b (some x0)), (1, .int l1)] := by exact hl
  exact w3_isHighAt_s hm C0 hR ⟨hl, (List.forall_mem_cons.mpr ⟨(fun h => by rw [show (hw_vr b (some x0) : Value).category = 1 from (hw_vr_cat _ _)] at h; cases h), (List.forall_mem_cons.mpr ⟨(fun h => absurd (show (1 : Nat) = 2 from h) (by decide)), (fun _ h => absurd h List.not_mem_nil)⟩)⟩)⟩

abbrev rm11_cut : Room := { frames := 0, cells := 0, slots := 0, locals := 0 }
def m11_cut_b11 (t0 : Int32) : Option Int32 :=
  some t0
set_option maxRecDepth 100000 in
theorem w11_cut_b11 {p : Program} {l : Launch} {e : Env} {s : State} {m : MethodId} {args : Array Value} {below : List Frame} {meth : Method} {c : Code} {D : hw_D} {r : Int32} (C0 : hw_C p s m args meth c D yX11_cut cX11_cut 2 (some .int)) {t0 : Int32} (hm : m11_cut_b11 t0 = some r) {ls : Array Slot} (hl : hw_L ls 2 255 []) : W p l e rm11_cut s m args below meth c s.heap [] 0 0 (MQ below (hw_RI r) args s 0 0 hw_nof) (F0 m 11 ls [.int t0]) := by
  obtain ⟨hx, hb, hml, hr, hown, hts, hlk, hE, hnm⟩ := id C0
  have hown : s.vm.findClass RX11 = some m.cls := hown
  unfold m11_cut_b11 at hm
  exact hw_rRI hx hb hr hlk hm dX11_cut_11
def m11_cut (l0 : Int32) (l1 : Int32) : Option Int32 :=
  (if l1 = 0 then
  m11_cut_b11 (0 : Int32)
  else
  (hw_dv l0 l1).bind fun v10 =>
  m11_cut_b11 v10)
set_option maxRecDepth 100000 in
theorem w11_cut_s {p : Program} {l : Launch} {e : Env} {s : State} {m : MethodId} {args : Array Value} {below : List Frame} {meth : Method} {c : Code} {D : hw_D} {l0 : Int32} {l1 : Int32} {r : Int32} (hm : m11_cut l0 l1 = some r) (C0 : hw_C p s m args meth c D yX11_cut cX11_cut 2 (some .int)) {ls : Array Slot} (hl : hw_L ls 2 255 [(0, .int l0), (1, .int l1)]) : W p l e rm11_cut s m args below meth c s.heap [] 0 0 (MQ below (hw_RI r) args s 0 0 hw_nof) (F0 m 0 ls []) := by
  obtain ⟨hx, hb, hml, hr, hown, hts, hlk, hE, hnm⟩ := id C0
  have hown : s.vm.findClass RX11 = some m.cls := hown
  unfold m11_cut at hm
  refine lv_iload_n hx hb dX11_cut_0 rfl (hl.at 1 rfl) ?_
  refine lv_if_ne (tgt := 8) hx hb dX11_cut_1 (by decide) (fun c1 => ?_) (fun c1 => ?_)
  · have hm := hw_in hm c1
    refine lv_iload_n hx hb dX11_cut_8 rfl (hl.at 0 rfl) ?_
    refine lv_iload_n hx hb dX11_cut_9 rfl (hl.at 1 rfl) ?_
    obtain ⟨v10, e10, hm⟩ := hw_bs hm
    refine hw_idiv hx hb e10 dX11_cut_10 ?_
    exact w11_cut_b11 C0 hm (hl.sub [] rfl)
  · have hm := hw_ip hm c1
    refine lv_iconst (v := 0) hx hb dX11_cut_4 (by decide) ?_
    refine lv_goto (tgt := 11) hx hb dX11_cut_5 (by decide) ?_
    exact w11_cut_b11 C0 hm (hl.sub [] rfl)
set_option maxRecDepth 100000 in
theorem c11_cut (l : Launch) (D : hw_D) {l0 : Int32} {l1 : Int32} {r : Int32} (hm : m11_cut l0 l1 = some r) : Met l yX11_cut (Cond.code yX11_cut cX11_cut 2 (some .int) :: wsL_law) rm11_cut (hw_P0 D [.int l0, .int l1]) (hw_RI r) 0 0 hw_nof := by
  refine hw_start0 (by decide +kernel) (by exact Nat.le_of_ble_eq_true rfl) ?_
  intro p e s m below meth c ls C0 hl
  have hl : lv_has ls 2 [(0, .int l0), (1, .int l1)] := by exact hl
  exact w11_cut_s hm C0 ⟨hl, (List.forall_mem_cons.mpr ⟨(fun h => absurd (show (1 : Nat) = 2 from h) (by decide)), (List.forall_mem_cons.mpr ⟨(fun h => absurd (show (1 : Nat) = 2 from h) (by decide)), (fun _ h => absurd h List.not_mem_nil)⟩)⟩)⟩

abbrev rm2_spun : Room := { frames := 1, cells := 0, slots := 0, locals := 21 }
def m2_spun (x0 : Nat) (l1 : Int32) (l2 : Int32) (l3 : Int32) (l4 : Int32) (l5 : Int32) (σ : hw_S) : Option Int32 :=
  (hw_gI hw_qL 2 (some x0) σ).bind fun v3 =>
  (m11_cut (l2 * v3) l3).bind fun v8 =>
  some (l1 + v8)
set_option maxRecDepth 100000 in
theorem w2_spun_s {p : Program} {l : Launch} {e : Env} {s : State} {m : MethodId} {args : Array Value} {below : List Frame} {meth : Method} {c : Code} {D : hw_D} {b : Nat} {x0 : Nat} {l1 : Int32} {l2 : Int32} {l3 : Int32} {l4 : Int32} {l5 : Int32} {σ : hw_S} {r : Int32} (hm : m2_spun x0 l1 l2 l3 l4 l5 σ = some r) (C0 : hw_C p s m args meth c D yX2_spun cX2_spun 6 (some .int)) (hR : hw_R D b σ s.heap) {ls : Array Slot} (hl : hw_L ls 6 255 [(0, hw_vr b (some x0)), (1, .int l1), (2, .int l2), (3, .int l3), (4, .int l4), (5, .int l5)]) : W p l e rm2_spun s m args below meth c s.heap [] 0 0 (MQ below (hw_RI r) args s 0 0 hw_nof) (F0 m 0 ls []) := by
  obtain ⟨hx, hb, hml, hr, hown, hts, hlk, hE, hnm⟩ := id C0
  have hown : s.vm.findClass RX2 = some m.cls := hown
  have hK := hE.1
  unfold m2_spun at hm
  refine lv_iload_n hx hb dX2_spun_0 rfl (hl.at 1 rfl) ?_
  refine lv_iload_n hx hb dX2_spun_1 rfl (hl.at 2 rfl) ?_
  refine hw_aload_n hx hb dX2_spun_2 rfl (hl.at 0 rfl) ?_
  obtain ⟨v3, e3, hm⟩ := hw_bs hm
  refine hw_getI hx hb hw_cfL hts hown hK hR e3 (by decide) rfl (hts _ hw_m518) (fun x9 h9 => u_same (hts _ hw_m519) x9 h9) dX2_spun_3 ?_
  refine lv_imul hx hb dX2_spun_6 ?_
  refine lv_iload_n hx hb dX2_spun_7 rfl (hl.at 3 rfl) ?_
  obtain ⟨v8, e8, hm⟩ := hw_bs hm
  refine hw_cRI (va_runSN (As := [.int (l2 * v3), .int l3]) (rest := [.int l1]) ⟨hx, hb, hml, hown, hts⟩ (c11_cut l D e8) ⟨va_cnB 2 hts (hw_gC hw_m521) rfl rfl rfl (hE.2.1 _ (List.mem_of_getElem? (i := 7) rfl)) (hts _ hw_m2) (by decide +kernel) ⟨(Nat.le_of_ble_eq_true rfl), (Nat.le_of_ble_eq_true rfl)⟩, hts _ hw_m520, trivial⟩ (hw_pre0 hE) rfl rfl hl.sz rfl (lv_room (Nat.le_of_ble_eq_true rfl)) dX2_spun_8 ⟨(Nat.le_of_ble_eq_true rfl), (Nat.le_of_ble_eq_true rfl)⟩) ?_
  refine lv_iadd hx hb dX2_spun_11 ?_
  exact hw_rRI hx hb hr hlk hm dX2_spun_12
set_option maxRecDepth 100000 in
theorem c2_spun (l : Launch) (D : hw_D) (b : Nat) {x0 : Nat} {l1 : Int32} {l2 : Int32} {l3 : Int32} {l4 : Int32} {l5 : Int32} {σ : hw_S} {r : Int32} (hm : m2_spun x0 l1 l2 l3 l4 l5 σ = some r) : Met l yX2_spun (Cond.code yX2_spun cX2_spun 6 (some .int) :: wsL_law) rm2_spun (hw_P1 D b σ [hw_vr b (some x0), .int l1, .int l2, .int l3, .int l4, .int l5]) (hw_RI r) 0 0 hw_nof := by
  refine hw_start1 (by decide +kernel) (by exact Nat.le_of_ble_eq_true rfl) ?_
  intro p e s m below meth c ls C0 hR hS hl
  have hl : lv_has ls 6 [(0, hw_vr b (some x0)), (1, .int l1), (2, .int l2), (3, .int l3), (4, .int l4), (5, .int l5)] := by exact hl
  exact w2_spun_s hm C0 hR ⟨hl, (List.forall_mem_cons.mpr ⟨(fun h => by rw [show (hw_vr b (some x0) : Value).category = 1 from (hw_vr_cat _ _)] at h; cases h), (List.forall_mem_cons.mpr ⟨(fun h => absurd (show (1 : Nat) = 2 from h) (by decide)), (List.forall_mem_cons.mpr ⟨(fun h => absurd (show (1 : Nat) = 2 from h) (by decide)), (List.forall_mem_cons.mpr ⟨(fun h => absurd (show (1 : Nat) = 2 from h) (by decide)), (List.forall_mem_cons.mpr ⟨(fun h => absurd (show (1 : Nat) = 2 from h) (by decide)), (List.forall_mem_cons.mpr ⟨(fun h => absurd (show (1 : Nat) = 2 from h) (by decide)), (fun _ h => absurd h List.not_mem_nil)⟩)⟩)⟩)⟩)⟩)⟩)⟩

abbrev rm0_spun : Room := { frames := 2, cells := 0, slots := 0, locals := 46 }
def m0_spun_b24 (x0 : Nat) (t0 : Int32) (t1 : Int32) (σ : hw_S) : Option Int32 :=
  some (t0 + t1)
set_option maxRecDepth 100000 in
theorem w0_spun_b24 {p : Program} {l : Launch} {e : Env} {s : State} {m : MethodId} {args : Array Value} {below : List Frame} {meth : Method} {c : Code} {D : hw_D} {b : Nat} {r : Int32} (C0 : hw_C p s m args meth c D yX0_spun cX0_spun 6 (some .int)) {x0 : Nat} {t0 : Int32} {t1 : Int32} {σ : hw_S} (hm : m0_spun_b24 x0 t0 t1 σ = some r) (hR : hw_R D b σ s.heap) {ls : Array Slot} (hl : hw_L ls 6 255 [(0, hw_vr b (some x0))]) : W p l e rm0_spun s m args below meth c s.heap [] 0 0 (MQ below (hw_RI r) args s 0 0 hw_nof) (F0 m 24 ls [.int t1, .int t0]) := by
  obtain ⟨hx, hb, hml, hr, hown, hts, hlk, hE, hnm⟩ := id C0
  have hown : s.vm.findClass RX0 = some m.cls := hown
  have hK := hE.1
  unfold m0_spun_b24 at hm
  refine lv_iadd hx hb dX0_spun_24 ?_
  exact hw_rRI hx hb hr hlk hm dX0_spun_25
def m0_spun (x0 : Nat) (l1 : Int32) (l2 : Int32) (l3 : Int32) (l4 : Int32) (l5 : Int32) (σ : hw_S) : Option Int32 :=
  (hw_rv hw_qL (some x0) σ).bind fun a8 =>
  (m2_spun x0 l1 l2 l3 l4 l5 σ).bind fun v8 =>
  (if l5 = 0 then
  m0_spun_b24 x0 v8 (0 : Int32) σ
  else
  (hw_gI hw_qL 2 (some x0) σ).bind fun v17 =>
  m0_spun_b24 x0 v8 v17 σ)
set_option maxRecDepth 100000 in
theorem w0_spun_s {p : Program} {l : Launch} {e : Env} {s : State} {m : MethodId} {args : Array Value} {below : List Frame} {meth : Method} {c : Code} {D : hw_D} {b : Nat} {x0 : Nat} {l1 : Int32} {l2 : Int32} {l3 : Int32} {l4 : Int32} {l5 : Int32} {σ : hw_S} {r : Int32} (hm : m0_spun x0 l1 l2 l3 l4 l5 σ = some r) (C0 : hw_C p s m args meth c D yX0_spun cX0_spun 6 (some .int)) (hR : hw_R D b σ s.heap) {ls : Array Slot} (hl : hw_L ls 6 255 [(0, hw_vr b (some x0)), (1, .int l1), (2, .int l2), (3, .int l3), (4, .int l4), (5, .int l5)]) : W p l e rm0_spun s m args below meth c s.heap [] 0 0 (MQ below (hw_RI r) args s 0 0 hw_nof) (F0 m 0 ls []) := by
  obtain ⟨hx, hb, hml, hr, hown, hts, hlk, hE, hnm⟩ := id C0
  have hown : s.vm.findClass RX0 = some m.cls := hown
  have hK := hE.1
  unfold m0_spun at hm
  refine hw_aload_n hx hb dX0_spun_0 rfl (hl.at 0 rfl) ?_
  refine lv_iload_n hx hb dX0_spun_1 rfl (hl.at 1 rfl) ?_
  refine lv_iload_n hx hb dX0_spun_2 rfl (hl.at 2 rfl) ?_
  refine lv_iload_n hx hb dX0_spun_3 rfl (hl.at 3 rfl) ?_
  refine lv_iload hx hb dX0_spun_4 (hl.at 4 rfl) ?_
  refine lv_iload hx hb dX0_spun_6 (hl.at 5 rfl) ?_
  obtain ⟨a8, g8, hm⟩ := hw_bs hm
  obtain ⟨rfl, ht8⟩ := hw_rv_th g8
  obtain ⟨C8, cC8, hat8, hpre8⟩ := hw_preL (av := [.int l1, .int l2, .int l3, .int l4, .int l5]) hE hR ht8
  obtain ⟨v8, e8, hm⟩ := hw_bs hm
  refine hw_cRI (va_runSU (As := [.int l1, .int l2, .int l3, .int l4, .int l5]) (rest := []) hat8 ⟨hx, hb, hml, hown, hts⟩ (c2_spun l D b e8) (va_cwSU 5 hts (hw_gSU hw_m513 hw_m514 hw_m515 hw_m516 hw_m270 hw_m517) rfl rfl rfl (by decide +kernel) ⟨(Nat.le_of_ble_eq_true rfl), (Nat.le_of_ble_eq_true rfl)⟩) hpre8 rfl rfl hl.sz rfl (lv_room (Nat.le_of_ble_eq_true rfl)) dX0_spun_8 ⟨(Nat.le_of_ble_eq_true rfl), (Nat.le_of_ble_eq_true rfl)⟩) ?_
  refine lv_iload hx hb dX0_spun_11 (hl.at 5 rfl) ?_
  refine lv_if_eq (tgt := 23) hx hb dX0_spun_13 (by decide) (fun c13 => ?_) (fun c13 => ?_)
  · have hm := hw_ip hm c13
    refine lv_iconst (v := 0) hx hb dX0_spun_23 (by decide) ?_
    exact w0_spun_b24 C0 hm hR (hl.sub [0] rfl)
  · have hm := hw_in hm c13
    refine hw_aload_n hx hb dX0_spun_16 rfl (hl.at 0 rfl) ?_
    obtain ⟨v17, e17, hm⟩ := hw_bs hm
    refine hw_getI hx hb hw_cfL hts hown hK hR e17 (by decide) rfl (hts _ hw_m511) (fun x9 h9 => u_same (hts _ hw_m512) x9 h9) dX0_spun_17 ?_
    refine lv_goto (tgt := 24) hx hb dX0_spun_20 (by decide) ?_
    exact w0_spun_b24 C0 hm hR (hl.sub [0] rfl)
set_option maxRecDepth 100000 in
theorem c0_spun (l : Launch) (D : hw_D) (b : Nat) {x0 : Nat} {l1 : Int32} {l2 : Int32} {l3 : Int32} {l4 : Int32} {l5 : Int32} {σ : hw_S} {r : Int32} (hm : m0_spun x0 l1 l2 l3 l4 l5 σ = some r) : Met l yX0_spun (Cond.code yX0_spun cX0_spun 6 (some .int) :: wsL_law) rm0_spun (hw_P1 D b σ [hw_vr b (some x0), .int l1, .int l2, .int l3, .int l4, .int l5]) (hw_RI r) 0 0 hw_nof := by
  refine hw_start1 (by decide +kernel) (by exact Nat.le_of_ble_eq_true rfl) ?_
  intro p e s m below meth c ls C0 hR hS hl
  have hl : lv_has ls 6 [(0, hw_vr b (some x0)), (1, .int l1), (2, .int l2), (3, .int l3), (4, .int l4), (5, .int l5)] := by exact hl
  exact w0_spun_s hm C0 hR ⟨hl, (List.forall_mem_cons.mpr ⟨(fun h => by rw [show (hw_vr b (some x0) : Value).category = 1 from (hw_vr_cat _ _)] at h; cases h), (List.forall_mem_cons.mpr ⟨(fun h => absurd (show (1 : Nat) = 2 from h) (by decide)), (List.forall_mem_cons.mpr ⟨(fun h => absurd (show (1 : Nat) = 2 from h) (by decide)), (List.forall_mem_cons.mpr ⟨(fun h => absurd (show (1 : Nat) = 2 from h) (by decide)), (List.forall_mem_cons.mpr ⟨(fun h => absurd (show (1 : Nat) = 2 from h) (by decide)), (List.forall_mem_cons.mpr ⟨(fun h => absurd (show (1 : Nat) = 2 from h) (by decide)), (fun _ h => absurd h List.not_mem_nil)⟩)⟩)⟩)⟩)⟩)⟩)⟩

abbrev rm3_spun : Room := { frames := 0, cells := 0, slots := 0, locals := 0 }
def m3_spun (x0 : Nat) (l1 : Int32) (l2 : Int32) (l3 : Int32) (l4 : Int32) (l5 : Int32) (σ : hw_S) : Option Int32 :=
  some l1
set_option maxRecDepth 100000 in
theorem w3_spun_s {p : Program} {l : Launch} {e : Env} {s : State} {m : MethodId} {args : Array Value} {below : List Frame} {meth : Method} {c : Code} {D : hw_D} {b : Nat} {x0 : Nat} {l1 : Int32} {l2 : Int32} {l3 : Int32} {l4 : Int32} {l5 : Int32} {σ : hw_S} {r : Int32} (hm : m3_spun x0 l1 l2 l3 l4 l5 σ = some r) (C0 : hw_C p s m args meth c D yX3_spun cX3_spun 6 (some .int)) (hR : hw_R D b σ s.heap) {ls : Array Slot} (hl : hw_L ls 6 255 [(0, hw_vr b (some x0)), (1, .int l1), (2, .int l2), (3, .int l3), (4, .int l4), (5, .int l5)]) : W p l e rm3_spun s m args below meth c s.heap [] 0 0 (MQ below (hw_RI r) args s 0 0 hw_nof) (F0 m 0 ls []) := by
  obtain ⟨hx, hb, hml, hr, hown, hts, hlk, hE, hnm⟩ := id C0
  have hown : s.vm.findClass RX3 = some m.cls := hown
  have hK := hE.1
  unfold m3_spun at hm
  refine lv_iload_n hx hb dX3_spun_0 rfl (hl.at 1 rfl) ?_
  exact hw_rRI hx hb hr hlk hm dX3_spun_1
set_option maxRecDepth 100000 in
theorem c3_spun (l : Launch) (D : hw_D) (b : Nat) {x0 : Nat} {l1 : Int32} {l2 : Int32} {l3 : Int32} {l4 : Int32} {l5 : Int32} {σ : hw_S} {r : Int32} (hm : m3_spun x0 l1 l2 l3 l4 l5 σ = some r) : Met l yX3_spun (Cond.code yX3_spun cX3_spun 6 (some .int) :: wsL_law) rm3_spun (hw_P1 D b σ [hw_vr b (some x0), .int l1, .int l2, .int l3, .int l4, .int l5]) (hw_RI r) 0 0 hw_nof := by
  refine hw_start1 (by decide +kernel) (by exact Nat.le_of_ble_eq_true rfl) ?_
  intro p e s m below meth c ls C0 hR hS hl
  have hl : lv_has ls 6 [(0, hw_vr b (some x0)), (1, .int l1), (2, .int l2), (3, .int l3), (4, .int l4), (5, .int l5)] := by exact hl
  exact w3_spun_s hm C0 hR ⟨hl, (List.forall_mem_cons.mpr ⟨(fun h => by rw [show (hw_vr b (some x0) : Value).category = 1 from (hw_vr_cat _ _)] at h; cases h), (List.forall_mem_cons.mpr ⟨(fun h => absurd (show (1 : Nat) = 2 from h) (by decide)), (List.forall_mem_cons.mpr ⟨(fun h => absurd (show (1 : Nat) = 2 from h) (by decide)), (List.forall_mem_cons.mpr ⟨(fun h => absurd (show (1 : Nat) = 2 from h) (by decide)), (List.forall_mem_cons.mpr ⟨(fun h => absurd (show (1 : Nat) = 2 from h) (by decide)), (List.forall_mem_cons.mpr ⟨(fun h => absurd (show (1 : Nat) = 2 from h) (by decide)), (fun _ h => absurd h List.not_mem_nil)⟩)⟩)⟩)⟩)⟩)⟩)⟩

abbrev rm1_spun : Room := { frames := 1, cells := 0, slots := 0, locals := 21 }
def m1_spun (x0 : Nat) (l1 : Int32) (l2 : Int32) (l3 : Int32) (l4 : Int32) (l5 : Int32) (σ : hw_S) : Option Int32 :=
  (m11_heightOf l4).bind fun v3 =>
  (m11_flowOf l4).bind fun v8 =>
  (m11_cut (v3 * v8) ((10 : Int32) * l3)).bind fun v16 =>
  some (l1 + v16)
set_option maxRecDepth 100000 in
theorem w1_spun_s {p : Program} {l : Launch} {e : Env} {s : State} {m : MethodId} {args : Array Value} {below : List Frame} {meth : Method} {c : Code} {D : hw_D} {b : Nat} {x0 : Nat} {l1 : Int32} {l2 : Int32} {l3 : Int32} {l4 : Int32} {l5 : Int32} {σ : hw_S} {r : Int32} (hm : m1_spun x0 l1 l2 l3 l4 l5 σ = some r) (C0 : hw_C p s m args meth c D yX1_spun cX1_spun 6 (some .int)) (hR : hw_R D b σ s.heap) {ls : Array Slot} (hl : hw_L ls 6 255 [(0, hw_vr b (some x0)), (1, .int l1), (2, .int l2), (3, .int l3), (4, .int l4), (5, .int l5)]) : W p l e rm1_spun s m args below meth c s.heap [] 0 0 (MQ below (hw_RI r) args s 0 0 hw_nof) (F0 m 0 ls []) := by
  obtain ⟨hx, hb, hml, hr, hown, hts, hlk, hE, hnm⟩ := id C0
  have hown : s.vm.findClass RX1 = some m.cls := hown
  have hK := hE.1
  unfold m1_spun at hm
  refine lv_iload_n hx hb dX1_spun_0 rfl (hl.at 1 rfl) ?_
  refine lv_iload hx hb dX1_spun_1 (hl.at 4 rfl) ?_
  obtain ⟨v3, e3, hm⟩ := hw_bs hm
  refine hw_cRI (va_runSN (As := [.int l4]) (rest := [.int l1]) ⟨hx, hb, hml, hown, hts⟩ (c11_heightOf l D e3) ⟨va_cnB 1 hts (hw_gC hw_m447) rfl rfl rfl (hE.2.1 _ (List.mem_of_getElem? (i := 8) rfl)) (hts _ hw_m2) (by decide +kernel) ⟨(Nat.le_of_ble_eq_true rfl), (Nat.le_of_ble_eq_true rfl)⟩, hts _ hw_m446, trivial⟩ (hw_pre0 hE) rfl rfl hl.sz rfl (lv_room (Nat.le_of_ble_eq_true rfl)) dX1_spun_3 ⟨(Nat.le_of_ble_eq_true rfl), (Nat.le_of_ble_eq_true rfl)⟩) ?_
  refine lv_iload hx hb dX1_spun_6 (hl.at 4 rfl) ?_
  obtain ⟨v8, e8, hm⟩ := hw_bs hm
  refine hw_cRI (va_runSN (As := [.int l4]) (rest := [.int v3, .int l1]) ⟨hx, hb, hml, hown, hts⟩ (c11_flowOf l D e8) ⟨va_cnB 1 hts (hw_gC hw_m453) rfl rfl rfl (hE.2.1 _ (List.mem_of_getElem? (i := 9) rfl)) (hts _ hw_m2) (by decide +kernel) ⟨(Nat.le_of_ble_eq_true rfl), (Nat.le_of_ble_eq_true rfl)⟩, hts _ hw_m452, trivial⟩ (hw_pre0 hE) rfl rfl hl.sz rfl (lv_room (Nat.le_of_ble_eq_true rfl)) dX1_spun_8 ⟨(Nat.le_of_ble_eq_true rfl), (Nat.le_of_ble_eq_true rfl)⟩) ?_
  refine lv_imul hx hb dX1_spun_11 ?_
  refine lv_bipush (v := 10) hx hb dX1_spun_12 (by decide) ?_
  refine lv_iload_n hx hb dX1_spun_14 rfl (hl.at 3 rfl) ?_
  refine lv_imul hx hb dX1_spun_15 ?_
  obtain ⟨v16, e16, hm⟩ := hw_bs hm
  refine hw_cRI (va_runSN (As := [.int (v3 * v8), .int ((10 : Int32) * l3)]) (rest := [.int l1]) ⟨hx, hb, hml, hown, hts⟩ (c11_cut l D e16) ⟨va_cnB 2 hts (hw_gC hw_m521) rfl rfl rfl (hE.2.1 _ (List.mem_of_getElem? (i := 10) rfl)) (hts _ hw_m2) (by decide +kernel) ⟨(Nat.le_of_ble_eq_true rfl), (Nat.le_of_ble_eq_true rfl)⟩, hts _ hw_m520, trivial⟩ (hw_pre0 hE) rfl rfl hl.sz rfl (lv_room (Nat.le_of_ble_eq_true rfl)) dX1_spun_16 ⟨(Nat.le_of_ble_eq_true rfl), (Nat.le_of_ble_eq_true rfl)⟩) ?_
  refine lv_iadd hx hb dX1_spun_19 ?_
  exact hw_rRI hx hb hr hlk hm dX1_spun_20
set_option maxRecDepth 100000 in
theorem c1_spun (l : Launch) (D : hw_D) (b : Nat) {x0 : Nat} {l1 : Int32} {l2 : Int32} {l3 : Int32} {l4 : Int32} {l5 : Int32} {σ : hw_S} {r : Int32} (hm : m1_spun x0 l1 l2 l3 l4 l5 σ = some r) : Met l yX1_spun (Cond.code yX1_spun cX1_spun 6 (some .int) :: wsL_law) rm1_spun (hw_P1 D b σ [hw_vr b (some x0), .int l1, .int l2, .int l3, .int l4, .int l5]) (hw_RI r) 0 0 hw_nof := by
  refine hw_start1 (by decide +kernel) (by exact Nat.le_of_ble_eq_true rfl) ?_
  intro p e s m below meth c ls C0 hR hS hl
  have hl : lv_has ls 6 [(0, hw_vr b (some x0)), (1, .int l1), (2, .int l2), (3, .int l3), (4, .int l4), (5, .int l5)] := by exact hl
  exact w1_spun_s hm C0 hR ⟨hl, (List.forall_mem_cons.mpr ⟨(fun h => by rw [show (hw_vr b (some x0) : Value).category = 1 from (hw_vr_cat _ _)] at h; cases h), (List.forall_mem_cons.mpr ⟨(fun h => absurd (show (1 : Nat) = 2 from h) (by decide)), (List.forall_mem_cons.mpr ⟨(fun h => absurd (show (1 : Nat) = 2 from h) (by decide)), (List.forall_mem_cons.mpr ⟨(fun h => absurd (show (1 : Nat) = 2 from h) (by decide)), (List.forall_mem_cons.mpr ⟨(fun h => absurd (show (1 : Nat) = 2 from h) (by decide)), (List.forall_mem_cons.mpr ⟨(fun h => absurd (show (1 : Nat) = 2 from h) (by decide)), (fun _ h => absurd h List.not_mem_nil)⟩)⟩)⟩)⟩)⟩)⟩)⟩

abbrev rm7_spun : Room := { frames := 1, cells := 0, slots := 0, locals := 21 }
def m7_spun (x0 : Nat) (l1 : Int32) (l2 : Int32) (l3 : Int32) (l4 : Int32) (l5 : Int32) (σ : hw_S) : Option Int32 :=
  (hw_gI hw_qL 2 (some x0) σ).bind fun v2 =>
  (m11_flowOf l4).bind fun v7 =>
  (m11_heightOf l4).bind fun v13 =>
  (m11_cut (v2 * v7) v13).bind fun v16 =>
  some (l1 + v16)
set_option maxRecDepth 100000 in
theorem w7_spun_s {p : Program} {l : Launch} {e : Env} {s : State} {m : MethodId} {args : Array Value} {below : List Frame} {meth : Method} {c : Code} {D : hw_D} {b : Nat} {x0 : Nat} {l1 : Int32} {l2 : Int32} {l3 : Int32} {l4 : Int32} {l5 : Int32} {σ : hw_S} {r : Int32} (hm : m7_spun x0 l1 l2 l3 l4 l5 σ = some r) (C0 : hw_C p s m args meth c D yX7_spun cX7_spun 6 (some .int)) (hR : hw_R D b σ s.heap) {ls : Array Slot} (hl : hw_L ls 6 255 [(0, hw_vr b (some x0)), (1, .int l1), (2, .int l2), (3, .int l3), (4, .int l4), (5, .int l5)]) : W p l e rm7_spun s m args below meth c s.heap [] 0 0 (MQ below (hw_RI r) args s 0 0 hw_nof) (F0 m 0 ls []) := by
  obtain ⟨hx, hb, hml, hr, hown, hts, hlk, hE, hnm⟩ := id C0
  have hown : s.vm.findClass RX7 = some m.cls := hown
  have hK := hE.1
  unfold m7_spun at hm
  refine lv_iload_n hx hb dX7_spun_0 rfl (hl.at 1 rfl) ?_
  refine hw_aload_n hx hb dX7_spun_1 rfl (hl.at 0 rfl) ?_
  obtain ⟨v2, e2, hm⟩ := hw_bs hm
  refine hw_getI hx hb hw_cfL hts hown hK hR e2 (by decide) rfl (hts _ hw_m543) (fun x9 h9 => u_same (hts _ hw_m544) x9 h9) dX7_spun_2 ?_
  refine lv_iload hx hb dX7_spun_5 (hl.at 4 rfl) ?_
  obtain ⟨v7, e7, hm⟩ := hw_bs hm
  refine hw_cRI (va_runSN (As := [.int l4]) (rest := [.int v2, .int l1]) ⟨hx, hb, hml, hown, hts⟩ (c11_flowOf l D e7) ⟨va_cnB 1 hts (hw_gC hw_m453) rfl rfl rfl (hE.2.1 _ (List.mem_of_getElem? (i := 11) rfl)) (hts _ hw_m2) (by decide +kernel) ⟨(Nat.le_of_ble_eq_true rfl), (Nat.le_of_ble_eq_true rfl)⟩, hts _ hw_m452, trivial⟩ (hw_pre0 hE) rfl rfl hl.sz rfl (lv_room (Nat.le_of_ble_eq_true rfl)) dX7_spun_7 ⟨(Nat.le_of_ble_eq_true rfl), (Nat.le_of_ble_eq_true rfl)⟩) ?_
  refine lv_imul hx hb dX7_spun_10 ?_
  refine lv_iload hx hb dX7_spun_11 (hl.at 4 rfl) ?_
  obtain ⟨v13, e13, hm⟩ := hw_bs hm
  refine hw_cRI (va_runSN (As := [.int l4]) (rest := [.int (v2 * v7), .int l1]) ⟨hx, hb, hml, hown, hts⟩ (c11_heightOf l D e13) ⟨va_cnB 1 hts (hw_gC hw_m447) rfl rfl rfl (hE.2.1 _ (List.mem_of_getElem? (i := 12) rfl)) (hts _ hw_m2) (by decide +kernel) ⟨(Nat.le_of_ble_eq_true rfl), (Nat.le_of_ble_eq_true rfl)⟩, hts _ hw_m446, trivial⟩ (hw_pre0 hE) rfl rfl hl.sz rfl (lv_room (Nat.le_of_ble_eq_true rfl)) dX7_spun_13 ⟨(Nat.le_of_ble_eq_true rfl), (Nat.le_of_ble_eq_true rfl)⟩) ?_
  obtain ⟨v16, e16, hm⟩ := hw_bs hm
  refine hw_cRI (va_runSN (As := [.int (v2 * v7), .int v13]) (rest := [.int l1]) ⟨hx, hb, hml, hown, hts⟩ (c11_cut l D e16) ⟨va_cnB 2 hts (hw_gC hw_m521) rfl rfl rfl (hE.2.1 _ (List.mem_of_getElem? (i := 13) rfl)) (hts _ hw_m2) (by decide +kernel) ⟨(Nat.le_of_ble_eq_true rfl), (Nat.le_of_ble_eq_true rfl)⟩, hts _ hw_m520, trivial⟩ (hw_pre0 hE) rfl rfl hl.sz rfl (lv_room (Nat.le_of_ble_eq_true rfl)) dX7_spun_16 ⟨(Nat.le_of_ble_eq_true rfl), (Nat.le_of_ble_eq_true rfl)⟩) ?_
  refine lv_iadd hx hb dX7_spun_19 ?_
  exact hw_rRI hx hb hr hlk hm dX7_spun_20
set_option maxRecDepth 100000 in
theorem c7_spun (l : Launch) (D : hw_D) (b : Nat) {x0 : Nat} {l1 : Int32} {l2 : Int32} {l3 : Int32} {l4 : Int32} {l5 : Int32} {σ : hw_S} {r : Int32} (hm : m7_spun x0 l1 l2 l3 l4 l5 σ = some r) : Met l yX7_spun (Cond.code yX7_spun cX7_spun 6 (some .int) :: wsL_law) rm7_spun (hw_P1 D b σ [hw_vr b (some x0), .int l1, .int l2, .int l3, .int l4, .int l5]) (hw_RI r) 0 0 hw_nof := by
  refine hw_start1 (by decide +kernel) (by exact Nat.le_of_ble_eq_true rfl) ?_
  intro p e s m below meth c ls C0 hR hS hl
  have hl : lv_has ls 6 [(0, hw_vr b (some x0)), (1, .int l1), (2, .int l2), (3, .int l3), (4, .int l4), (5, .int l5)] := by exact hl
  exact w7_spun_s hm C0 hR ⟨hl, (List.forall_mem_cons.mpr ⟨(fun h => by rw [show (hw_vr b (some x0) : Value).category = 1 from (hw_vr_cat _ _)] at h; cases h), (List.forall_mem_cons.mpr ⟨(fun h => absurd (show (1 : Nat) = 2 from h) (by decide)), (List.forall_mem_cons.mpr ⟨(fun h => absurd (show (1 : Nat) = 2 from h) (by decide)), (List.forall_mem_cons.mpr ⟨(fun h => absurd (show (1 : Nat) = 2 from h) (by decide)), (List.forall_mem_cons.mpr ⟨(fun h => absurd (show (1 : Nat) = 2 from h) (by decide)), (List.forall_mem_cons.mpr ⟨(fun h => absurd (show (1 : Nat) = 2 from h) (by decide)), (fun _ h => absurd h List.not_mem_nil)⟩)⟩)⟩)⟩)⟩)⟩)⟩

abbrev rm5_spun : Room := { frames := 2, cells := 0, slots := 0, locals := 46 }
def m5_spun (x0 : Nat) (l1 : Int32) (l2 : Int32) (l3 : Int32) (l4 : Int32) (l5 : Int32) (σ : hw_S) : Option Int32 :=
  (hw_rv hw_qL (some x0) σ).bind fun a8 =>
  (m1_spun x0 l1 l2 l3 l4 l5 σ).bind fun v8 =>
  (hw_gI hw_qL 2 (some x0) σ).bind fun v15 =>
  some (hw_min v8 (l1 + ((9 : Int32) * v15)))
set_option maxRecDepth 100000 in
theorem w5_spun_s {p : Program} {l : Launch} {e : Env} {s : State} {m : MethodId} {args : Array Value} {below : List Frame} {meth : Method} {c : Code} {D : hw_D} {b : Nat} {x0 : Nat} {l1 : Int32} {l2 : Int32} {l3 : Int32} {l4 : Int32} {l5 : Int32} {σ : hw_S} {r : Int32} (hm : m5_spun x0 l1 l2 l3 l4 l5 σ = some r) (C0 : hw_C p s m args meth c D yX5_spun cX5_spun 6 (some .int)) (hR : hw_R D b σ s.heap) {ls : Array Slot} (hl : hw_L ls 6 255 [(0, hw_vr b (some x0)), (1, .int l1), (2, .int l2), (3, .int l3), (4, .int l4), (5, .int l5)]) : W p l e rm5_spun s m args below meth c s.heap [] 0 0 (MQ below (hw_RI r) args s 0 0 hw_nof) (F0 m 0 ls []) := by
  obtain ⟨hx, hb, hml, hr, hown, hts, hlk, hE, hnm⟩ := id C0
  have hown : s.vm.findClass RX5 = some m.cls := hown
  have hK := hE.1
  unfold m5_spun at hm
  refine hw_aload_n hx hb dX5_spun_0 rfl (hl.at 0 rfl) ?_
  refine lv_iload_n hx hb dX5_spun_1 rfl (hl.at 1 rfl) ?_
  refine lv_iload_n hx hb dX5_spun_2 rfl (hl.at 2 rfl) ?_
  refine lv_iload_n hx hb dX5_spun_3 rfl (hl.at 3 rfl) ?_
  refine lv_iload hx hb dX5_spun_4 (hl.at 4 rfl) ?_
  refine lv_iload hx hb dX5_spun_6 (hl.at 5 rfl) ?_
  obtain ⟨a8, g8, hm⟩ := hw_bs hm
  obtain ⟨rfl, ht8⟩ := hw_rv_th g8
  obtain ⟨C8, cC8, hat8, hpre8⟩ := hw_preL (av := [.int l1, .int l2, .int l3, .int l4, .int l5]) hE hR ht8
  obtain ⟨v8, e8, hm⟩ := hw_bs hm
  refine hw_cRI (va_runSU (As := [.int l1, .int l2, .int l3, .int l4, .int l5]) (rest := []) hat8 ⟨hx, hb, hml, hown, hts⟩ (c1_spun l D b e8) (va_cwSU 5 hts (hw_gSU hw_m536 hw_m537 hw_m538 hw_m524 hw_m273 hw_m525) rfl rfl rfl (by decide +kernel) ⟨(Nat.le_of_ble_eq_true rfl), (Nat.le_of_ble_eq_true rfl)⟩) hpre8 rfl rfl hl.sz rfl (lv_room (Nat.le_of_ble_eq_true rfl)) dX5_spun_8 ⟨(Nat.le_of_ble_eq_true rfl), (Nat.le_of_ble_eq_true rfl)⟩) ?_
  refine lv_iload_n hx hb dX5_spun_11 rfl (hl.at 1 rfl) ?_
  refine lv_bipush (v := 9) hx hb dX5_spun_12 (by decide) ?_
  refine hw_aload_n hx hb dX5_spun_14 rfl (hl.at 0 rfl) ?_
  obtain ⟨v15, e15, hm⟩ := hw_bs hm
  refine hw_getI hx hb hw_cfL hts hown hK hR e15 (by decide) rfl (hts _ hw_m533) (fun x9 h9 => u_same (hts _ hw_m534) x9 h9) dX5_spun_15 ?_
  refine lv_imul hx hb dX5_spun_18 ?_
  refine lv_iadd hx hb dX5_spun_19 ?_
  refine hw_mmin hx hb hml hl hown (hts _ hw_m535) (hts _ hw_m156) (hts _ hw_m157) (hts _ hw_m158) (Nat.le_of_ble_eq_true rfl) ⟨Nat.le_of_ble_eq_true rfl, (Nat.le_of_ble_eq_true rfl)⟩ (Nat.le_of_ble_eq_true rfl) (Nat.le_of_ble_eq_true rfl) dX5_spun_20 ?_
  exact hw_rRI hx hb hr hlk hm dX5_spun_23
set_option maxRecDepth 100000 in
theorem c5_spun (l : Launch) (D : hw_D) (b : Nat) {x0 : Nat} {l1 : Int32} {l2 : Int32} {l3 : Int32} {l4 : Int32} {l5 : Int32} {σ : hw_S} {r : Int32} (hm : m5_spun x0 l1 l2 l3 l4 l5 σ = some r) : Met l yX5_spun (Cond.code yX5_spun cX5_spun 6 (some .int) :: wsL_law) rm5_spun (hw_P1 D b σ [hw_vr b (some x0), .int l1, .int l2, .int l3, .int l4, .int l5]) (hw_RI r) 0 0 hw_nof := by
  refine hw_start1 (by decide +kernel) (by exact Nat.le_of_ble_eq_true rfl) ?_
  intro p e s m below meth c ls C0 hR hS hl
  have hl : lv_has ls 6 [(0, hw_vr b (some x0)), (1, .int l1), (2, .int l2), (3, .int l3), (4, .int l4), (5, .int l5)] := by exact hl
  exact w5_spun_s hm C0 hR ⟨hl, (List.forall_mem_cons.mpr ⟨(fun h => by rw [show (hw_vr b (some x0) : Value).category = 1 from (hw_vr_cat _ _)] at h; cases h), (List.forall_mem_cons.mpr ⟨(fun h => absurd (show (1 : Nat) = 2 from h) (by decide)), (List.forall_mem_cons.mpr ⟨(fun h => absurd (show (1 : Nat) = 2 from h) (by decide)), (List.forall_mem_cons.mpr ⟨(fun h => absurd (show (1 : Nat) = 2 from h) (by decide)), (List.forall_mem_cons.mpr ⟨(fun h => absurd (show (1 : Nat) = 2 from h) (by decide)), (List.forall_mem_cons.mpr ⟨(fun h => absurd (show (1 : Nat) = 2 from h) (by decide)), (fun _ h => absurd h List.not_mem_nil)⟩)⟩)⟩)⟩)⟩)⟩)⟩

def mv_spun (x0 : Nat) (l1 : Int32) (l2 : Int32) (l3 : Int32) (l4 : Int32) (l5 : Int32) (σ : hw_S) : Option Int32 :=
  (if σ.1 x0 = 1 then m0_spun x0 l1 l2 l3 l4 l5 σ else (if σ.1 x0 = 2 then m1_spun x0 l1 l2 l3 l4 l5 σ else (if σ.1 x0 = 3 then m2_spun x0 l1 l2 l3 l4 l5 σ else (if σ.1 x0 = 4 then m3_spun x0 l1 l2 l3 l4 l5 σ else (if σ.1 x0 = 6 then m5_spun x0 l1 l2 l3 l4 l5 σ else (if σ.1 x0 = 7 then m2_spun x0 l1 l2 l3 l4 l5 σ else (if σ.1 x0 = 8 then m7_spun x0 l1 l2 l3 l4 l5 σ else  none)))))))
theorem mv_spun_0 {x0 : Nat} {l1 : Int32} {l2 : Int32} {l3 : Int32} {l4 : Int32} {l5 : Int32} {σ : hw_S} (h : σ.1 x0 = 1) : mv_spun x0 l1 l2 l3 l4 l5 σ = m0_spun x0 l1 l2 l3 l4 l5 σ := by simp [mv_spun, h]
theorem mv_spun_1 {x0 : Nat} {l1 : Int32} {l2 : Int32} {l3 : Int32} {l4 : Int32} {l5 : Int32} {σ : hw_S} (h : σ.1 x0 = 2) : mv_spun x0 l1 l2 l3 l4 l5 σ = m1_spun x0 l1 l2 l3 l4 l5 σ := by simp [mv_spun, h]
theorem mv_spun_2 {x0 : Nat} {l1 : Int32} {l2 : Int32} {l3 : Int32} {l4 : Int32} {l5 : Int32} {σ : hw_S} (h : σ.1 x0 = 3) : mv_spun x0 l1 l2 l3 l4 l5 σ = m2_spun x0 l1 l2 l3 l4 l5 σ := by simp [mv_spun, h]
theorem mv_spun_3 {x0 : Nat} {l1 : Int32} {l2 : Int32} {l3 : Int32} {l4 : Int32} {l5 : Int32} {σ : hw_S} (h : σ.1 x0 = 4) : mv_spun x0 l1 l2 l3 l4 l5 σ = m3_spun x0 l1 l2 l3 l4 l5 σ := by simp [mv_spun, h]
theorem mv_spun_5 {x0 : Nat} {l1 : Int32} {l2 : Int32} {l3 : Int32} {l4 : Int32} {l5 : Int32} {σ : hw_S} (h : σ.1 x0 = 6) : mv_spun x0 l1 l2 l3 l4 l5 σ = m5_spun x0 l1 l2 l3 l4 l5 σ := by simp [mv_spun, h]
theorem mv_spun_6 {x0 : Nat} {l1 : Int32} {l2 : Int32} {l3 : Int32} {l4 : Int32} {l5 : Int32} {σ : hw_S} (h : σ.1 x0 = 7) : mv_spun x0 l1 l2 l3 l4 l5 σ = m2_spun x0 l1 l2 l3 l4 l5 σ := by simp [mv_spun, h]
theorem mv_spun_7 {x0 : Nat} {l1 : Int32} {l2 : Int32} {l3 : Int32} {l4 : Int32} {l5 : Int32} {σ : hw_S} (h : σ.1 x0 = 8) : mv_spun x0 l1 l2 l3 l4 l5 σ = m7_spun x0 l1 l2 l3 l4 l5 σ := by simp [mv_spun, h]

abbrev rm3_turnsIn : Room := { frames := 3, cells := 0, slots := 0, locals := 71 }
def m3_turnsIn (x0 : Nat) (l1 : Option Nat) (l2 : Int32) (l3 : Int32) (l4 : Int32) (σ : hw_S) : Option Int32 :=
  (hw_rv hw_qL (some x0) σ).bind fun a7 =>
  (m3_baseIn x0 l1 l3 σ).bind fun v7 =>
  (hw_gI (hw_q 9) 1 l1 σ).bind fun v11 =>
  (hw_rv hw_qL (some x0) σ).bind fun a18 =>
  (mv_spun x0 v7 v11 l2 l3 l4 σ).bind fun v18 =>
  some (hw_min (999 : Int32) v18)
set_option maxRecDepth 100000 in
theorem w3_turnsIn_s {p : Program} {l : Launch} {e : Env} {s : State} {m : MethodId} {args : Array Value} {below : List Frame} {meth : Method} {c : Code} {D : hw_D} {b : Nat} {x0 : Nat} {l1 : Option Nat} {l2 : Int32} {l3 : Int32} {l4 : Int32} {σ : hw_S} {r : Int32} (hm : m3_turnsIn x0 l1 l2 l3 l4 σ = some r) (C0 : hw_C p s m args meth c D yX3_turnsIn cX3_turnsIn 5 (some .int)) (hR : hw_R D b σ s.heap) {ls : Array Slot} (hl : hw_L ls 5 255 [(0, hw_vr b (some x0)), (1, hw_vr b l1), (2, .int l2), (3, .int l3), (4, .int l4)]) : W p l e rm3_turnsIn s m args below meth c s.heap [] 0 0 (MQ below (hw_RI r) args s 0 0 hw_nof) (F0 m 0 ls []) := by
  obtain ⟨hx, hb, hml, hr, hown, hts, hlk, hE, hnm⟩ := id C0
  have hown : s.vm.findClass RX3 = some m.cls := hown
  have hK := hE.1
  unfold m3_turnsIn at hm
  refine lv_sipush (v := 999) hx hb dX3_turnsIn_0 (by decide) ?_
  refine hw_aload_n hx hb dX3_turnsIn_3 rfl (hl.at 0 rfl) ?_
  refine hw_aload_n hx hb dX3_turnsIn_4 rfl (hl.at 0 rfl) ?_
  refine hw_aload_n hx hb dX3_turnsIn_5 rfl (hl.at 1 rfl) ?_
  refine lv_iload_n hx hb dX3_turnsIn_6 rfl (hl.at 3 rfl) ?_
  obtain ⟨a7, g7, hm⟩ := hw_bs hm
  obtain ⟨rfl, ht7⟩ := hw_rv_th g7
  obtain ⟨ci7, C7, f7_1, f7_2, f7_3, f7_4⟩ := hw_sel7 (y := fun _ => yX3_baseIn) ht7 hw_m459 hw_m475 hw_m476 hw_m478 hw_m479 hw_m480 hw_m481
  obtain ⟨v7, e7, hm⟩ := hw_bs hm
  refine hw_cRI (va_runU (C := C7) (owner := RX3) (As := [hw_vr b l1, .int l3]) (rest := [hw_vr b (some x0), .int (999 : Int32)]) ⟨hx, hb, hml, hown, hts⟩ (c3_baseIn l D b e7) (va_cwU 2 hts (hw_gU hw_m503 hw_m458 f7_4 hw_m460 hw_m285 hw_m461) rfl rfl rfl rfl (by decide +kernel) ⟨(Nat.le_of_ble_eq_true rfl), (Nat.le_of_ble_eq_true rfl)⟩) (hw_preV hE hR f7_3 f7_2 f7_1) rfl rfl hl.sz rfl (lv_room (hw_sm (List.forall_mem_cons.mpr ⟨(hw_vr_cat _ _), (List.forall_mem_cons.mpr ⟨rfl, (fun _ h => absurd h List.not_mem_nil)⟩)⟩) (Nat.le_of_ble_eq_true rfl))) dX3_turnsIn_7 ⟨(Nat.le_of_ble_eq_true rfl), (Nat.le_of_ble_eq_true rfl)⟩) ?_
  refine hw_aload_n hx hb dX3_turnsIn_10 rfl (hl.at 1 rfl) ?_
  obtain ⟨v11, e11, hm⟩ := hw_bs hm
  refine hw_getI hx hb hw_cf9 hts hown hK hR e11 (by decide) rfl (hts _ hw_m471) (fun _ h9 => h9) dX3_turnsIn_11 ?_
  refine lv_iload_n hx hb dX3_turnsIn_14 rfl (hl.at 2 rfl) ?_
  refine lv_iload_n hx hb dX3_turnsIn_15 rfl (hl.at 3 rfl) ?_
  refine lv_iload hx hb dX3_turnsIn_16 (hl.at 4 rfl) ?_
  obtain ⟨a18, g18, hm⟩ := hw_bs hm
  obtain ⟨rfl, ht18⟩ := hw_rv_th g18
  obtain ⟨v18, e18, hm⟩ := hw_bs hm
  refine hw_cRI (r := v18) (rest := [.int (999 : Int32)]) (a := (Value.ref (b + x0) :: [.int v7, .int v11, .int l2, .int l3, .int l4]).toArray) ?_ ?_
  · rcases hw_qL_or ht18 with ht18_0 | ht18_1 | ht18_2 | ht18_3 | ht18_5 | ht18_6 | ht18_7
    · exact va_runU (C := RX0) (owner := RX3) (As := [.int v7, .int v11, .int l2, .int l3, .int l4]) (rest := [.int (999 : Int32)]) ⟨hx, hb, hml, hown, hts⟩ (c0_spun l D b ((mv_spun_0 ht18_0).symm.trans e18)) (va_cwO 5 hts (hw_gO hw_m505 hw_m506 hw_m507 hw_m508 hw_m509 hw_m276 hw_m510) rfl rfl rfl hw_m522 (by decide +kernel) ⟨(Nat.le_of_ble_eq_true rfl), (Nat.le_of_ble_eq_true rfl)⟩) (hw_preV (ci := 0) hE hR rfl (by decide) ht18_0) rfl rfl hl.sz rfl (lv_room (Nat.le_of_ble_eq_true rfl)) dX3_turnsIn_18 ⟨(Nat.le_of_ble_eq_true rfl), (Nat.le_of_ble_eq_true rfl)⟩
    · exact va_runU (C := RX1) (owner := RX3) (As := [.int v7, .int v11, .int l2, .int l3, .int l4]) (rest := [.int (999 : Int32)]) ⟨hx, hb, hml, hown, hts⟩ (c1_spun l D b ((mv_spun_1 ht18_1).symm.trans e18)) (va_cwO 5 hts (hw_gO hw_m505 hw_m506 hw_m507 hw_m523 hw_m524 hw_m273 hw_m525) rfl rfl rfl hw_m522 (by decide +kernel) ⟨(Nat.le_of_ble_eq_true rfl), (Nat.le_of_ble_eq_true rfl)⟩) (hw_preV (ci := 1) hE hR rfl (by decide) ht18_1) rfl rfl hl.sz rfl (lv_room (Nat.le_of_ble_eq_true rfl)) dX3_turnsIn_18 ⟨(Nat.le_of_ble_eq_true rfl), (Nat.le_of_ble_eq_true rfl)⟩
    · exact va_runU (C := RX2) (owner := RX3) (As := [.int v7, .int v11, .int l2, .int l3, .int l4]) (rest := [.int (999 : Int32)]) ⟨hx, hb, hml, hown, hts⟩ (c2_spun l D b ((mv_spun_2 ht18_2).symm.trans e18)) (va_cwO 5 hts (hw_gO hw_m505 hw_m506 hw_m507 hw_m526 hw_m516 hw_m270 hw_m517) rfl rfl rfl hw_m522 (by decide +kernel) ⟨(Nat.le_of_ble_eq_true rfl), (Nat.le_of_ble_eq_true rfl)⟩) (hw_preV (ci := 2) hE hR rfl (by decide) ht18_2) rfl rfl hl.sz rfl (lv_room (Nat.le_of_ble_eq_true rfl)) dX3_turnsIn_18 ⟨(Nat.le_of_ble_eq_true rfl), (Nat.le_of_ble_eq_true rfl)⟩
    · exact va_runU (C := RX3) (owner := RX3) (As := [.int v7, .int v11, .int l2, .int l3, .int l4]) (rest := [.int (999 : Int32)]) ⟨hx, hb, hml, hown, hts⟩ (c3_spun l D b ((mv_spun_3 ht18_3).symm.trans e18)) (va_cwU 5 hts (hw_gU hw_m505 hw_m506 hw_m529 hw_m507 hw_m285 hw_m522) rfl rfl rfl rfl (by decide +kernel) ⟨(Nat.le_of_ble_eq_true rfl), (Nat.le_of_ble_eq_true rfl)⟩) (hw_preV (ci := 3) hE hR rfl (by decide) ht18_3) rfl rfl hl.sz rfl (lv_room (Nat.le_of_ble_eq_true rfl)) dX3_turnsIn_18 ⟨(Nat.le_of_ble_eq_true rfl), (Nat.le_of_ble_eq_true rfl)⟩
    · exact va_runU (C := RX5) (owner := RX3) (As := [.int v7, .int v11, .int l2, .int l3, .int l4]) (rest := [.int (999 : Int32)]) ⟨hx, hb, hml, hown, hts⟩ (c5_spun l D b ((mv_spun_5 ht18_5).symm.trans e18)) (va_cwO 5 hts (hw_gO hw_m505 hw_m506 hw_m507 hw_m530 hw_m531 hw_m282 hw_m532) rfl rfl rfl hw_m522 (by decide +kernel) ⟨(Nat.le_of_ble_eq_true rfl), (Nat.le_of_ble_eq_true rfl)⟩) (hw_preV (ci := 5) hE hR rfl (by decide) ht18_5) rfl rfl hl.sz rfl (lv_room (Nat.le_of_ble_eq_true rfl)) dX3_turnsIn_18 ⟨(Nat.le_of_ble_eq_true rfl), (Nat.le_of_ble_eq_true rfl)⟩
    · exact va_runU (C := RX6) (owner := RX3) (As := [.int v7, .int v11, .int l2, .int l3, .int l4]) (rest := [.int (999 : Int32)]) ⟨hx, hb, hml, hown, hts⟩ (c2_spun l D b ((mv_spun_6 ht18_6).symm.trans e18)) (va_cwO 5 hts (hw_gO hw_m505 hw_m506 hw_m507 hw_m539 hw_m516 hw_m270 hw_m517) rfl rfl rfl hw_m522 (by decide +kernel) ⟨(Nat.le_of_ble_eq_true rfl), (Nat.le_of_ble_eq_true rfl)⟩) (hw_preV (ci := 6) hE hR rfl (by decide) ht18_6) rfl rfl hl.sz rfl (lv_room (Nat.le_of_ble_eq_true rfl)) dX3_turnsIn_18 ⟨(Nat.le_of_ble_eq_true rfl), (Nat.le_of_ble_eq_true rfl)⟩
    · exact va_runU (C := RX7) (owner := RX3) (As := [.int v7, .int v11, .int l2, .int l3, .int l4]) (rest := [.int (999 : Int32)]) ⟨hx, hb, hml, hown, hts⟩ (c7_spun l D b ((mv_spun_7 ht18_7).symm.trans e18)) (va_cwO 5 hts (hw_gO hw_m505 hw_m506 hw_m507 hw_m540 hw_m541 hw_m267 hw_m542) rfl rfl rfl hw_m522 (by decide +kernel) ⟨(Nat.le_of_ble_eq_true rfl), (Nat.le_of_ble_eq_true rfl)⟩) (hw_preV (ci := 7) hE hR rfl (by decide) ht18_7) rfl rfl hl.sz rfl (lv_room (Nat.le_of_ble_eq_true rfl)) dX3_turnsIn_18 ⟨(Nat.le_of_ble_eq_true rfl), (Nat.le_of_ble_eq_true rfl)⟩
  refine hw_mmin hx hb hml hl hown (hts _ hw_m502) (hts _ hw_m156) (hts _ hw_m157) (hts _ hw_m158) (Nat.le_of_ble_eq_true rfl) ⟨Nat.le_of_ble_eq_true rfl, (Nat.le_of_ble_eq_true rfl)⟩ (Nat.le_of_ble_eq_true rfl) (Nat.le_of_ble_eq_true rfl) dX3_turnsIn_21 ?_
  exact hw_rRI hx hb hr hlk hm dX3_turnsIn_24
set_option maxRecDepth 100000 in
theorem c3_turnsIn (l : Launch) (D : hw_D) (b : Nat) {x0 : Nat} {l1 : Option Nat} {l2 : Int32} {l3 : Int32} {l4 : Int32} {σ : hw_S} {r : Int32} (hm : m3_turnsIn x0 l1 l2 l3 l4 σ = some r) : Met l yX3_turnsIn (Cond.code yX3_turnsIn cX3_turnsIn 5 (some .int) :: wsL_law) rm3_turnsIn (hw_P1 D b σ [hw_vr b (some x0), hw_vr b l1, .int l2, .int l3, .int l4]) (hw_RI r) 0 0 hw_nof := by
  refine hw_start1 (by decide +kernel) (by cases l1 <;> exact Nat.le_of_ble_eq_true rfl) ?_
  intro p e s m below meth c ls C0 hR hS hl
  have hl : lv_has ls 5 [(0, hw_vr b (some x0)), (1, hw_vr b l1), (2, .int l2), (3, .int l3), (4, .int l4)] := by cases l1 <;> exact hl
  exact w3_turnsIn_s hm C0 hR ⟨hl, (List.forall_mem_cons.mpr ⟨(fun h => by rw [show (hw_vr b (some x0) : Value).category = 1 from (hw_vr_cat _ _)] at h; cases h), (List.forall_mem_cons.mpr ⟨(fun h => by rw [show (hw_vr b l1 : Value).category = 1 from (hw_vr_cat _ _)] at h; cases h), (List.forall_mem_cons.mpr ⟨(fun h => absurd (show (1 : Nat) = 2 from h) (by decide)), (List.forall_mem_cons.mpr ⟨(fun h => absurd (show (1 : Nat) = 2 from h) (by decide)), (List.forall_mem_cons.mpr ⟨(fun h => absurd (show (1 : Nat) = 2 from h) (by decide)), (fun _ h => absurd h List.not_mem_nil)⟩)⟩)⟩)⟩)⟩)⟩

abbrev rm11_turnsIn : Room := { frames := 4, cells := 0, slots := 0, locals := 95 }
def m11_turnsIn (l0 : Option Nat) (l1 : Option Nat) (l2 : Int32) (σ : hw_S) : Option Int32 :=
  (hw_gI (hw_q 9) 0 l1 σ).bind fun v3 =>
  (m11_heightOf l2).bind fun v9 =>
  (hw_rv hw_qL l0 σ).bind fun a12 =>
  (m3_isHighAt a12 v9 σ).bind fun v12 =>
  (hw_rv hw_qL (some a12) σ).bind fun a15 =>
  (m3_turnsIn a12 l1 v3 l2 v12 σ).bind fun v15 =>
  some v15
set_option maxRecDepth 100000 in
theorem w11_turnsIn_s {p : Program} {l : Launch} {e : Env} {s : State} {m : MethodId} {args : Array Value} {below : List Frame} {meth : Method} {c : Code} {D : hw_D} {b : Nat} {l0 : Option Nat} {l1 : Option Nat} {l2 : Int32} {σ : hw_S} {r : Int32} (hm : m11_turnsIn l0 l1 l2 σ = some r) (C0 : hw_C p s m args meth c D yX11_turnsIn cX11_turnsIn 3 (some .int)) (hR : hw_R D b σ s.heap) {ls : Array Slot} (hl : hw_L ls 3 255 [(0, hw_vr b l0), (1, hw_vr b l1), (2, .int l2)]) : W p l e rm11_turnsIn s m args below meth c s.heap [] 0 0 (MQ below (hw_RI r) args s 0 0 hw_nof) (F0 m 0 ls []) := by
  obtain ⟨hx, hb, hml, hr, hown, hts, hlk, hE, hnm⟩ := id C0
  have hown : s.vm.findClass RX11 = some m.cls := hown
  have hK := hE.1
  unfold m11_turnsIn at hm
  refine hw_aload_n hx hb dX11_turnsIn_0 rfl (hl.at 0 rfl) ?_
  refine hw_aload_n hx hb dX11_turnsIn_1 rfl (hl.at 1 rfl) ?_
  refine hw_aload_n hx hb dX11_turnsIn_2 rfl (hl.at 1 rfl) ?_
  obtain ⟨v3, e3, hm⟩ := hw_bs hm
  refine hw_getI hx hb hw_cf9 hts hown hK hR e3 (by decide) rfl (hts _ hw_m119) (fun _ h9 => h9) dX11_turnsIn_3 ?_
  refine lv_iload_n hx hb dX11_turnsIn_6 rfl (hl.at 2 rfl) ?_
  refine hw_aload_n hx hb dX11_turnsIn_7 rfl (hl.at 0 rfl) ?_
  refine lv_iload_n hx hb dX11_turnsIn_8 rfl (hl.at 2 rfl) ?_
  obtain ⟨v9, e9, hm⟩ := hw_bs hm
  refine hw_cRI (va_runS (As := [.int l2]) (rest := [hw_vr b l0, .int l2, .int v3, hw_vr b l1, hw_vr b l0]) ⟨hx, hb, hml, hown, hts⟩ (c11_heightOf l D e9) (cwS 1 hts (hw_gS hw_m445 hw_m446 hw_m2 hw_m447) rfl rfl rfl (by decide +kernel) ⟨(Nat.le_of_ble_eq_true rfl), (Nat.le_of_ble_eq_true rfl)⟩) (hw_pre0 hE) rfl rfl hl.sz rfl (lv_room (hw_sm (List.forall_mem_cons.mpr ⟨(hw_vr_cat _ _), (List.forall_mem_cons.mpr ⟨rfl, (List.forall_mem_cons.mpr ⟨rfl, (List.forall_mem_cons.mpr ⟨(hw_vr_cat _ _), (List.forall_mem_cons.mpr ⟨(hw_vr_cat _ _), (fun _ h => absurd h List.not_mem_nil)⟩)⟩)⟩)⟩)⟩) (Nat.le_of_ble_eq_true rfl))) dX11_turnsIn_9 ⟨(Nat.le_of_ble_eq_true rfl), (Nat.le_of_ble_eq_true rfl)⟩) ?_
  obtain ⟨a12, g12, hm⟩ := hw_bs hm
  obtain ⟨h12, ht12⟩ := hw_rv_of g12
  rw [h12]
  obtain ⟨ci12, C12, f12_1, f12_2, f12_3, f12_4⟩ := hw_sel7 (y := fun _ => yX3_isHighAt) ht12 hw_m487 hw_m490 hw_m491 hw_m493 hw_m494 hw_m495 hw_m496
  obtain ⟨v12, e12, hm⟩ := hw_bs hm
  refine hw_cRI (va_runU (C := C12) (owner := RX3) (As := [.int v9]) (rest := [.int l2, .int v3, hw_vr b l1, hw_vr b (some a12)]) ⟨hx, hb, hml, hown, hts⟩ (c3_isHighAt l D b e12) (va_cwU 1 hts (hw_gU hw_m485 hw_m486 f12_4 hw_m488 hw_m285 hw_m489) rfl rfl rfl rfl (by decide +kernel) ⟨(Nat.le_of_ble_eq_true rfl), (Nat.le_of_ble_eq_true rfl)⟩) (hw_preV hE hR f12_3 f12_2 f12_1) rfl rfl hl.sz rfl (lv_room (hw_sm (List.forall_mem_cons.mpr ⟨rfl, (List.forall_mem_cons.mpr ⟨rfl, (List.forall_mem_cons.mpr ⟨(hw_vr_cat _ _), (List.forall_mem_cons.mpr ⟨(hw_vr_cat _ _), (fun _ h => absurd h List.not_mem_nil)⟩)⟩)⟩)⟩) (Nat.le_of_ble_eq_true rfl))) dX11_turnsIn_12 ⟨(Nat.le_of_ble_eq_true rfl), (Nat.le_of_ble_eq_true rfl)⟩) ?_
  obtain ⟨a15, g15, hm⟩ := hw_bs hm
  obtain ⟨rfl, ht15⟩ := hw_rv_th g15
  obtain ⟨ci15, C15, f15_1, f15_2, f15_3, f15_4⟩ := hw_sel7 (y := fun _ => yX3_turnsIn) ht15 hw_m499 hw_m545 hw_m546 hw_m548 hw_m549 hw_m550 hw_m551
  obtain ⟨v15, e15, hm⟩ := hw_bs hm
  refine hw_cRI (va_runU (C := C15) (owner := RX3) (As := [hw_vr b l1, .int v3, .int l2, .int v12]) (rest := []) ⟨hx, hb, hml, hown, hts⟩ (c3_turnsIn l D b e15) (va_cwU 4 hts (hw_gU hw_m497 hw_m498 f15_4 hw_m500 hw_m285 hw_m501) rfl rfl rfl rfl (by decide +kernel) ⟨(Nat.le_of_ble_eq_true rfl), (Nat.le_of_ble_eq_true rfl)⟩) (hw_preV hE hR f15_3 f15_2 f15_1) rfl rfl hl.sz rfl (lv_room (Nat.le_of_ble_eq_true rfl)) dX11_turnsIn_15 ⟨(Nat.le_of_ble_eq_true rfl), (Nat.le_of_ble_eq_true rfl)⟩) ?_
  exact hw_rRI hx hb hr hlk hm dX11_turnsIn_18
set_option maxRecDepth 100000 in
theorem c11_turnsIn (l : Launch) (D : hw_D) (b : Nat) {l0 : Option Nat} {l1 : Option Nat} {l2 : Int32} {σ : hw_S} {r : Int32} (hm : m11_turnsIn l0 l1 l2 σ = some r) : Met l yX11_turnsIn (Cond.code yX11_turnsIn cX11_turnsIn 3 (some .int) :: wsL_law) rm11_turnsIn (hw_P1 D b σ [hw_vr b l0, hw_vr b l1, .int l2]) (hw_RI r) 0 0 hw_nof := by
  refine hw_start1 (by decide +kernel) (by cases l0 <;> cases l1 <;> exact Nat.le_of_ble_eq_true rfl) ?_
  intro p e s m below meth c ls C0 hR hS hl
  have hl : lv_has ls 3 [(0, hw_vr b l0), (1, hw_vr b l1), (2, .int l2)] := by cases l0 <;> cases l1 <;> exact hl
  exact w11_turnsIn_s hm C0 hR ⟨hl, (List.forall_mem_cons.mpr ⟨(fun h => by rw [show (hw_vr b l0 : Value).category = 1 from (hw_vr_cat _ _)] at h; cases h), (List.forall_mem_cons.mpr ⟨(fun h => by rw [show (hw_vr b l1 : Value).category = 1 from (hw_vr_cat _ _)] at h; cases h), (List.forall_mem_cons.mpr ⟨(fun h => absurd (show (1 : Nat) = 2 from h) (by decide)), (fun _ h => absurd h List.not_mem_nil)⟩)⟩)⟩)⟩

abbrev rm3_formAt : Room := { frames := 1, cells := 0, slots := 0, locals := 21 }
def m3_formAt_b44 (x0 : Nat) (l4 : Int32) (σ : hw_S) : Option Int32 :=
  some l4
set_option maxRecDepth 100000 in
theorem w3_formAt_b44 {p : Program} {l : Launch} {e : Env} {s : State} {m : MethodId} {args : Array Value} {below : List Frame} {meth : Method} {c : Code} {D : hw_D} {b : Nat} {r : Int32} (C0 : hw_C p s m args meth c D yX3_formAt cX3_formAt 6 (some .int)) {x0 : Nat} {l4 : Int32} {σ : hw_S} (hm : m3_formAt_b44 x0 l4 σ = some r) (hR : hw_R D b σ s.heap) {ls : Array Slot} (hl : hw_L ls 6 255 [(0, hw_vr b (some x0)), (4, .int l4)]) : W p l e rm3_formAt s m args below meth c s.heap [] 0 0 (MQ below (hw_RI r) args s 0 0 hw_nof) (F0 m 44 ls []) := by
  obtain ⟨hx, hb, hml, hr, hown, hts, hlk, hE, hnm⟩ := id C0
  have hown : s.vm.findClass RX3 = some m.cls := hown
  have hK := hE.1
  unfold m3_formAt_b44 at hm
  refine lv_iload hx hb dX3_formAt_44 (hl.at 1 rfl) ?_
  exact hw_rRI hx hb hr hlk hm dX3_formAt_46
def m3_formAt_b15 : Nat → Nat → Int32 → Int32 → Int32 → hw_S → Option Int32
  | 0, _, _, _, _, _ => none
  | n + 1, x0, l3, l4, l5, σ =>
  (if (4 : Int32) ≤ l5 then
  m3_formAt_b44 x0 l4 σ
  else
  (hw_gP hw_qL 5 (some x0) σ).bind fun v23 =>
  (hw_aI 0 v23 l5 σ).bind fun v28 =>
  (if l3 < v28 then
  m3_formAt_b44 x0 l4 σ
  else
  m3_formAt_b15 n x0 l3 (l5 + (1 : Int32)) (l5 + 1) σ))
set_option maxRecDepth 100000 in
theorem w3_formAt_b15 {p : Program} {l : Launch} {e : Env} {s : State} {m : MethodId} {args : Array Value} {below : List Frame} {meth : Method} {c : Code} {D : hw_D} {b : Nat} {r : Int32} (C0 : hw_C p s m args meth c D yX3_formAt cX3_formAt 6 (some .int)) : ∀ (n : Nat) {x0 : Nat} {l3 : Int32} {l4 : Int32} {l5 : Int32} {σ : hw_S} {ls : Array Slot}, m3_formAt_b15 n x0 l3 l4 l5 σ = some r → hw_R D b σ s.heap → hw_L ls 6 255 [(0, hw_vr b (some x0)), (3, .int l3), (4, .int l4), (5, .int l5)] → W p l e rm3_formAt s m args below meth c s.heap [] 0 0 (MQ below (hw_RI r) args s 0 0 hw_nof) (F0 m 15 ls []) := by
  obtain ⟨hx, hb, hml, hr, hown, hts, hlk, hE, hnm⟩ := id C0
  have hown : s.vm.findClass RX3 = some m.cls := hown
  have hK := hE.1
  intro n
  induction n with
  | zero => intro _ _ _ _ _ _ hm; cases hm
  | succ n ih =>
    intro x0 l3 l4 l5 σ ls hm hR hl
    rw [m3_formAt_b15] at hm
    refine lv_iload hx hb dX3_formAt_15 (hl.at 3 rfl) ?_
    refine lv_iconst (v := 4) hx hb dX3_formAt_17 (by decide) ?_
    refine lv_icmp_ge (tgt := 44) hx hb dX3_formAt_18 (by decide) (fun c18 => ?_) (fun c18 => ?_)
    · have hm := hw_ip hm c18
      exact w3_formAt_b44 C0 hm hR (hl.sub [0, 2] rfl)
    · have hm := hw_in hm c18
      refine lv_iload_n hx hb dX3_formAt_21 rfl (hl.at 1 rfl) ?_
      refine hw_aload_n hx hb dX3_formAt_22 rfl (hl.at 0 rfl) ?_
      obtain ⟨v23, e23, hm⟩ := hw_bs hm
      refine hw_getP hx hb hw_cfL hts hown hK hR e23 (by decide) rfl (hts _ hw_m302) (fun _ h9 => h9) dX3_formAt_23 ?_
      refine lv_iload hx hb dX3_formAt_26 (hl.at 3 rfl) ?_
      obtain ⟨v28, e28, hm⟩ := hw_bs hm
      refine hw_iald hx hb hK hR e28 dX3_formAt_28 ?_
      refine lv_icmp_lt (tgt := 44) hx hb dX3_formAt_29 (by decide) (fun c29 => ?_) (fun c29 => ?_)
      · have hm := hw_ip hm c29
        exact w3_formAt_b44 C0 hm hR (hl.sub [0, 2] rfl)
      · have hm := hw_in hm c29
        refine lv_iload hx hb dX3_formAt_32 (hl.at 3 rfl) ?_
        refine lv_iconst (v := 1) hx hb dX3_formAt_34 (by decide) ?_
        refine lv_iadd hx hb dX3_formAt_35 ?_
        refine hw_istore (lv' := [(4, .int (l5 + (1 : Int32))), (0, hw_vr b (some x0)), (3, .int l3), (5, .int l5)]) hx hb dX3_formAt_36 hl (by decide) (by decide) rfl (fun ls hl => ?_)
        refine hw_iinc (v := (l5 + 1)) (lv' := [(5, .int (l5 + 1)), (4, .int (l5 + (1 : Int32))), (0, hw_vr b (some x0)), (3, .int l3)]) hx hb dX3_formAt_38 hl (k := 3) rfl rfl (by decide) (by decide) rfl (fun ls hl => ?_)
        refine lv_goto (tgt := 15) hx hb dX3_formAt_41 (by decide) ?_
        exact ih hm hR (hl.sub [2, 3, 1, 0] rfl)
def m3_formAt (x0 : Nat) (l1 : Int32) (l2 : Int32) (σ : hw_S) : Option Int32 :=
  (m11_cut ((10 : Int32) * l2) l1).bind fun v5 =>
  m3_formAt_b15 hw_fu x0 v5 (0 : Int32) (0 : Int32) σ
set_option maxRecDepth 100000 in
theorem w3_formAt_s {p : Program} {l : Launch} {e : Env} {s : State} {m : MethodId} {args : Array Value} {below : List Frame} {meth : Method} {c : Code} {D : hw_D} {b : Nat} {x0 : Nat} {l1 : Int32} {l2 : Int32} {σ : hw_S} {r : Int32} (hm : m3_formAt x0 l1 l2 σ = some r) (C0 : hw_C p s m args meth c D yX3_formAt cX3_formAt 6 (some .int)) (hR : hw_R D b σ s.heap) {ls : Array Slot} (hl : hw_L ls 6 255 [(0, hw_vr b (some x0)), (1, .int l1), (2, .int l2)]) : W p l e rm3_formAt s m args below meth c s.heap [] 0 0 (MQ below (hw_RI r) args s 0 0 hw_nof) (F0 m 0 ls []) := by
  obtain ⟨hx, hb, hml, hr, hown, hts, hlk, hE, hnm⟩ := id C0
  have hown : s.vm.findClass RX3 = some m.cls := hown
  have hK := hE.1
  unfold m3_formAt at hm
  refine lv_bipush (v := 10) hx hb dX3_formAt_0 (by decide) ?_
  refine lv_iload_n hx hb dX3_formAt_2 rfl (hl.at 2 rfl) ?_
  refine lv_imul hx hb dX3_formAt_3 ?_
  refine lv_iload_n hx hb dX3_formAt_4 rfl (hl.at 1 rfl) ?_
  obtain ⟨v5, e5, hm⟩ := hw_bs hm
  refine hw_cRI (va_runSN (As := [.int ((10 : Int32) * l2), .int l1]) (rest := []) ⟨hx, hb, hml, hown, hts⟩ (c11_cut l D e5) ⟨va_cnB 2 hts (hw_gC hw_m521) rfl rfl rfl (hE.2.1 _ (List.mem_of_getElem? (i := 14) rfl)) (hts _ hw_m2) (by decide +kernel) ⟨(Nat.le_of_ble_eq_true rfl), (Nat.le_of_ble_eq_true rfl)⟩, hts _ hw_m520, trivial⟩ (hw_pre0 hE) rfl rfl hl.sz rfl (lv_room (Nat.le_of_ble_eq_true rfl)) dX3_formAt_5 ⟨(Nat.le_of_ble_eq_true rfl), (Nat.le_of_ble_eq_true rfl)⟩) ?_
  refine hw_istore_n (lv' := [(3, .int v5), (0, hw_vr b (some x0)), (1, .int l1), (2, .int l2)]) hx hb dX3_formAt_8 rfl hl (by decide) (by decide) rfl (fun ls hl => ?_)
  refine lv_iconst (v := 0) hx hb dX3_formAt_9 (by decide) ?_
  refine hw_istore (lv' := [(4, .int (0 : Int32)), (3, .int v5), (0, hw_vr b (some x0)), (1, .int l1), (2, .int l2)]) hx hb dX3_formAt_10 hl (by decide) (by decide) rfl (fun ls hl => ?_)
  refine lv_iconst (v := 0) hx hb dX3_formAt_12 (by decide) ?_
  refine hw_istore (lv' := [(5, .int (0 : Int32)), (4, .int (0 : Int32)), (3, .int v5), (0, hw_vr b (some x0)), (1, .int l1), (2, .int l2)]) hx hb dX3_formAt_13 hl (by decide) (by decide) rfl (fun ls hl => ?_)
  exact w3_formAt_b15 C0 hw_fu hm hR (hl.sub [3, 2, 1, 0] rfl)
set_option maxRecDepth 100000 in
theorem c3_formAt (l : Launch) (D : hw_D) (b : Nat) {x0 : Nat} {l1 : Int32} {l2 : Int32} {σ : hw_S} {r : Int32} (hm : m3_formAt x0 l1 l2 σ = some r) : Met l yX3_formAt (Cond.code yX3_formAt cX3_formAt 6 (some .int) :: wsL_law) rm3_formAt (hw_P1 D b σ [hw_vr b (some x0), .int l1, .int l2]) (hw_RI r) 0 0 hw_nof := by
  refine hw_start1 (by decide +kernel) (by exact Nat.le_of_ble_eq_true rfl) ?_
  intro p e s m below meth c ls C0 hR hS hl
  have hl : lv_has ls 6 [(0, hw_vr b (some x0)), (1, .int l1), (2, .int l2)] := by exact hl
  exact w3_formAt_s hm C0 hR ⟨hl, (List.forall_mem_cons.mpr ⟨(fun h => by rw [show (hw_vr b (some x0) : Value).category = 1 from (hw_vr_cat _ _)] at h; cases h), (List.forall_mem_cons.mpr ⟨(fun h => absurd (show (1 : Nat) = 2 from h) (by decide)), (List.forall_mem_cons.mpr ⟨(fun h => absurd (show (1 : Nat) = 2 from h) (by decide)), (fun _ h => absurd h List.not_mem_nil)⟩)⟩)⟩)⟩

abbrev rm11_formIn : Room := { frames := 5, cells := 0, slots := 0, locals := 117 }
def m11_formIn (l0 : Option Nat) (l1 : Option Nat) (l2 : Int32) (σ : hw_S) : Option Int32 :=
  (m11_turnsIn l0 l1 l2 σ).bind fun v4 =>
  (m11_paceOf l2).bind fun v8 =>
  (hw_rv hw_qL l0 σ).bind fun a11 =>
  (m3_formAt a11 v4 v8 σ).bind fun v11 =>
  some v11
set_option maxRecDepth 100000 in
theorem w11_formIn_s {p : Program} {l : Launch} {e : Env} {s : State} {m : MethodId} {args : Array Value} {below : List Frame} {meth : Method} {c : Code} {D : hw_D} {b : Nat} {l0 : Option Nat} {l1 : Option Nat} {l2 : Int32} {σ : hw_S} {r : Int32} (hm : m11_formIn l0 l1 l2 σ = some r) (C0 : hw_C p s m args meth c D yX11_formIn cX11_formIn 3 (some .int)) (hR : hw_R D b σ s.heap) {ls : Array Slot} (hl : hw_L ls 3 255 [(0, hw_vr b l0), (1, hw_vr b l1), (2, .int l2)]) : W p l e rm11_formIn s m args below meth c s.heap [] 0 0 (MQ below (hw_RI r) args s 0 0 hw_nof) (F0 m 0 ls []) := by
  obtain ⟨hx, hb, hml, hr, hown, hts, hlk, hE, hnm⟩ := id C0
  have hown : s.vm.findClass RX11 = some m.cls := hown
  have hK := hE.1
  unfold m11_formIn at hm
  refine hw_aload_n hx hb dX11_formIn_0 rfl (hl.at 0 rfl) ?_
  refine hw_aload_n hx hb dX11_formIn_1 rfl (hl.at 0 rfl) ?_
  refine hw_aload_n hx hb dX11_formIn_2 rfl (hl.at 1 rfl) ?_
  refine lv_iload_n hx hb dX11_formIn_3 rfl (hl.at 2 rfl) ?_
  obtain ⟨v4, e4, hm⟩ := hw_bs hm
  refine hw_cRI (va_runS (As := [hw_vr b l0, hw_vr b l1, .int l2]) (rest := [hw_vr b l0]) ⟨hx, hb, hml, hown, hts⟩ (c11_turnsIn l D b e4) (cwS 3 hts (hw_gS hw_m482 hw_m483 hw_m2 hw_m484) rfl rfl rfl (by decide +kernel) ⟨(Nat.le_of_ble_eq_true rfl), (Nat.le_of_ble_eq_true rfl)⟩) (hw_pre1 hE hR) rfl rfl hl.sz rfl (lv_room (hw_sm (List.forall_mem_cons.mpr ⟨(hw_vr_cat _ _), (fun _ h => absurd h List.not_mem_nil)⟩) (Nat.le_of_ble_eq_true rfl))) dX11_formIn_4 ⟨(Nat.le_of_ble_eq_true rfl), (Nat.le_of_ble_eq_true rfl)⟩) ?_
  refine lv_iload_n hx hb dX11_formIn_7 rfl (hl.at 2 rfl) ?_
  obtain ⟨v8, e8, hm⟩ := hw_bs hm
  refine hw_cRI (va_runS (As := [.int l2]) (rest := [.int v4, hw_vr b l0]) ⟨hx, hb, hml, hown, hts⟩ (c11_paceOf l D e8) (cwS 1 hts (hw_gS hw_m555 hw_m465 hw_m2 hw_m466) rfl rfl rfl (by decide +kernel) ⟨(Nat.le_of_ble_eq_true rfl), (Nat.le_of_ble_eq_true rfl)⟩) (hw_pre0 hE) rfl rfl hl.sz rfl (lv_room (hw_sm (List.forall_mem_cons.mpr ⟨rfl, (List.forall_mem_cons.mpr ⟨(hw_vr_cat _ _), (fun _ h => absurd h List.not_mem_nil)⟩)⟩) (Nat.le_of_ble_eq_true rfl))) dX11_formIn_8 ⟨(Nat.le_of_ble_eq_true rfl), (Nat.le_of_ble_eq_true rfl)⟩) ?_
  obtain ⟨a11, g11, hm⟩ := hw_bs hm
  obtain ⟨h11, ht11⟩ := hw_rv_of g11
  rw [h11]
  obtain ⟨ci11, C11, f11_1, f11_2, f11_3, f11_4⟩ := hw_sel7 (y := fun _ => yX3_formAt) ht11 hw_m558 hw_m561 hw_m562 hw_m564 hw_m565 hw_m566 hw_m567
  obtain ⟨v11, e11, hm⟩ := hw_bs hm
  refine hw_cRI (va_runU (C := C11) (owner := RX3) (As := [.int v4, .int v8]) (rest := []) ⟨hx, hb, hml, hown, hts⟩ (c3_formAt l D b e11) (va_cwU 2 hts (hw_gU hw_m556 hw_m557 f11_4 hw_m559 hw_m285 hw_m560) rfl rfl rfl rfl (by decide +kernel) ⟨(Nat.le_of_ble_eq_true rfl), (Nat.le_of_ble_eq_true rfl)⟩) (hw_preV hE hR f11_3 f11_2 f11_1) rfl rfl hl.sz rfl (lv_room (Nat.le_of_ble_eq_true rfl)) dX11_formIn_11 ⟨(Nat.le_of_ble_eq_true rfl), (Nat.le_of_ble_eq_true rfl)⟩) ?_
  exact hw_rRI hx hb hr hlk hm dX11_formIn_14
set_option maxRecDepth 100000 in
theorem c11_formIn (l : Launch) (D : hw_D) (b : Nat) {l0 : Option Nat} {l1 : Option Nat} {l2 : Int32} {σ : hw_S} {r : Int32} (hm : m11_formIn l0 l1 l2 σ = some r) : Met l yX11_formIn (Cond.code yX11_formIn cX11_formIn 3 (some .int) :: wsL_law) rm11_formIn (hw_P1 D b σ [hw_vr b l0, hw_vr b l1, .int l2]) (hw_RI r) 0 0 hw_nof := by
  refine hw_start1 (by decide +kernel) (by cases l0 <;> cases l1 <;> exact Nat.le_of_ble_eq_true rfl) ?_
  intro p e s m below meth c ls C0 hR hS hl
  have hl : lv_has ls 3 [(0, hw_vr b l0), (1, hw_vr b l1), (2, .int l2)] := by cases l0 <;> cases l1 <;> exact hl
  exact w11_formIn_s hm C0 hR ⟨hl, (List.forall_mem_cons.mpr ⟨(fun h => by rw [show (hw_vr b l0 : Value).category = 1 from (hw_vr_cat _ _)] at h; cases h), (List.forall_mem_cons.mpr ⟨(fun h => by rw [show (hw_vr b l1 : Value).category = 1 from (hw_vr_cat _ _)] at h; cases h), (List.forall_mem_cons.mpr ⟨(fun h => absurd (show (1 : Nat) = 2 from h) (by decide)), (fun _ h => absurd h List.not_mem_nil)⟩)⟩)⟩)⟩

abbrev rm11_winds : Room := { frames := 6, cells := 0, slots := 0, locals := 139 }
def m11_winds_b34 (x0 : Nat) (σ : hw_S) : Option Int32 :=
  some ((-1) : Int32)
set_option maxRecDepth 100000 in
theorem w11_winds_b34 {p : Program} {l : Launch} {e : Env} {s : State} {m : MethodId} {args : Array Value} {below : List Frame} {meth : Method} {c : Code} {D : hw_D} {b : Nat} {r : Int32} (C0 : hw_C p s m args meth c D yX11_winds cX11_winds 7 (some .int)) {x0 : Nat} {σ : hw_S} (hm : m11_winds_b34 x0 σ = some r) (hR : hw_R D b σ s.heap) {ls : Array Slot} (hl : hw_L ls 7 255 [(0, hw_vr b (some x0))]) : W p l e rm11_winds s m args below meth c s.heap [] 0 0 (MQ below (hw_RI r) args s 0 0 hw_nof) (F0 m 34 ls []) := by
  obtain ⟨hx, hb, hml, hr, hown, hts, hlk, hE, hnm⟩ := id C0
  have hown : s.vm.findClass RX11 = some m.cls := hown
  have hK := hE.1
  unfold m11_winds_b34 at hm
  refine lv_iconst (v := (-1)) hx hb dX11_winds_34 (by decide) ?_
  exact hw_rRI hx hb hr hlk hm dX11_winds_35
def m11_winds_b85 (x0 : Nat) (t0 : Int32) (σ : hw_S) : Option Int32 :=
  some t0
set_option maxRecDepth 100000 in
theorem w11_winds_b85 {p : Program} {l : Launch} {e : Env} {s : State} {m : MethodId} {args : Array Value} {below : List Frame} {meth : Method} {c : Code} {D : hw_D} {b : Nat} {r : Int32} (C0 : hw_C p s m args meth c D yX11_winds cX11_winds 7 (some .int)) {x0 : Nat} {t0 : Int32} {σ : hw_S} (hm : m11_winds_b85 x0 t0 σ = some r) (hR : hw_R D b σ s.heap) {ls : Array Slot} (hl : hw_L ls 7 255 [(0, hw_vr b (some x0))]) : W p l e rm11_winds s m args below meth c s.heap [] 0 0 (MQ below (hw_RI r) args s 0 0 hw_nof) (F0 m 85 ls [.int t0]) := by
  obtain ⟨hx, hb, hml, hr, hown, hts, hlk, hE, hnm⟩ := id C0
  have hown : s.vm.findClass RX11 = some m.cls := hown
  have hK := hE.1
  unfold m11_winds_b85 at hm
  exact hw_rRI hx hb hr hlk hm dX11_winds_85
def m11_winds (x0 : Nat) (l1 : Int32) (l2 : Int32) (l3 : Int32) (l4 : Int32) (σ : hw_S) : Option Int32 :=
  (hw_rv (hw_q 11) (some x0) σ).bind fun a2 =>
  (m11_lawAt x0 l1 σ).bind fun v2 =>
  (hw_rv (hw_q 11) (some x0) σ).bind fun a9 =>
  (m11_stuffAt x0 l2 σ).bind fun v9 =>
  (if v2 = none then
  m11_winds_b34 x0 σ
  else
  (if v9 = none then
  m11_winds_b34 x0 σ
  else
  (m11_isWithin l4 (0 : Int32) (2 : Int32)).bind fun v28 =>
  (if v28 = 0 then
  m11_winds_b34 x0 σ
  else
  (m11_isDoing l3).bind fun v37 =>
  (if v37 = 0 then
  some ((-2) : Int32)
  else
  (if l4 = 0 then
  (hw_rv hw_qL v2 σ).bind fun a56 =>
  (m3_baseIn a56 v9 l3 σ).bind fun v56 =>
  some v56
  else
  (if l4 = (1 : Int32) then
  (m11_turnsIn v2 v9 l3 σ).bind fun v71 =>
  m11_winds_b85 x0 v71 σ
  else
  (m11_formIn v2 v9 l3 σ).bind fun v82 =>
  m11_winds_b85 x0 v82 σ))))))
set_option maxRecDepth 100000 in
theorem w11_winds_s {p : Program} {l : Launch} {e : Env} {s : State} {m : MethodId} {args : Array Value} {below : List Frame} {meth : Method} {c : Code} {D : hw_D} {b : Nat} {x0 : Nat} {l1 : Int32} {l2 : Int32} {l3 : Int32} {l4 : Int32} {σ : hw_S} {r : Int32} (hm : m11_winds x0 l1 l2 l3 l4 σ = some r) (C0 : hw_C p s m args meth c D yX11_winds cX11_winds 7 (some .int)) (hR : hw_R D b σ s.heap) {ls : Array Slot} (hl : hw_L ls 7 255 [(0, hw_vr b (some x0)), (1, .int l1), (2, .int l2), (3, .int l3), (4, .int l4)]) : W p l e rm11_winds s m args below meth c s.heap [] 0 0 (MQ below (hw_RI r) args s 0 0 hw_nof) (F0 m 0 ls []) := by
  obtain ⟨hx, hb, hml, hr, hown, hts, hlk, hE, hnm⟩ := id C0
  have hown : s.vm.findClass RX11 = some m.cls := hown
  have hK := hE.1
  unfold m11_winds at hm
  refine hw_aload_n hx hb dX11_winds_0 rfl (hl.at 0 rfl) ?_
  refine lv_iload_n hx hb dX11_winds_1 rfl (hl.at 1 rfl) ?_
  obtain ⟨a2, g2, hm⟩ := hw_bs hm
  obtain ⟨rfl, ht2⟩ := hw_rv_th g2
  obtain ⟨v2, e2, hm⟩ := hw_bs hm
  refine hw_cRP (va_runV (As := [.int l1]) (rest := []) ⟨hx, hb, hml, hown, hts⟩ (c11_lawAt l D b e2) (cwV 1 hts (hw_gV hw_m426 hw_m427 hw_m428 hw_m2 hw_m429) rfl rfl rfl (by decide +kernel) ⟨(Nat.le_of_ble_eq_true rfl), (Nat.le_of_ble_eq_true rfl)⟩) (hw_preV (ci := 11) hE hR rfl (by decide) (hw_q_of ht2)) rfl rfl hl.sz rfl (lv_room (Nat.le_of_ble_eq_true rfl)) dX11_winds_2 ⟨(Nat.le_of_ble_eq_true rfl), (Nat.le_of_ble_eq_true rfl)⟩) ?_
  refine hw_asto (lv' := [(5, hw_vr b v2), (0, hw_vr b (some x0)), (1, .int l1), (2, .int l2), (3, .int l3), (4, .int l4)]) hx hb dX11_winds_5 hl (by decide) (by decide) rfl (fun ls hl => ?_)
  refine hw_aload_n hx hb dX11_winds_7 rfl (hl.at 1 rfl) ?_
  refine lv_iload_n hx hb dX11_winds_8 rfl (hl.at 3 rfl) ?_
  obtain ⟨a9, g9, hm⟩ := hw_bs hm
  obtain ⟨rfl, ht9⟩ := hw_rv_th g9
  obtain ⟨v9, e9, hm⟩ := hw_bs hm
  refine hw_cRP (va_runV (As := [.int l2]) (rest := []) ⟨hx, hb, hml, hown, hts⟩ (c11_stuffAt l D b e9) (cwV 1 hts (hw_gV hw_m121 hw_m122 hw_m123 hw_m2 hw_m124) rfl rfl rfl (by decide +kernel) ⟨(Nat.le_of_ble_eq_true rfl), (Nat.le_of_ble_eq_true rfl)⟩) (hw_preV (ci := 11) hE hR rfl (by decide) (hw_q_of ht9)) rfl rfl hl.sz rfl (lv_room (Nat.le_of_ble_eq_true rfl)) dX11_winds_9 ⟨(Nat.le_of_ble_eq_true rfl), (Nat.le_of_ble_eq_true rfl)⟩) ?_
  refine hw_asto (lv' := [(6, hw_vr b v9), (5, hw_vr b v2), (0, hw_vr b (some x0)), (1, .int l1), (2, .int l2), (3, .int l3), (4, .int l4)]) hx hb dX11_winds_12 hl (by decide) (by decide) rfl (fun ls hl => ?_)
  refine hw_aload hx hb dX11_winds_14 (hl.at 1 rfl) ?_
  refine hw_ifnull (tgt := 34) hx hb dX11_winds_16 (by decide) (fun c16 => ?_) (fun c16 => ?_)
  · have hm := hw_ip hm c16
    exact w11_winds_b34 C0 hm hR (hl.sub [2] rfl)
  · have hm := hw_in hm c16
    refine hw_aload hx hb dX11_winds_19 (hl.at 0 rfl) ?_
    refine hw_ifnull (tgt := 34) hx hb dX11_winds_21 (by decide) (fun c21 => ?_) (fun c21 => ?_)
    · have hm := hw_ip hm c21
      exact w11_winds_b34 C0 hm hR (hl.sub [2] rfl)
    · have hm := hw_in hm c21
      refine lv_iload hx hb dX11_winds_24 (hl.at 6 rfl) ?_
      refine lv_iconst (v := 0) hx hb dX11_winds_26 (by decide) ?_
      refine lv_iconst (v := 2) hx hb dX11_winds_27 (by decide) ?_
      obtain ⟨v28, e28, hm⟩ := hw_bs hm
      refine hw_cRI (va_runS (As := [.int l4, .int (0 : Int32), .int (2 : Int32)]) (rest := []) ⟨hx, hb, hml, hown, hts⟩ (c11_isWithin l D e28) (cwS 3 hts (hw_gS hw_m99 hw_m100 hw_m2 hw_m101) rfl rfl rfl (by decide +kernel) ⟨(Nat.le_of_ble_eq_true rfl), (Nat.le_of_ble_eq_true rfl)⟩) (hw_pre0 hE) rfl rfl hl.sz rfl (lv_room (Nat.le_of_ble_eq_true rfl)) dX11_winds_28 ⟨(Nat.le_of_ble_eq_true rfl), (Nat.le_of_ble_eq_true rfl)⟩) ?_
      refine lv_if_ne (tgt := 36) hx hb dX11_winds_31 (by decide) (fun c31 => ?_) (fun c31 => ?_)
      · have hm := hw_in hm c31
        refine lv_iload_n hx hb dX11_winds_36 rfl (hl.at 5 rfl) ?_
        obtain ⟨v37, e37, hm⟩ := hw_bs hm
        refine hw_cRI (va_runS (As := [.int l3]) (rest := []) ⟨hx, hb, hml, hown, hts⟩ (c11_isDoing l D e37) (cwS 1 hts (hw_gS hw_m442 hw_m443 hw_m2 hw_m444) rfl rfl rfl (by decide +kernel) ⟨(Nat.le_of_ble_eq_true rfl), (Nat.le_of_ble_eq_true rfl)⟩) (hw_pre0 hE) rfl rfl hl.sz rfl (lv_room (Nat.le_of_ble_eq_true rfl)) dX11_winds_37 ⟨(Nat.le_of_ble_eq_true rfl), (Nat.le_of_ble_eq_true rfl)⟩) ?_
        refine lv_if_ne (tgt := 46) hx hb dX11_winds_40 (by decide) (fun c40 => ?_) (fun c40 => ?_)
        · have hm := hw_in hm c40
          refine lv_iload hx hb dX11_winds_46 (hl.at 6 rfl) ?_
          refine lv_if_ne (tgt := 60) hx hb dX11_winds_48 (by decide) (fun c48 => ?_) (fun c48 => ?_)
          · have hm := hw_in hm c48
            refine lv_iload hx hb dX11_winds_60 (hl.at 6 rfl) ?_
            refine lv_iconst (v := 1) hx hb dX11_winds_62 (by decide) ?_
            refine lv_icmp_ne (tgt := 77) hx hb dX11_winds_63 (by decide) (fun c63 => ?_) (fun c63 => ?_)
            · have hm := hw_in hm c63
              refine hw_aload hx hb dX11_winds_77 (hl.at 1 rfl) ?_
              refine hw_aload hx hb dX11_winds_79 (hl.at 0 rfl) ?_
              refine lv_iload_n hx hb dX11_winds_81 rfl (hl.at 5 rfl) ?_
              obtain ⟨v82, e82, hm⟩ := hw_bs hm
              refine hw_cRI (va_runS (As := [hw_vr b v2, hw_vr b v9, .int l3]) (rest := []) ⟨hx, hb, hml, hown, hts⟩ (c11_formIn l D b e82) (cwS 3 hts (hw_gS hw_m552 hw_m553 hw_m2 hw_m554) rfl rfl rfl (by decide +kernel) ⟨(Nat.le_of_ble_eq_true rfl), (Nat.le_of_ble_eq_true rfl)⟩) (hw_pre1 hE hR) rfl rfl hl.sz rfl (lv_room (Nat.le_of_ble_eq_true rfl)) dX11_winds_82 ⟨(Nat.le_of_ble_eq_true rfl), (Nat.le_of_ble_eq_true rfl)⟩) ?_
              exact w11_winds_b85 C0 hm hR (hl.sub [2] rfl)
            · have hm := hw_ip hm c63
              refine hw_aload hx hb dX11_winds_66 (hl.at 1 rfl) ?_
              refine hw_aload hx hb dX11_winds_68 (hl.at 0 rfl) ?_
              refine lv_iload_n hx hb dX11_winds_70 rfl (hl.at 5 rfl) ?_
              obtain ⟨v71, e71, hm⟩ := hw_bs hm
              refine hw_cRI (va_runS (As := [hw_vr b v2, hw_vr b v9, .int l3]) (rest := []) ⟨hx, hb, hml, hown, hts⟩ (c11_turnsIn l D b e71) (cwS 3 hts (hw_gS hw_m482 hw_m483 hw_m2 hw_m484) rfl rfl rfl (by decide +kernel) ⟨(Nat.le_of_ble_eq_true rfl), (Nat.le_of_ble_eq_true rfl)⟩) (hw_pre1 hE hR) rfl rfl hl.sz rfl (lv_room (Nat.le_of_ble_eq_true rfl)) dX11_winds_71 ⟨(Nat.le_of_ble_eq_true rfl), (Nat.le_of_ble_eq_true rfl)⟩) ?_
              refine lv_goto (tgt := 85) hx hb dX11_winds_74 (by decide) ?_
              exact w11_winds_b85 C0 hm hR (hl.sub [2] rfl)
          · have hm := hw_ip hm c48
            refine hw_aload hx hb dX11_winds_51 (hl.at 1 rfl) ?_
            refine hw_aload hx hb dX11_winds_53 (hl.at 0 rfl) ?_
            refine lv_iload_n hx hb dX11_winds_55 rfl (hl.at 5 rfl) ?_
            obtain ⟨a56, g56, hm⟩ := hw_bs hm
            obtain ⟨h56, ht56⟩ := hw_rv_of g56
            rw [h56]
            obtain ⟨ci56, C56, f56_1, f56_2, f56_3, f56_4⟩ := hw_sel7 (y := fun _ => yX3_baseIn) ht56 hw_m459 hw_m475 hw_m476 hw_m478 hw_m479 hw_m480 hw_m481
            obtain ⟨v56, e56, hm⟩ := hw_bs hm
            refine hw_cRI (va_runU (C := C56) (owner := RX3) (As := [hw_vr b v9, .int l3]) (rest := []) ⟨hx, hb, hml, hown, hts⟩ (c3_baseIn l D b e56) (va_cwU 2 hts (hw_gU hw_m457 hw_m458 f56_4 hw_m460 hw_m285 hw_m461) rfl rfl rfl rfl (by decide +kernel) ⟨(Nat.le_of_ble_eq_true rfl), (Nat.le_of_ble_eq_true rfl)⟩) (hw_preV hE hR f56_3 f56_2 f56_1) rfl rfl hl.sz rfl (lv_room (Nat.le_of_ble_eq_true rfl)) dX11_winds_56 ⟨(Nat.le_of_ble_eq_true rfl), (Nat.le_of_ble_eq_true rfl)⟩) ?_
            exact hw_rRI hx hb hr hlk hm dX11_winds_59
        · have hm := hw_ip hm c40
          refine lv_bipush (v := (-2)) hx hb dX11_winds_43 (by decide) ?_
          exact hw_rRI hx hb hr hlk hm dX11_winds_45
      · have hm := hw_ip hm c31
        exact w11_winds_b34 C0 hm hR (hl.sub [2] rfl)
set_option maxRecDepth 100000 in
theorem c11_winds (l : Launch) (D : hw_D) (b : Nat) {x0 : Nat} {l1 : Int32} {l2 : Int32} {l3 : Int32} {l4 : Int32} {σ : hw_S} {r : Int32} (hm : m11_winds x0 l1 l2 l3 l4 σ = some r) : Met l yX11_winds (Cond.code yX11_winds cX11_winds 7 (some .int) :: wsL_law) rm11_winds (hw_P1 D b σ [hw_vr b (some x0), .int l1, .int l2, .int l3, .int l4]) (hw_RI r) 0 0 hw_nof := by
  refine hw_start1 (by decide +kernel) (by exact Nat.le_of_ble_eq_true rfl) ?_
  intro p e s m below meth c ls C0 hR hS hl
  have hl : lv_has ls 7 [(0, hw_vr b (some x0)), (1, .int l1), (2, .int l2), (3, .int l3), (4, .int l4)] := by exact hl
  exact w11_winds_s hm C0 hR ⟨hl, (List.forall_mem_cons.mpr ⟨(fun h => by rw [show (hw_vr b (some x0) : Value).category = 1 from (hw_vr_cat _ _)] at h; cases h), (List.forall_mem_cons.mpr ⟨(fun h => absurd (show (1 : Nat) = 2 from h) (by decide)), (List.forall_mem_cons.mpr ⟨(fun h => absurd (show (1 : Nat) = 2 from h) (by decide)), (List.forall_mem_cons.mpr ⟨(fun h => absurd (show (1 : Nat) = 2 from h) (by decide)), (List.forall_mem_cons.mpr ⟨(fun h => absurd (show (1 : Nat) = 2 from h) (by decide)), (fun _ h => absurd h List.not_mem_nil)⟩)⟩)⟩)⟩)⟩)⟩

abbrev rm12_isDoing : Room := { frames := 1, cells := 0, slots := 0, locals := 22 }
def m12_isDoing_b33 (t0 : Int32) : Option Int32 :=
  (hw_tf t0).bind fun _ =>
  some t0
set_option maxRecDepth 100000 in
theorem w12_isDoing_b33 {p : Program} {l : Launch} {e : Env} {s : State} {m : MethodId} {args : Array Value} {below : List Frame} {meth : Method} {c : Code} {D : hw_D} {r : Int32} (C0 : hw_C p s m args meth c D yX12_isDoing cX12_isDoing 1 (some .boolean)) {t0 : Int32} (hm : m12_isDoing_b33 t0 = some r) {ls : Array Slot} (hl : hw_L ls 1 255 []) : W p l e rm12_isDoing s m args below meth c s.heap [] 0 0 (MQ below (hw_RI r) args s 0 0 hw_nof) (F0 m 33 ls [.int t0]) := by
  obtain ⟨hx, hb, hml, hr, hown, hts, hlk, hE, hnm⟩ := id C0
  have hown : s.vm.findClass RX12 = some m.cls := hown
  unfold m12_isDoing_b33 at hm
  obtain ⟨_, z33, hm⟩ := hw_bs hm
  exact hw_rRZ hx hb hr hlk z33 hm dX12_isDoing_33
def m12_isDoing_b32 : Option Int32 :=
  m12_isDoing_b33 (0 : Int32)
set_option maxRecDepth 100000 in
theorem w12_isDoing_b32 {p : Program} {l : Launch} {e : Env} {s : State} {m : MethodId} {args : Array Value} {below : List Frame} {meth : Method} {c : Code} {D : hw_D} {r : Int32} (C0 : hw_C p s m args meth c D yX12_isDoing cX12_isDoing 1 (some .boolean)) (hm : m12_isDoing_b32  = some r) {ls : Array Slot} (hl : hw_L ls 1 255 []) : W p l e rm12_isDoing s m args below meth c s.heap [] 0 0 (MQ below (hw_RI r) args s 0 0 hw_nof) (F0 m 32 ls []) := by
  obtain ⟨hx, hb, hml, hr, hown, hts, hlk, hE, hnm⟩ := id C0
  have hown : s.vm.findClass RX12 = some m.cls := hown
  unfold m12_isDoing_b32 at hm
  refine lv_iconst (v := 0) hx hb dX12_isDoing_32 (by decide) ?_
  exact w12_isDoing_b33 C0 hm (hl.sub [] rfl)
def m12_isDoing (l0 : Int32) : Option Int32 :=
  (m12_in l0 (10000 : Int32) (609999 : Int32)).bind fun v6 =>
  (if v6 = 0 then
  m12_isDoing_b32 
  else
  (hw_dv l0 (100 : Int32)).bind fun v15 =>
  (hw_rm v15 (100 : Int32)).bind fun v18 =>
  (m12_in v18 (1 : Int32) (20 : Int32)).bind fun v22 =>
  (if v22 = 0 then
  m12_isDoing_b32 
  else
  m12_isDoing_b33 (1 : Int32)))
set_option maxRecDepth 100000 in
theorem w12_isDoing_s {p : Program} {l : Launch} {e : Env} {s : State} {m : MethodId} {args : Array Value} {below : List Frame} {meth : Method} {c : Code} {D : hw_D} {l0 : Int32} {r : Int32} (hm : m12_isDoing l0 = some r) (C0 : hw_C p s m args meth c D yX12_isDoing cX12_isDoing 1 (some .boolean)) {ls : Array Slot} (hl : hw_L ls 1 255 [(0, .int l0)]) : W p l e rm12_isDoing s m args below meth c s.heap [] 0 0 (MQ below (hw_RI r) args s 0 0 hw_nof) (F0 m 0 ls []) := by
  obtain ⟨hx, hb, hml, hr, hown, hts, hlk, hE, hnm⟩ := id C0
  have hown : s.vm.findClass RX12 = some m.cls := hown
  unfold m12_isDoing at hm
  refine lv_iload_n hx hb dX12_isDoing_0 rfl (hl.at 0 rfl) ?_
  refine lv_sipush (v := 10000) hx hb dX12_isDoing_1 (by decide) ?_
  refine lv_ldc (v := 609999) hx hb hown (hts _ hw_m575) dX12_isDoing_4 ?_
  obtain ⟨v6, e6, hm⟩ := hw_bs hm
  refine hw_cRI (va_runS (As := [.int l0, .int (10000 : Int32), .int (609999 : Int32)]) (rest := []) ⟨hx, hb, hml, hown, hts⟩ (c12_in l D e6) (cwS 3 hts (hw_gS hw_m112 hw_m113 hw_m5 hw_m114) rfl rfl rfl (by decide +kernel) ⟨(Nat.le_of_ble_eq_true rfl), (Nat.le_of_ble_eq_true rfl)⟩) (hw_pre0 hE) rfl rfl hl.sz rfl (lv_room (Nat.le_of_ble_eq_true rfl)) dX12_isDoing_6 ⟨(Nat.le_of_ble_eq_true rfl), (Nat.le_of_ble_eq_true rfl)⟩) ?_
  refine lv_if_eq (tgt := 32) hx hb dX12_isDoing_9 (by decide) (fun c9 => ?_) (fun c9 => ?_)
  · have hm := hw_ip hm c9
    exact w12_isDoing_b32 C0 hm (hl.sub [] rfl)
  · have hm := hw_in hm c9
    refine lv_iload_n hx hb dX12_isDoing_12 rfl (hl.at 0 rfl) ?_
    refine lv_bipush (v := 100) hx hb dX12_isDoing_13 (by decide) ?_
    obtain ⟨v15, e15, hm⟩ := hw_bs hm
    refine hw_idiv hx hb e15 dX12_isDoing_15 ?_
    refine lv_bipush (v := 100) hx hb dX12_isDoing_16 (by decide) ?_
    obtain ⟨v18, e18, hm⟩ := hw_bs hm
    refine hw_irem hx hb e18 dX12_isDoing_18 ?_
    refine lv_iconst (v := 1) hx hb dX12_isDoing_19 (by decide) ?_
    refine lv_bipush (v := 20) hx hb dX12_isDoing_20 (by decide) ?_
    obtain ⟨v22, e22, hm⟩ := hw_bs hm
    refine hw_cRI (va_runS (As := [.int v18, .int (1 : Int32), .int (20 : Int32)]) (rest := []) ⟨hx, hb, hml, hown, hts⟩ (c12_in l D e22) (cwS 3 hts (hw_gS hw_m112 hw_m113 hw_m5 hw_m114) rfl rfl rfl (by decide +kernel) ⟨(Nat.le_of_ble_eq_true rfl), (Nat.le_of_ble_eq_true rfl)⟩) (hw_pre0 hE) rfl rfl hl.sz rfl (lv_room (Nat.le_of_ble_eq_true rfl)) dX12_isDoing_22 ⟨(Nat.le_of_ble_eq_true rfl), (Nat.le_of_ble_eq_true rfl)⟩) ?_
    refine lv_if_eq (tgt := 32) hx hb dX12_isDoing_25 (by decide) (fun c25 => ?_) (fun c25 => ?_)
    · have hm := hw_ip hm c25
      exact w12_isDoing_b32 C0 hm (hl.sub [] rfl)
    · have hm := hw_in hm c25
      refine lv_iconst (v := 1) hx hb dX12_isDoing_28 (by decide) ?_
      refine lv_goto (tgt := 33) hx hb dX12_isDoing_29 (by decide) ?_
      exact w12_isDoing_b33 C0 hm (hl.sub [] rfl)
set_option maxRecDepth 100000 in
theorem c12_isDoing (l : Launch) (D : hw_D) {l0 : Int32} {r : Int32} (hm : m12_isDoing l0 = some r) : Met l yX12_isDoing (Cond.code yX12_isDoing cX12_isDoing 1 (some .boolean) :: wsL_law) rm12_isDoing (hw_P0 D [.int l0]) (hw_RI r) 0 0 hw_nof := by
  refine hw_start0 (by decide +kernel) (by exact Nat.le_of_ble_eq_true rfl) ?_
  intro p e s m below meth c ls C0 hl
  have hl : lv_has ls 1 [(0, .int l0)] := by exact hl
  exact w12_isDoing_s hm C0 ⟨hl, (List.forall_mem_cons.mpr ⟨(fun h => absurd (show (1 : Nat) = 2 from h) (by decide)), (fun _ h => absurd h List.not_mem_nil)⟩)⟩

abbrev rm12_base : Room := { frames := 0, cells := 0, slots := 0, locals := 0 }
def m12_base_b317 (x0 : Nat) (t0 : Int32) (σ : hw_S) : Option (Int32 × hw_S) :=
  some (t0, σ)
set_option maxRecDepth 100000 in
theorem w12_base_b317 {p : Program} {l : Launch} {e : Env} {s : State} {m : MethodId} {args : Array Value} {below : List Frame} {meth : Method} {c : Code} {D : hw_D} {b : Nat} {r : Int32} {τ : hw_S} (C0 : hw_C p s m args meth c D yX12_base cX12_base 9 (some .int)) {x0 : Nat} {t0 : Int32} {σ : hw_S} {H : Heap} {locs : List Loc} (hm : m12_base_b317 x0 t0 σ = some (r, τ)) (hR : hw_R D b σ H) (hS : va_S (fun q => b ≤ q) s.heap H locs) {ls : Array Slot} (hl : hw_L ls 9 255 [(0, hw_vr b (some x0))]) : W p l e rm12_base s m args below meth c H locs 0 0 (MQ below (hw_QI D b τ r) args s 0 0 (fun q => b ≤ q)) (F0 m 317 ls [.int t0]) := by
  obtain ⟨hx, hb, hml, hr, hown, hts, hlk, hE, hnm⟩ := id C0
  have hown : s.vm.findClass RX12 = some m.cls := hown
  have hK := hE.1
  unfold m12_base_b317 at hm
  exact hw_rWI hx hb hr hlk hR hS hm dX12_base_317
def m12_base_b301 (k15 : Nat → Int32 → Int32 → Int32 → Int32 → hw_S → Option (Int32 × hw_S)) (x0 : Nat) (l1 : Int32) (l2 : Int32) (l3 : Int32) (l4 : Int32) (σ : hw_S) : Option (Int32 × hw_S) :=
  k15 x0 l1 l2 l3 (l4 + 1) σ
set_option maxRecDepth 100000 in
theorem w12_base_b301 {p : Program} {l : Launch} {e : Env} {s : State} {m : MethodId} {args : Array Value} {below : List Frame} {meth : Method} {c : Code} {D : hw_D} {b : Nat} {k15 : Nat → Int32 → Int32 → Int32 → Int32 → hw_S → Option (Int32 × hw_S)} {r : Int32} {τ : hw_S} (C0 : hw_C p s m args meth c D yX12_base cX12_base 9 (some .int)) (hk15 : ∀ {x0 : Nat} {l1 : Int32} {l2 : Int32} {l3 : Int32} {l4 : Int32} {σ : hw_S} {H : Heap} {locs : List Loc} {ls : Array Slot}, k15 x0 l1 l2 l3 l4 σ = some (r, τ) → hw_R D b σ H → va_S (fun q => b ≤ q) s.heap H locs → hw_L ls 9 255 [(0, hw_vr b (some x0)), (1, .int l1), (2, .int l2), (3, .int l3), (4, .int l4)] → W p l e rm12_base s m args below meth c H locs 0 0 (MQ below (hw_QI D b τ r) args s 0 0 (fun q => b ≤ q)) (F0 m 15 ls [])) {x0 : Nat} {l1 : Int32} {l2 : Int32} {l3 : Int32} {l4 : Int32} {σ : hw_S} {H : Heap} {locs : List Loc} (hm : m12_base_b301 k15 x0 l1 l2 l3 l4 σ = some (r, τ)) (hR : hw_R D b σ H) (hS : va_S (fun q => b ≤ q) s.heap H locs) {ls : Array Slot} (hl : hw_L ls 9 255 [(0, hw_vr b (some x0)), (1, .int l1), (2, .int l2), (3, .int l3), (4, .int l4)]) : W p l e rm12_base s m args below meth c H locs 0 0 (MQ below (hw_QI D b τ r) args s 0 0 (fun q => b ≤ q)) (F0 m 301 ls []) := by
  obtain ⟨hx, hb, hml, hr, hown, hts, hlk, hE, hnm⟩ := id C0
  have hown : s.vm.findClass RX12 = some m.cls := hown
  have hK := hE.1
  unfold m12_base_b301 at hm
  refine hw_iinc (v := (l4 + 1)) (lv' := [(4, .int (l4 + 1)), (0, hw_vr b (some x0)), (1, .int l1), (2, .int l2), (3, .int l3)]) hx hb dX12_base_301 hl (k := 4) rfl rfl (by decide) (by decide) rfl (fun ls hl => ?_)
  refine lv_goto (tgt := 15) hx hb dX12_base_304 (by decide) ?_
  exact hk15 hm hR hS (hl.sub [1, 2, 3, 4, 0] rfl)
def m12_base_b299 (k15 : Nat → Int32 → Int32 → Int32 → Int32 → hw_S → Option (Int32 × hw_S)) (x0 : Nat) (l1 : Int32) (l3 : Int32) (l4 : Int32) (t0 : Int32) (t1 : Int32) (σ : hw_S) : Option (Int32 × hw_S) :=
  m12_base_b301 k15 x0 l1 (t0 + t1) l3 l4 σ
set_option maxRecDepth 100000 in
theorem w12_base_b299 {p : Program} {l : Launch} {e : Env} {s : State} {m : MethodId} {args : Array Value} {below : List Frame} {meth : Method} {c : Code} {D : hw_D} {b : Nat} {k15 : Nat → Int32 → Int32 → Int32 → Int32 → hw_S → Option (Int32 × hw_S)} {r : Int32} {τ : hw_S} (C0 : hw_C p s m args meth c D yX12_base cX12_base 9 (some .int)) (hk15 : ∀ {x0 : Nat} {l1 : Int32} {l2 : Int32} {l3 : Int32} {l4 : Int32} {σ : hw_S} {H : Heap} {locs : List Loc} {ls : Array Slot}, k15 x0 l1 l2 l3 l4 σ = some (r, τ) → hw_R D b σ H → va_S (fun q => b ≤ q) s.heap H locs → hw_L ls 9 255 [(0, hw_vr b (some x0)), (1, .int l1), (2, .int l2), (3, .int l3), (4, .int l4)] → W p l e rm12_base s m args below meth c H locs 0 0 (MQ below (hw_QI D b τ r) args s 0 0 (fun q => b ≤ q)) (F0 m 15 ls [])) {x0 : Nat} {l1 : Int32} {l3 : Int32} {l4 : Int32} {t0 : Int32} {t1 : Int32} {σ : hw_S} {H : Heap} {locs : List Loc} (hm : m12_base_b299 k15 x0 l1 l3 l4 t0 t1 σ = some (r, τ)) (hR : hw_R D b σ H) (hS : va_S (fun q => b ≤ q) s.heap H locs) {ls : Array Slot} (hl : hw_L ls 9 255 [(0, hw_vr b (some x0)), (1, .int l1), (3, .int l3), (4, .int l4)]) : W p l e rm12_base s m args below meth c H locs 0 0 (MQ below (hw_QI D b τ r) args s 0 0 (fun q => b ≤ q)) (F0 m 299 ls [.int t1, .int t0]) := by
  obtain ⟨hx, hb, hml, hr, hown, hts, hlk, hE, hnm⟩ := id C0
  have hown : s.vm.findClass RX12 = some m.cls := hown
  have hK := hE.1
  unfold m12_base_b299 at hm
  refine lv_iadd hx hb dX12_base_299 ?_
  refine hw_istore_n (lv' := [(2, .int (t0 + t1)), (0, hw_vr b (some x0)), (1, .int l1), (3, .int l3), (4, .int l4)]) hx hb dX12_base_300 rfl hl (by decide) (by decide) rfl (fun ls hl => ?_)
  exact w12_base_b301 C0 hk15 hm hR hS (hl.sub [1, 2, 0, 3, 4] rfl)
def m12_base_b257 (k15 : Nat → Int32 → Int32 → Int32 → Int32 → hw_S → Option (Int32 × hw_S)) (x0 : Nat) (l1 : Int32) (l2 : Int32) (l3 : Int32) (l4 : Int32) (t0 : Option Nat) (t1 : Int32) (t2 : Int32) (σ : hw_S) : Option (Int32 × hw_S) :=
  (hw_sZ t0 t1 t2 σ).bind fun σ257 =>
  m12_base_b301 k15 x0 l1 l2 l3 l4 σ257
set_option maxRecDepth 100000 in
theorem w12_base_b257 {p : Program} {l : Launch} {e : Env} {s : State} {m : MethodId} {args : Array Value} {below : List Frame} {meth : Method} {c : Code} {D : hw_D} {b : Nat} {k15 : Nat → Int32 → Int32 → Int32 → Int32 → hw_S → Option (Int32 × hw_S)} {r : Int32} {τ : hw_S} (C0 : hw_C p s m args meth c D yX12_base cX12_base 9 (some .int)) (hk15 : ∀ {x0 : Nat} {l1 : Int32} {l2 : Int32} {l3 : Int32} {l4 : Int32} {σ : hw_S} {H : Heap} {locs : List Loc} {ls : Array Slot}, k15 x0 l1 l2 l3 l4 σ = some (r, τ) → hw_R D b σ H → va_S (fun q => b ≤ q) s.heap H locs → hw_L ls 9 255 [(0, hw_vr b (some x0)), (1, .int l1), (2, .int l2), (3, .int l3), (4, .int l4)] → W p l e rm12_base s m args below meth c H locs 0 0 (MQ below (hw_QI D b τ r) args s 0 0 (fun q => b ≤ q)) (F0 m 15 ls [])) {x0 : Nat} {l1 : Int32} {l2 : Int32} {l3 : Int32} {l4 : Int32} {t0 : Option Nat} {t1 : Int32} {t2 : Int32} {σ : hw_S} {H : Heap} {locs : List Loc} (hm : m12_base_b257 k15 x0 l1 l2 l3 l4 t0 t1 t2 σ = some (r, τ)) (hR : hw_R D b σ H) (hS : va_S (fun q => b ≤ q) s.heap H locs) {ls : Array Slot} (hl : hw_L ls 9 255 [(0, hw_vr b (some x0)), (1, .int l1), (2, .int l2), (3, .int l3), (4, .int l4)]) : W p l e rm12_base s m args below meth c H locs 0 0 (MQ below (hw_QI D b τ r) args s 0 0 (fun q => b ≤ q)) (F0 m 257 ls [.int t2, .int t1, hw_vr b t0]) := by
  obtain ⟨hx, hb, hml, hr, hown, hts, hlk, hE, hnm⟩ := id C0
  have hown : s.vm.findClass RX12 = some m.cls := hown
  have hK := hE.1
  unfold m12_base_b257 at hm
  obtain ⟨σ257, e257, hm⟩ := hw_bs hm
  refine hw_zast hx hb hK hR hS e257 dX12_base_257 (fun _ _ hR hS => ?_)
  refine lv_goto (tgt := 301) hx hb dX12_base_258 (by decide) ?_
  exact w12_base_b301 C0 hk15 hm hR hS (hl.sub [0, 1, 2, 3, 4] rfl)
def m12_base_b252 (k15 : Nat → Int32 → Int32 → Int32 → Int32 → hw_S → Option (Int32 × hw_S)) (x0 : Nat) (l1 : Int32) (l2 : Int32) (l3 : Int32) (l4 : Int32) (t0 : Option Nat) (t1 : Int32) (σ : hw_S) : Option (Int32 × hw_S) :=
  m12_base_b257 k15 x0 l1 l2 l3 l4 t0 t1 (1 : Int32) σ
set_option maxRecDepth 100000 in
theorem w12_base_b252 {p : Program} {l : Launch} {e : Env} {s : State} {m : MethodId} {args : Array Value} {below : List Frame} {meth : Method} {c : Code} {D : hw_D} {b : Nat} {k15 : Nat → Int32 → Int32 → Int32 → Int32 → hw_S → Option (Int32 × hw_S)} {r : Int32} {τ : hw_S} (C0 : hw_C p s m args meth c D yX12_base cX12_base 9 (some .int)) (hk15 : ∀ {x0 : Nat} {l1 : Int32} {l2 : Int32} {l3 : Int32} {l4 : Int32} {σ : hw_S} {H : Heap} {locs : List Loc} {ls : Array Slot}, k15 x0 l1 l2 l3 l4 σ = some (r, τ) → hw_R D b σ H → va_S (fun q => b ≤ q) s.heap H locs → hw_L ls 9 255 [(0, hw_vr b (some x0)), (1, .int l1), (2, .int l2), (3, .int l3), (4, .int l4)] → W p l e rm12_base s m args below meth c H locs 0 0 (MQ below (hw_QI D b τ r) args s 0 0 (fun q => b ≤ q)) (F0 m 15 ls [])) {x0 : Nat} {l1 : Int32} {l2 : Int32} {l3 : Int32} {l4 : Int32} {t0 : Option Nat} {t1 : Int32} {σ : hw_S} {H : Heap} {locs : List Loc} (hm : m12_base_b252 k15 x0 l1 l2 l3 l4 t0 t1 σ = some (r, τ)) (hR : hw_R D b σ H) (hS : va_S (fun q => b ≤ q) s.heap H locs) {ls : Array Slot} (hl : hw_L ls 9 255 [(0, hw_vr b (some x0)), (1, .int l1), (2, .int l2), (3, .int l3), (4, .int l4)]) : W p l e rm12_base s m args below meth c H locs 0 0 (MQ below (hw_QI D b τ r) args s 0 0 (fun q => b ≤ q)) (F0 m 252 ls [.int t1, hw_vr b t0]) := by
  obtain ⟨hx, hb, hml, hr, hown, hts, hlk, hE, hnm⟩ := id C0
  have hown : s.vm.findClass RX12 = some m.cls := hown
  have hK := hE.1
  unfold m12_base_b252 at hm
  refine lv_iconst (v := 1) hx hb dX12_base_252 (by decide) ?_
  refine lv_goto (tgt := 257) hx hb dX12_base_253 (by decide) ?_
  exact w12_base_b257 C0 hk15 hm hR hS (hl.sub [0, 1, 2, 3, 4] rfl)
def m12_base_b228 (k15 : Nat → Int32 → Int32 → Int32 → Int32 → hw_S → Option (Int32 × hw_S)) (x0 : Nat) (l1 : Int32) (l2 : Int32) (l3 : Int32) (l4 : Int32) (t0 : Option Nat) (t1 : Int32) (σ : hw_S) : Option (Int32 × hw_S) :=
  m12_base_b257 k15 x0 l1 l2 l3 l4 t0 t1 (0 : Int32) σ
set_option maxRecDepth 100000 in
theorem w12_base_b228 {p : Program} {l : Launch} {e : Env} {s : State} {m : MethodId} {args : Array Value} {below : List Frame} {meth : Method} {c : Code} {D : hw_D} {b : Nat} {k15 : Nat → Int32 → Int32 → Int32 → Int32 → hw_S → Option (Int32 × hw_S)} {r : Int32} {τ : hw_S} (C0 : hw_C p s m args meth c D yX12_base cX12_base 9 (some .int)) (hk15 : ∀ {x0 : Nat} {l1 : Int32} {l2 : Int32} {l3 : Int32} {l4 : Int32} {σ : hw_S} {H : Heap} {locs : List Loc} {ls : Array Slot}, k15 x0 l1 l2 l3 l4 σ = some (r, τ) → hw_R D b σ H → va_S (fun q => b ≤ q) s.heap H locs → hw_L ls 9 255 [(0, hw_vr b (some x0)), (1, .int l1), (2, .int l2), (3, .int l3), (4, .int l4)] → W p l e rm12_base s m args below meth c H locs 0 0 (MQ below (hw_QI D b τ r) args s 0 0 (fun q => b ≤ q)) (F0 m 15 ls [])) {x0 : Nat} {l1 : Int32} {l2 : Int32} {l3 : Int32} {l4 : Int32} {t0 : Option Nat} {t1 : Int32} {σ : hw_S} {H : Heap} {locs : List Loc} (hm : m12_base_b228 k15 x0 l1 l2 l3 l4 t0 t1 σ = some (r, τ)) (hR : hw_R D b σ H) (hS : va_S (fun q => b ≤ q) s.heap H locs) {ls : Array Slot} (hl : hw_L ls 9 255 [(0, hw_vr b (some x0)), (1, .int l1), (2, .int l2), (3, .int l3), (4, .int l4)]) : W p l e rm12_base s m args below meth c H locs 0 0 (MQ below (hw_QI D b τ r) args s 0 0 (fun q => b ≤ q)) (F0 m 228 ls [.int t1, hw_vr b t0]) := by
  obtain ⟨hx, hb, hml, hr, hown, hts, hlk, hE, hnm⟩ := id C0
  have hown : s.vm.findClass RX12 = some m.cls := hown
  have hK := hE.1
  unfold m12_base_b228 at hm
  refine lv_iconst (v := 0) hx hb dX12_base_228 (by decide) ?_
  refine lv_goto (tgt := 257) hx hb dX12_base_229 (by decide) ?_
  exact w12_base_b257 C0 hk15 hm hR hS (hl.sub [0, 1, 2, 3, 4] rfl)
def m12_base_b176 (k15 : Nat → Int32 → Int32 → Int32 → Int32 → hw_S → Option (Int32 × hw_S)) (x0 : Nat) (l1 : Int32) (l2 : Int32) (l3 : Int32) (l4 : Int32) (t0 : Option Nat) (t1 : Int32) (t2 : Int32) (σ : hw_S) : Option (Int32 × hw_S) :=
  (hw_sZ t0 t1 t2 σ).bind fun σ176 =>
  m12_base_b301 k15 x0 l1 l2 l3 l4 σ176
set_option maxRecDepth 100000 in
theorem w12_base_b176 {p : Program} {l : Launch} {e : Env} {s : State} {m : MethodId} {args : Array Value} {below : List Frame} {meth : Method} {c : Code} {D : hw_D} {b : Nat} {k15 : Nat → Int32 → Int32 → Int32 → Int32 → hw_S → Option (Int32 × hw_S)} {r : Int32} {τ : hw_S} (C0 : hw_C p s m args meth c D yX12_base cX12_base 9 (some .int)) (hk15 : ∀ {x0 : Nat} {l1 : Int32} {l2 : Int32} {l3 : Int32} {l4 : Int32} {σ : hw_S} {H : Heap} {locs : List Loc} {ls : Array Slot}, k15 x0 l1 l2 l3 l4 σ = some (r, τ) → hw_R D b σ H → va_S (fun q => b ≤ q) s.heap H locs → hw_L ls 9 255 [(0, hw_vr b (some x0)), (1, .int l1), (2, .int l2), (3, .int l3), (4, .int l4)] → W p l e rm12_base s m args below meth c H locs 0 0 (MQ below (hw_QI D b τ r) args s 0 0 (fun q => b ≤ q)) (F0 m 15 ls [])) {x0 : Nat} {l1 : Int32} {l2 : Int32} {l3 : Int32} {l4 : Int32} {t0 : Option Nat} {t1 : Int32} {t2 : Int32} {σ : hw_S} {H : Heap} {locs : List Loc} (hm : m12_base_b176 k15 x0 l1 l2 l3 l4 t0 t1 t2 σ = some (r, τ)) (hR : hw_R D b σ H) (hS : va_S (fun q => b ≤ q) s.heap H locs) {ls : Array Slot} (hl : hw_L ls 9 255 [(0, hw_vr b (some x0)), (1, .int l1), (2, .int l2), (3, .int l3), (4, .int l4)]) : W p l e rm12_base s m args below meth c H locs 0 0 (MQ below (hw_QI D b τ r) args s 0 0 (fun q => b ≤ q)) (F0 m 176 ls [.int t2, .int t1, hw_vr b t0]) := by
  obtain ⟨hx, hb, hml, hr, hown, hts, hlk, hE, hnm⟩ := id C0
  have hown : s.vm.findClass RX12 = some m.cls := hown
  have hK := hE.1
  unfold m12_base_b176 at hm
  obtain ⟨σ176, e176, hm⟩ := hw_bs hm
  refine hw_zast hx hb hK hR hS e176 dX12_base_176 (fun _ _ hR hS => ?_)
  refine lv_goto (tgt := 301) hx hb dX12_base_177 (by decide) ?_
  exact w12_base_b301 C0 hk15 hm hR hS (hl.sub [0, 1, 2, 3, 4] rfl)
def m12_base_b140 (k15 : Nat → Int32 → Int32 → Int32 → Int32 → hw_S → Option (Int32 × hw_S)) (x0 : Nat) (l1 : Int32) (l2 : Int32) (l3 : Int32) (l4 : Int32) (t0 : Option Nat) (t1 : Int32) (t2 : Int32) (σ : hw_S) : Option (Int32 × hw_S) :=
  (hw_sZ t0 t1 t2 σ).bind fun σ140 =>
  m12_base_b301 k15 x0 l1 l2 (l3 + 1) l4 σ140
set_option maxRecDepth 100000 in
theorem w12_base_b140 {p : Program} {l : Launch} {e : Env} {s : State} {m : MethodId} {args : Array Value} {below : List Frame} {meth : Method} {c : Code} {D : hw_D} {b : Nat} {k15 : Nat → Int32 → Int32 → Int32 → Int32 → hw_S → Option (Int32 × hw_S)} {r : Int32} {τ : hw_S} (C0 : hw_C p s m args meth c D yX12_base cX12_base 9 (some .int)) (hk15 : ∀ {x0 : Nat} {l1 : Int32} {l2 : Int32} {l3 : Int32} {l4 : Int32} {σ : hw_S} {H : Heap} {locs : List Loc} {ls : Array Slot}, k15 x0 l1 l2 l3 l4 σ = some (r, τ) → hw_R D b σ H → va_S (fun q => b ≤ q) s.heap H locs → hw_L ls 9 255 [(0, hw_vr b (some x0)), (1, .int l1), (2, .int l2), (3, .int l3), (4, .int l4)] → W p l e rm12_base s m args below meth c H locs 0 0 (MQ below (hw_QI D b τ r) args s 0 0 (fun q => b ≤ q)) (F0 m 15 ls [])) {x0 : Nat} {l1 : Int32} {l2 : Int32} {l3 : Int32} {l4 : Int32} {t0 : Option Nat} {t1 : Int32} {t2 : Int32} {σ : hw_S} {H : Heap} {locs : List Loc} (hm : m12_base_b140 k15 x0 l1 l2 l3 l4 t0 t1 t2 σ = some (r, τ)) (hR : hw_R D b σ H) (hS : va_S (fun q => b ≤ q) s.heap H locs) {ls : Array Slot} (hl : hw_L ls 9 255 [(0, hw_vr b (some x0)), (1, .int l1), (2, .int l2), (3, .int l3), (4, .int l4)]) : W p l e rm12_base s m args below meth c H locs 0 0 (MQ below (hw_QI D b τ r) args s 0 0 (fun q => b ≤ q)) (F0 m 140 ls [.int t2, .int t1, hw_vr b t0]) := by
  obtain ⟨hx, hb, hml, hr, hown, hts, hlk, hE, hnm⟩ := id C0
  have hown : s.vm.findClass RX12 = some m.cls := hown
  have hK := hE.1
  unfold m12_base_b140 at hm
  obtain ⟨σ140, e140, hm⟩ := hw_bs hm
  refine hw_zast hx hb hK hR hS e140 dX12_base_140 (fun _ _ hR hS => ?_)
  refine hw_iinc (v := (l3 + 1)) (lv' := [(3, .int (l3 + 1)), (0, hw_vr b (some x0)), (1, .int l1), (2, .int l2), (4, .int l4)]) hx hb dX12_base_141 hl (k := 3) rfl rfl (by decide) (by decide) rfl (fun ls hl => ?_)
  refine lv_goto (tgt := 301) hx hb dX12_base_144 (by decide) ?_
  exact w12_base_b301 C0 hk15 hm hR hS (hl.sub [1, 2, 3, 0, 4] rfl)
def m12_base_b15 : Nat → Nat → Int32 → Int32 → Int32 → Int32 → hw_S → Option (Int32 × hw_S)
  | 0, _, _, _, _, _, _ => none
  | n + 1, x0, l1, l2, l3, l4, σ =>
  (hw_gP (hw_q 12) 1 (some x0) σ).bind fun v27 =>
  (hw_aI 0 v27 ((204 : Int32) + l1) σ).bind fun v35 =>
  (if (((212 : Int32) + ((140 : Int32) * l1)) + v35) ≤ l4 then
  (if (1 : Int32) ≤ l2 then
  m12_base_b317 x0 l2 σ
  else
  m12_base_b317 x0 (1 : Int32) σ)
  else
  (hw_gP (hw_q 12) 1 (some x0) σ).bind fun v41 =>
  (hw_aI 0 v41 l4 σ).bind fun v46 =>
  (if v46 < 0 then
  (if v46 = ((-1) : Int32) then
  (hw_gP (hw_q 12) 10 (some x0) σ).bind fun v154 =>
  (hw_gP (hw_q 12) 10 (some x0) σ).bind fun v161 =>
  (hw_aI 1 v161 (l3 - (1 : Int32)) σ).bind fun v167 =>
  (if v167 = 0 then
  m12_base_b176 (m12_base_b15 n) x0 l1 l2 l3 l4 v154 (l3 - (1 : Int32)) (1 : Int32) σ
  else
  m12_base_b176 (m12_base_b15 n) x0 l1 l2 l3 l4 v154 (l3 - (1 : Int32)) (0 : Int32) σ)
  else
  (if v46 ≤ ((-10) : Int32) then
  (hw_gP (hw_q 12) 10 (some x0) σ).bind fun v265 =>
  (hw_aI 1 v265 (0 : Int32) σ).bind fun v269 =>
  (if v269 = 0 then
  m12_base_b299 (m12_base_b15 n) x0 l1 (0 : Int32) l4 l2 (0 : Int32) σ
  else
  (if v46 ≤ ((-200) : Int32) then
  m12_base_b299 (m12_base_b15 n) x0 l1 (0 : Int32) l4 l2 (v46 - ((-200) : Int32)) σ
  else
  m12_base_b299 (m12_base_b15 n) x0 l1 (0 : Int32) l4 l2 (((-10) : Int32) - v46) σ))
  else
  (hw_gP (hw_q 12) 10 (some x0) σ).bind fun v191 =>
  (if v46 = ((-2) : Int32) then
  (hw_gP (hw_q 12) 10 (some x0) σ).bind fun v205 =>
  (hw_aI 1 v205 ((l3 + (-1)) - (1 : Int32)) σ).bind fun v211 =>
  (if v211 = 0 then
  m12_base_b228 (m12_base_b15 n) x0 l1 l2 (l3 + (-1)) l4 v191 ((l3 + (-1)) - (1 : Int32)) σ
  else
  (hw_gP (hw_q 12) 10 (some x0) σ).bind fun v216 =>
  (hw_aI 1 v216 (l3 + (-1)) σ).bind fun v220 =>
  (if v220 = 0 then
  m12_base_b228 (m12_base_b15 n) x0 l1 l2 (l3 + (-1)) l4 v191 ((l3 + (-1)) - (1 : Int32)) σ
  else
  m12_base_b257 (m12_base_b15 n) x0 l1 l2 (l3 + (-1)) l4 v191 ((l3 + (-1)) - (1 : Int32)) (1 : Int32) σ))
  else
  (hw_gP (hw_q 12) 10 (some x0) σ).bind fun v233 =>
  (hw_aI 1 v233 ((l3 + (-1)) - (1 : Int32)) σ).bind fun v239 =>
  (if v239 = 0 then
  (hw_gP (hw_q 12) 10 (some x0) σ).bind fun v244 =>
  (hw_aI 1 v244 (l3 + (-1)) σ).bind fun v248 =>
  (if v248 = 0 then
  m12_base_b257 (m12_base_b15 n) x0 l1 l2 (l3 + (-1)) l4 v191 ((l3 + (-1)) - (1 : Int32)) (0 : Int32) σ
  else
  m12_base_b252 (m12_base_b15 n) x0 l1 l2 (l3 + (-1)) l4 v191 ((l3 + (-1)) - (1 : Int32)) σ)
  else
  m12_base_b252 (m12_base_b15 n) x0 l1 l2 (l3 + (-1)) l4 v191 ((l3 + (-1)) - (1 : Int32)) σ))))
  else
  (hw_gP (hw_q 12) 9 (some x0) σ).bind fun v55 =>
  (hw_rm v46 (8 : Int32)).bind fun v62 =>
  (hw_aI 0 v55 v62 σ).bind fun v63 =>
  (hw_dv v46 (8 : Int32)).bind fun v70 =>
  (hw_rm v70 (4 : Int32)).bind fun v72 =>
  (hw_dv v46 (32 : Int32)).bind fun v79 =>
  (hw_gP (hw_q 12) 10 (some x0) σ).bind fun v83 =>
  (if v72 = 0 then
  (if v79 ≤ v63 then
  m12_base_b140 (m12_base_b15 n) x0 l1 l2 l3 l4 v83 l3 (0 : Int32) σ
  else
  m12_base_b140 (m12_base_b15 n) x0 l1 l2 l3 l4 v83 l3 (1 : Int32) σ)
  else
  (if v72 = (1 : Int32) then
  (if v63 = v79 then
  m12_base_b140 (m12_base_b15 n) x0 l1 l2 l3 l4 v83 l3 (1 : Int32) σ
  else
  m12_base_b140 (m12_base_b15 n) x0 l1 l2 l3 l4 v83 l3 (0 : Int32) σ)
  else
  (if v63 ≤ v79 then
  m12_base_b140 (m12_base_b15 n) x0 l1 l2 l3 l4 v83 l3 (0 : Int32) σ
  else
  m12_base_b140 (m12_base_b15 n) x0 l1 l2 l3 l4 v83 l3 (1 : Int32) σ)))))
set_option maxRecDepth 100000 in
theorem w12_base_b15 {p : Program} {l : Launch} {e : Env} {s : State} {m : MethodId} {args : Array Value} {below : List Frame} {meth : Method} {c : Code} {D : hw_D} {b : Nat} {r : Int32} {τ : hw_S} (C0 : hw_C p s m args meth c D yX12_base cX12_base 9 (some .int)) : ∀ (n : Nat) {x0 : Nat} {l1 : Int32} {l2 : Int32} {l3 : Int32} {l4 : Int32} {σ : hw_S} {H : Heap} {locs : List Loc} {ls : Array Slot}, m12_base_b15 n x0 l1 l2 l3 l4 σ = some (r, τ) → hw_R D b σ H → va_S (fun q => b ≤ q) s.heap H locs → hw_L ls 9 255 [(0, hw_vr b (some x0)), (1, .int l1), (2, .int l2), (3, .int l3), (4, .int l4)] → W p l e rm12_base s m args below meth c H locs 0 0 (MQ below (hw_QI D b τ r) args s 0 0 (fun q => b ≤ q)) (F0 m 15 ls []) := by
  obtain ⟨hx, hb, hml, hr, hown, hts, hlk, hE, hnm⟩ := id C0
  have hown : s.vm.findClass RX12 = some m.cls := hown
  have hK := hE.1
  intro n
  induction n with
  | zero => intro _ _ _ _ _ _ _ _ _ hm; cases hm
  | succ n ih =>
    intro x0 l1 l2 l3 l4 σ H locs ls hm hR hS hl
    rw [m12_base_b15] at hm
    refine lv_iload hx hb dX12_base_15 (hl.at 4 rfl) ?_
    refine lv_sipush (v := 212) hx hb dX12_base_17 (by decide) ?_
    refine lv_sipush (v := 140) hx hb dX12_base_20 (by decide) ?_
    refine lv_iload_n hx hb dX12_base_23 rfl (hl.at 1 rfl) ?_
    refine lv_imul hx hb dX12_base_24 ?_
    refine lv_iadd hx hb dX12_base_25 ?_
    refine hw_aload_n hx hb dX12_base_26 rfl (hl.at 0 rfl) ?_
    obtain ⟨v27, e27, hm⟩ := hw_bs hm
    refine hw_getP hx hb hw_cf12 hts hown hK hR e27 (by decide) rfl (hts _ hw_m76) (fun _ h9 => h9) dX12_base_27 ?_
    refine lv_sipush (v := 204) hx hb dX12_base_30 (by decide) ?_
    refine lv_iload_n hx hb dX12_base_33 rfl (hl.at 1 rfl) ?_
    refine lv_iadd hx hb dX12_base_34 ?_
    obtain ⟨v35, e35, hm⟩ := hw_bs hm
    refine hw_iald hx hb hK hR e35 dX12_base_35 ?_
    refine lv_iadd hx hb dX12_base_36 ?_
    refine lv_icmp_ge (tgt := 307) hx hb dX12_base_37 (by decide) (fun c37 => ?_) (fun c37 => ?_)
    · have hm := hw_ip hm c37
      refine lv_iload_n hx hb dX12_base_307 rfl (hl.at 2 rfl) ?_
      refine lv_iconst (v := 1) hx hb dX12_base_308 (by decide) ?_
      refine lv_icmp_ge (tgt := 316) hx hb dX12_base_309 (by decide) (fun c309 => ?_) (fun c309 => ?_)
      · have hm := hw_ip hm c309
        refine lv_iload_n hx hb dX12_base_316 rfl (hl.at 2 rfl) ?_
        exact w12_base_b317 C0 hm hR hS (hl.sub [0] rfl)
      · have hm := hw_in hm c309
        refine lv_iconst (v := 1) hx hb dX12_base_312 (by decide) ?_
        refine lv_goto (tgt := 317) hx hb dX12_base_313 (by decide) ?_
        exact w12_base_b317 C0 hm hR hS (hl.sub [0] rfl)
    · have hm := hw_in hm c37
      refine hw_aload_n hx hb dX12_base_40 rfl (hl.at 0 rfl) ?_
      obtain ⟨v41, e41, hm⟩ := hw_bs hm
      refine hw_getP hx hb hw_cf12 hts hown hK hR e41 (by decide) rfl (hts _ hw_m76) (fun _ h9 => h9) dX12_base_41 ?_
      refine lv_iload hx hb dX12_base_44 (hl.at 4 rfl) ?_
      obtain ⟨v46, e46, hm⟩ := hw_bs hm
      refine hw_iald hx hb hK hR e46 dX12_base_46 ?_
      refine hw_istore (lv' := [(5, .int v46), (0, hw_vr b (some x0)), (1, .int l1), (2, .int l2), (3, .int l3), (4, .int l4)]) hx hb dX12_base_47 hl (by decide) (by decide) rfl (fun ls hl => ?_)
      refine lv_iload hx hb dX12_base_49 (hl.at 0 rfl) ?_
      refine lv_if_lt (tgt := 147) hx hb dX12_base_51 (by decide) (fun c51 => ?_) (fun c51 => ?_)
      · have hm := hw_ip hm c51
        refine lv_iload hx hb dX12_base_147 (hl.at 0 rfl) ?_
        refine lv_iconst (v := (-1)) hx hb dX12_base_149 (by decide) ?_
        refine lv_icmp_ne (tgt := 180) hx hb dX12_base_150 (by decide) (fun c150 => ?_) (fun c150 => ?_)
        · have hm := hw_in hm c150
          refine lv_iload hx hb dX12_base_180 (hl.at 0 rfl) ?_
          refine lv_bipush (v := (-10)) hx hb dX12_base_182 (by decide) ?_
          refine lv_icmp_le (tgt := 261) hx hb dX12_base_184 (by decide) (fun c184 => ?_) (fun c184 => ?_)
          · have hm := hw_ip hm c184
            refine lv_iconst (v := 0) hx hb dX12_base_261 (by decide) ?_
            refine hw_istore_n (lv' := [(3, .int (0 : Int32)), (5, .int v46), (0, hw_vr b (some x0)), (1, .int l1), (2, .int l2), (4, .int l4)]) hx hb dX12_base_262 rfl hl (by decide) (by decide) rfl (fun ls hl => ?_)
            refine lv_iload_n hx hb dX12_base_263 rfl (hl.at 4 rfl) ?_
            refine hw_aload_n hx hb dX12_base_264 rfl (hl.at 2 rfl) ?_
            obtain ⟨v265, e265, hm⟩ := hw_bs hm
            refine hw_getP hx hb hw_cf12 hts hown hK hR e265 (by decide) rfl (hts _ hw_m80) (fun _ h9 => h9) dX12_base_265 ?_
            refine lv_iconst (v := 0) hx hb dX12_base_268 (by decide) ?_
            obtain ⟨v269, e269, hm⟩ := hw_bs hm
            refine hw_zald hx hb hK hR e269 dX12_base_269 ?_
            refine lv_if_ne (tgt := 277) hx hb dX12_base_270 (by decide) (fun c270 => ?_) (fun c270 => ?_)
            · have hm := hw_in hm c270
              refine lv_iload hx hb dX12_base_277 (hl.at 1 rfl) ?_
              refine lv_sipush (v := (-200)) hx hb dX12_base_279 (by decide) ?_
              refine lv_icmp_le (tgt := 293) hx hb dX12_base_282 (by decide) (fun c282 => ?_) (fun c282 => ?_)
              · have hm := hw_ip hm c282
                refine lv_iload hx hb dX12_base_293 (hl.at 1 rfl) ?_
                refine lv_sipush (v := (-200)) hx hb dX12_base_295 (by decide) ?_
                refine lv_isub hx hb dX12_base_298 ?_
                exact w12_base_b299 C0 ih hm hR hS (hl.sub [2, 3, 0, 5] rfl)
              · have hm := hw_in hm c282
                refine lv_bipush (v := (-10)) hx hb dX12_base_285 (by decide) ?_
                refine lv_iload hx hb dX12_base_287 (hl.at 1 rfl) ?_
                refine lv_isub hx hb dX12_base_289 ?_
                refine lv_goto (tgt := 299) hx hb dX12_base_290 (by decide) ?_
                exact w12_base_b299 C0 ih hm hR hS (hl.sub [2, 3, 0, 5] rfl)
            · have hm := hw_ip hm c270
              refine lv_iconst (v := 0) hx hb dX12_base_273 (by decide) ?_
              refine lv_goto (tgt := 299) hx hb dX12_base_274 (by decide) ?_
              exact w12_base_b299 C0 ih hm hR hS (hl.sub [2, 3, 0, 5] rfl)
          · have hm := hw_in hm c184
            refine hw_iinc (v := (l3 + (-1))) (lv' := [(3, .int (l3 + (-1))), (5, .int v46), (0, hw_vr b (some x0)), (1, .int l1), (2, .int l2), (4, .int l4)]) hx hb dX12_base_187 hl (k := 4) rfl rfl (by decide) (by decide) rfl (fun ls hl => ?_)
            refine hw_aload_n hx hb dX12_base_190 rfl (hl.at 2 rfl) ?_
            obtain ⟨v191, e191, hm⟩ := hw_bs hm
            refine hw_getP hx hb hw_cf12 hts hown hK hR e191 (by decide) rfl (hts _ hw_m80) (fun _ h9 => h9) dX12_base_191 ?_
            refine lv_iload_n hx hb dX12_base_194 rfl (hl.at 0 rfl) ?_
            refine lv_iconst (v := 1) hx hb dX12_base_195 (by decide) ?_
            refine lv_isub hx hb dX12_base_196 ?_
            refine lv_iload hx hb dX12_base_197 (hl.at 1 rfl) ?_
            refine lv_bipush (v := (-2)) hx hb dX12_base_199 (by decide) ?_
            refine lv_icmp_ne (tgt := 232) hx hb dX12_base_201 (by decide) (fun c201 => ?_) (fun c201 => ?_)
            · have hm := hw_in hm c201
              refine hw_aload_n hx hb dX12_base_232 rfl (hl.at 2 rfl) ?_
              obtain ⟨v233, e233, hm⟩ := hw_bs hm
              refine hw_getP hx hb hw_cf12 hts hown hK hR e233 (by decide) rfl (hts _ hw_m80) (fun _ h9 => h9) dX12_base_233 ?_
              refine lv_iload_n hx hb dX12_base_236 rfl (hl.at 0 rfl) ?_
              refine lv_iconst (v := 1) hx hb dX12_base_237 (by decide) ?_
              refine lv_isub hx hb dX12_base_238 ?_
              obtain ⟨v239, e239, hm⟩ := hw_bs hm
              refine hw_zald hx hb hK hR e239 dX12_base_239 ?_
              refine lv_if_ne (tgt := 252) hx hb dX12_base_240 (by decide) (fun c240 => ?_) (fun c240 => ?_)
              · have hm := hw_in hm c240
                exact w12_base_b252 C0 ih hm hR hS (hl.sub [2, 3, 4, 0, 5] rfl)
              · have hm := hw_ip hm c240
                refine hw_aload_n hx hb dX12_base_243 rfl (hl.at 2 rfl) ?_
                obtain ⟨v244, e244, hm⟩ := hw_bs hm
                refine hw_getP hx hb hw_cf12 hts hown hK hR e244 (by decide) rfl (hts _ hw_m80) (fun _ h9 => h9) dX12_base_244 ?_
                refine lv_iload_n hx hb dX12_base_247 rfl (hl.at 0 rfl) ?_
                obtain ⟨v248, e248, hm⟩ := hw_bs hm
                refine hw_zald hx hb hK hR e248 dX12_base_248 ?_
                refine lv_if_eq (tgt := 256) hx hb dX12_base_249 (by decide) (fun c249 => ?_) (fun c249 => ?_)
                · have hm := hw_ip hm c249
                  refine lv_iconst (v := 0) hx hb dX12_base_256 (by decide) ?_
                  exact w12_base_b257 C0 ih hm hR hS (hl.sub [2, 3, 4, 0, 5] rfl)
                · have hm := hw_in hm c249
                  exact w12_base_b252 C0 ih hm hR hS (hl.sub [2, 3, 4, 0, 5] rfl)
            · have hm := hw_ip hm c201
              refine hw_aload_n hx hb dX12_base_204 rfl (hl.at 2 rfl) ?_
              obtain ⟨v205, e205, hm⟩ := hw_bs hm
              refine hw_getP hx hb hw_cf12 hts hown hK hR e205 (by decide) rfl (hts _ hw_m80) (fun _ h9 => h9) dX12_base_205 ?_
              refine lv_iload_n hx hb dX12_base_208 rfl (hl.at 0 rfl) ?_
              refine lv_iconst (v := 1) hx hb dX12_base_209 (by decide) ?_
              refine lv_isub hx hb dX12_base_210 ?_
              obtain ⟨v211, e211, hm⟩ := hw_bs hm
              refine hw_zald hx hb hK hR e211 dX12_base_211 ?_
              refine lv_if_eq (tgt := 228) hx hb dX12_base_212 (by decide) (fun c212 => ?_) (fun c212 => ?_)
              · have hm := hw_ip hm c212
                exact w12_base_b228 C0 ih hm hR hS (hl.sub [2, 3, 4, 0, 5] rfl)
              · have hm := hw_in hm c212
                refine hw_aload_n hx hb dX12_base_215 rfl (hl.at 2 rfl) ?_
                obtain ⟨v216, e216, hm⟩ := hw_bs hm
                refine hw_getP hx hb hw_cf12 hts hown hK hR e216 (by decide) rfl (hts _ hw_m80) (fun _ h9 => h9) dX12_base_216 ?_
                refine lv_iload_n hx hb dX12_base_219 rfl (hl.at 0 rfl) ?_
                obtain ⟨v220, e220, hm⟩ := hw_bs hm
                refine hw_zald hx hb hK hR e220 dX12_base_220 ?_
                refine lv_if_eq (tgt := 228) hx hb dX12_base_221 (by decide) (fun c221 => ?_) (fun c221 => ?_)
                · have hm := hw_ip hm c221
                  exact w12_base_b228 C0 ih hm hR hS (hl.sub [2, 3, 4, 0, 5] rfl)
                · have hm := hw_in hm c221
                  refine lv_iconst (v := 1) hx hb dX12_base_224 (by decide) ?_
                  refine lv_goto (tgt := 257) hx hb dX12_base_225 (by decide) ?_
                  exact w12_base_b257 C0 ih hm hR hS (hl.sub [2, 3, 4, 0, 5] rfl)
        · have hm := hw_ip hm c150
          refine hw_aload_n hx hb dX12_base_153 rfl (hl.at 1 rfl) ?_
          obtain ⟨v154, e154, hm⟩ := hw_bs hm
          refine hw_getP hx hb hw_cf12 hts hown hK hR e154 (by decide) rfl (hts _ hw_m80) (fun _ h9 => h9) dX12_base_154 ?_
          refine lv_iload_n hx hb dX12_base_157 rfl (hl.at 4 rfl) ?_
          refine lv_iconst (v := 1) hx hb dX12_base_158 (by decide) ?_
          refine lv_isub hx hb dX12_base_159 ?_
          refine hw_aload_n hx hb dX12_base_160 rfl (hl.at 1 rfl) ?_
          obtain ⟨v161, e161, hm⟩ := hw_bs hm
          refine hw_getP hx hb hw_cf12 hts hown hK hR e161 (by decide) rfl (hts _ hw_m80) (fun _ h9 => h9) dX12_base_161 ?_
          refine lv_iload_n hx hb dX12_base_164 rfl (hl.at 4 rfl) ?_
          refine lv_iconst (v := 1) hx hb dX12_base_165 (by decide) ?_
          refine lv_isub hx hb dX12_base_166 ?_
          obtain ⟨v167, e167, hm⟩ := hw_bs hm
          refine hw_zald hx hb hK hR e167 dX12_base_167 ?_
          refine lv_if_ne (tgt := 175) hx hb dX12_base_168 (by decide) (fun c168 => ?_) (fun c168 => ?_)
          · have hm := hw_in hm c168
            refine lv_iconst (v := 0) hx hb dX12_base_175 (by decide) ?_
            exact w12_base_b176 C0 ih hm hR hS (hl.sub [1, 2, 3, 4, 5] rfl)
          · have hm := hw_ip hm c168
            refine lv_iconst (v := 1) hx hb dX12_base_171 (by decide) ?_
            refine lv_goto (tgt := 176) hx hb dX12_base_172 (by decide) ?_
            exact w12_base_b176 C0 ih hm hR hS (hl.sub [1, 2, 3, 4, 5] rfl)
      · have hm := hw_in hm c51
        refine hw_aload_n hx hb dX12_base_54 rfl (hl.at 1 rfl) ?_
        obtain ⟨v55, e55, hm⟩ := hw_bs hm
        refine hw_getP hx hb hw_cf12 hts hown hK hR e55 (by decide) rfl (hts _ hw_m78) (fun _ h9 => h9) dX12_base_55 ?_
        refine lv_iload hx hb dX12_base_58 (hl.at 0 rfl) ?_
        refine lv_bipush (v := 8) hx hb dX12_base_60 (by decide) ?_
        obtain ⟨v62, e62, hm⟩ := hw_bs hm
        refine hw_irem hx hb e62 dX12_base_62 ?_
        obtain ⟨v63, e63, hm⟩ := hw_bs hm
        refine hw_iald hx hb hK hR e63 dX12_base_63 ?_
        refine hw_istore (lv' := [(6, .int v63), (5, .int v46), (0, hw_vr b (some x0)), (1, .int l1), (2, .int l2), (3, .int l3), (4, .int l4)]) hx hb dX12_base_64 hl (by decide) (by decide) rfl (fun ls hl => ?_)
        refine lv_iload hx hb dX12_base_66 (hl.at 1 rfl) ?_
        refine lv_bipush (v := 8) hx hb dX12_base_68 (by decide) ?_
        obtain ⟨v70, e70, hm⟩ := hw_bs hm
        refine hw_idiv hx hb e70 dX12_base_70 ?_
        refine lv_iconst (v := 4) hx hb dX12_base_71 (by decide) ?_
        obtain ⟨v72, e72, hm⟩ := hw_bs hm
        refine hw_irem hx hb e72 dX12_base_72 ?_
        refine hw_istore (lv' := [(7, .int v72), (6, .int v63), (5, .int v46), (0, hw_vr b (some x0)), (1, .int l1), (2, .int l2), (3, .int l3), (4, .int l4)]) hx hb dX12_base_73 hl (by decide) (by decide) rfl (fun ls hl => ?_)
        refine lv_iload hx hb dX12_base_75 (hl.at 2 rfl) ?_
        refine lv_bipush (v := 32) hx hb dX12_base_77 (by decide) ?_
        obtain ⟨v79, e79, hm⟩ := hw_bs hm
        refine hw_idiv hx hb e79 dX12_base_79 ?_
        refine hw_istore (lv' := [(8, .int v79), (7, .int v72), (6, .int v63), (5, .int v46), (0, hw_vr b (some x0)), (1, .int l1), (2, .int l2), (3, .int l3), (4, .int l4)]) hx hb dX12_base_80 hl (by decide) (by decide) rfl (fun ls hl => ?_)
        refine hw_aload_n hx hb dX12_base_82 rfl (hl.at 4 rfl) ?_
        obtain ⟨v83, e83, hm⟩ := hw_bs hm
        refine hw_getP hx hb hw_cf12 hts hown hK hR e83 (by decide) rfl (hts _ hw_m80) (fun _ h9 => h9) dX12_base_83 ?_
        refine lv_iload_n hx hb dX12_base_86 rfl (hl.at 7 rfl) ?_
        refine lv_iload hx hb dX12_base_87 (hl.at 1 rfl) ?_
        refine lv_if_ne (tgt := 107) hx hb dX12_base_89 (by decide) (fun c89 => ?_) (fun c89 => ?_)
        · have hm := hw_in hm c89
          refine lv_iload hx hb dX12_base_107 (hl.at 1 rfl) ?_
          refine lv_iconst (v := 1) hx hb dX12_base_109 (by decide) ?_
          refine lv_icmp_ne (tgt := 128) hx hb dX12_base_110 (by decide) (fun c110 => ?_) (fun c110 => ?_)
          · have hm := hw_in hm c110
            refine lv_iload hx hb dX12_base_128 (hl.at 2 rfl) ?_
            refine lv_iload hx hb dX12_base_130 (hl.at 0 rfl) ?_
            refine lv_icmp_le (tgt := 139) hx hb dX12_base_132 (by decide) (fun c132 => ?_) (fun c132 => ?_)
            · have hm := hw_ip hm c132
              refine lv_iconst (v := 0) hx hb dX12_base_139 (by decide) ?_
              exact w12_base_b140 C0 ih hm hR hS (hl.sub [4, 5, 6, 7, 8] rfl)
            · have hm := hw_in hm c132
              refine lv_iconst (v := 1) hx hb dX12_base_135 (by decide) ?_
              refine lv_goto (tgt := 140) hx hb dX12_base_136 (by decide) ?_
              exact w12_base_b140 C0 ih hm hR hS (hl.sub [4, 5, 6, 7, 8] rfl)
          · have hm := hw_ip hm c110
            refine lv_iload hx hb dX12_base_113 (hl.at 2 rfl) ?_
            refine lv_iload hx hb dX12_base_115 (hl.at 0 rfl) ?_
            refine lv_icmp_ne (tgt := 124) hx hb dX12_base_117 (by decide) (fun c117 => ?_) (fun c117 => ?_)
            · have hm := hw_in hm c117
              refine lv_iconst (v := 0) hx hb dX12_base_124 (by decide) ?_
              refine lv_goto (tgt := 140) hx hb dX12_base_125 (by decide) ?_
              exact w12_base_b140 C0 ih hm hR hS (hl.sub [4, 5, 6, 7, 8] rfl)
            · have hm := hw_ip hm c117
              refine lv_iconst (v := 1) hx hb dX12_base_120 (by decide) ?_
              refine lv_goto (tgt := 140) hx hb dX12_base_121 (by decide) ?_
              exact w12_base_b140 C0 ih hm hR hS (hl.sub [4, 5, 6, 7, 8] rfl)
        · have hm := hw_ip hm c89
          refine lv_iload hx hb dX12_base_92 (hl.at 2 rfl) ?_
          refine lv_iload hx hb dX12_base_94 (hl.at 0 rfl) ?_
          refine lv_icmp_ge (tgt := 103) hx hb dX12_base_96 (by decide) (fun c96 => ?_) (fun c96 => ?_)
          · have hm := hw_ip hm c96
            refine lv_iconst (v := 0) hx hb dX12_base_103 (by decide) ?_
            refine lv_goto (tgt := 140) hx hb dX12_base_104 (by decide) ?_
            exact w12_base_b140 C0 ih hm hR hS (hl.sub [4, 5, 6, 7, 8] rfl)
          · have hm := hw_in hm c96
            refine lv_iconst (v := 1) hx hb dX12_base_99 (by decide) ?_
            refine lv_goto (tgt := 140) hx hb dX12_base_100 (by decide) ?_
            exact w12_base_b140 C0 ih hm hR hS (hl.sub [4, 5, 6, 7, 8] rfl)
def m12_base (x0 : Nat) (l1 : Int32) (σ : hw_S) : Option (Int32 × hw_S) :=
  m12_base_b15 hw_fu x0 l1 (0 : Int32) (0 : Int32) ((212 : Int32) + ((140 : Int32) * l1)) σ
set_option maxRecDepth 100000 in
theorem w12_base_s {p : Program} {l : Launch} {e : Env} {s : State} {m : MethodId} {args : Array Value} {below : List Frame} {meth : Method} {c : Code} {D : hw_D} {b : Nat} {x0 : Nat} {l1 : Int32} {σ : hw_S} {r : Int32} {τ : hw_S} {H : Heap} {locs : List Loc} (hm : m12_base x0 l1 σ = some (r, τ)) (C0 : hw_C p s m args meth c D yX12_base cX12_base 9 (some .int)) (hR : hw_R D b σ H) (hS : va_S (fun q => b ≤ q) s.heap H locs) {ls : Array Slot} (hl : hw_L ls 9 255 [(0, hw_vr b (some x0)), (1, .int l1)]) : W p l e rm12_base s m args below meth c H locs 0 0 (MQ below (hw_QI D b τ r) args s 0 0 (fun q => b ≤ q)) (F0 m 0 ls []) := by
  obtain ⟨hx, hb, hml, hr, hown, hts, hlk, hE, hnm⟩ := id C0
  have hown : s.vm.findClass RX12 = some m.cls := hown
  have hK := hE.1
  unfold m12_base at hm
  refine lv_iconst (v := 0) hx hb dX12_base_0 (by decide) ?_
  refine hw_istore_n (lv' := [(2, .int (0 : Int32)), (0, hw_vr b (some x0)), (1, .int l1)]) hx hb dX12_base_1 rfl hl (by decide) (by decide) rfl (fun ls hl => ?_)
  refine lv_iconst (v := 0) hx hb dX12_base_2 (by decide) ?_
  refine hw_istore_n (lv' := [(3, .int (0 : Int32)), (2, .int (0 : Int32)), (0, hw_vr b (some x0)), (1, .int l1)]) hx hb dX12_base_3 rfl hl (by decide) (by decide) rfl (fun ls hl => ?_)
  refine lv_sipush (v := 212) hx hb dX12_base_4 (by decide) ?_
  refine lv_sipush (v := 140) hx hb dX12_base_7 (by decide) ?_
  refine lv_iload_n hx hb dX12_base_10 rfl (hl.at 3 rfl) ?_
  refine lv_imul hx hb dX12_base_11 ?_
  refine lv_iadd hx hb dX12_base_12 ?_
  refine hw_istore (lv' := [(4, .int ((212 : Int32) + ((140 : Int32) * l1))), (3, .int (0 : Int32)), (2, .int (0 : Int32)), (0, hw_vr b (some x0)), (1, .int l1)]) hx hb dX12_base_13 hl (by decide) (by decide) rfl (fun ls hl => ?_)
  exact w12_base_b15 C0 hw_fu hm hR hS (hl.sub [3, 4, 2, 1, 0] rfl)
set_option maxRecDepth 100000 in
theorem c12_base (l : Launch) (D : hw_D) (b : Nat) {x0 : Nat} {l1 : Int32} {σ : hw_S} {r : Int32} {τ : hw_S} (hm : m12_base x0 l1 σ = some (r, τ)) : Met l yX12_base (Cond.code yX12_base cX12_base 9 (some .int) :: wsL_law) rm12_base (hw_P1 D b σ [hw_vr b (some x0), .int l1]) (hw_QI D b τ r) 0 0 (fun q => b ≤ q) := by
  refine hw_start1 (by decide +kernel) (by exact Nat.le_of_ble_eq_true rfl) ?_
  intro p e s m below meth c ls C0 hR hS hl
  have hl : lv_has ls 9 [(0, hw_vr b (some x0)), (1, .int l1)] := by exact hl
  exact w12_base_s hm C0 hR hS ⟨hl, (List.forall_mem_cons.mpr ⟨(fun h => by rw [show (hw_vr b (some x0) : Value).category = 1 from (hw_vr_cat _ _)] at h; cases h), (List.forall_mem_cons.mpr ⟨(fun h => absurd (show (1 : Nat) = 2 from h) (by decide)), (fun _ h => absurd h List.not_mem_nil)⟩)⟩)⟩

abbrev rm12_baseOf : Room := { frames := 1, cells := 0, slots := 0, locals := 28 }
def m12_baseOf (x0 : Nat) (l1 : Int32) (l2 : Int32) (l3 : Int32) (l4 : Int32) (l5 : Int32) (σ : hw_S) : Option (Int32 × hw_S) :=
  (hw_gP (hw_q 12) 9 (some x0) σ).bind fun v1 =>
  (hw_sI v1 (0 : Int32) l3 σ).bind fun σ6 =>
  (hw_gP (hw_q 12) 9 (some x0) σ6).bind fun v8 =>
  (hw_sI v8 (1 : Int32) l4 σ6).bind fun σ14 =>
  (hw_gP (hw_q 12) 9 (some x0) σ14).bind fun v16 =>
  (hw_sI v16 (2 : Int32) l5 σ14).bind fun σ22 =>
  (hw_gP (hw_q 12) 9 (some x0) σ22).bind fun v24 =>
  (hw_gP (hw_q 12) 1 (some x0) σ22).bind fun v29 =>
  (hw_aI 0 v29 ((130 : Int32) + l2) σ22).bind fun v37 =>
  (hw_sI v24 (3 : Int32) v37 σ22).bind fun σ38 =>
  (hw_gP (hw_q 12) 9 (some x0) σ38).bind fun v40 =>
  (hw_gP (hw_q 12) 1 (some x0) σ38).bind fun v45 =>
  (hw_aI 0 v45 ((135 : Int32) + l2) σ38).bind fun v53 =>
  (hw_sI v40 (4 : Int32) v53 σ38).bind fun σ54 =>
  (hw_rv (hw_q 12) (some x0) σ54).bind fun a57 =>
  hw_b2 (m12_base x0 l1 σ54) fun v57 σ57 =>
  some (v57, σ57)
set_option maxRecDepth 100000 in
theorem w12_baseOf_s {p : Program} {l : Launch} {e : Env} {s : State} {m : MethodId} {args : Array Value} {below : List Frame} {meth : Method} {c : Code} {D : hw_D} {b : Nat} {x0 : Nat} {l1 : Int32} {l2 : Int32} {l3 : Int32} {l4 : Int32} {l5 : Int32} {σ : hw_S} {r : Int32} {τ : hw_S} {H : Heap} {locs : List Loc} (hm : m12_baseOf x0 l1 l2 l3 l4 l5 σ = some (r, τ)) (C0 : hw_C p s m args meth c D yX12_baseOf cX12_baseOf 6 (some .int)) (hR : hw_R D b σ H) (hS : va_S (fun q => b ≤ q) s.heap H locs) {ls : Array Slot} (hl : hw_L ls 6 255 [(0, hw_vr b (some x0)), (1, .int l1), (2, .int l2), (3, .int l3), (4, .int l4), (5, .int l5)]) : W p l e rm12_baseOf s m args below meth c H locs 0 0 (MQ below (hw_QI D b τ r) args s 0 0 (fun q => b ≤ q)) (F0 m 0 ls []) := by
  obtain ⟨hx, hb, hml, hr, hown, hts, hlk, hE, hnm⟩ := id C0
  have hown : s.vm.findClass RX12 = some m.cls := hown
  have hK := hE.1
  unfold m12_baseOf at hm
  refine hw_aload_n hx hb dX12_baseOf_0 rfl (hl.at 0 rfl) ?_
  obtain ⟨v1, e1, hm⟩ := hw_bs hm
  refine hw_getP hx hb hw_cf12 hts hown hK hR e1 (by decide) rfl (hts _ hw_m78) (fun _ h9 => h9) dX12_baseOf_1 ?_
  refine lv_iconst (v := 0) hx hb dX12_baseOf_4 (by decide) ?_
  refine lv_iload_n hx hb dX12_baseOf_5 rfl (hl.at 3 rfl) ?_
  obtain ⟨σ6, e6, hm⟩ := hw_bs hm
  refine hw_iast hx hb hK hR hS e6 dX12_baseOf_6 (fun _ _ hR hS => ?_)
  refine hw_aload_n hx hb dX12_baseOf_7 rfl (hl.at 0 rfl) ?_
  obtain ⟨v8, e8, hm⟩ := hw_bs hm
  refine hw_getP hx hb hw_cf12 hts hown hK hR e8 (by decide) rfl (hts _ hw_m78) (fun _ h9 => h9) dX12_baseOf_8 ?_
  refine lv_iconst (v := 1) hx hb dX12_baseOf_11 (by decide) ?_
  refine lv_iload hx hb dX12_baseOf_12 (hl.at 4 rfl) ?_
  obtain ⟨σ14, e14, hm⟩ := hw_bs hm
  refine hw_iast hx hb hK hR hS e14 dX12_baseOf_14 (fun _ _ hR hS => ?_)
  refine hw_aload_n hx hb dX12_baseOf_15 rfl (hl.at 0 rfl) ?_
  obtain ⟨v16, e16, hm⟩ := hw_bs hm
  refine hw_getP hx hb hw_cf12 hts hown hK hR e16 (by decide) rfl (hts _ hw_m78) (fun _ h9 => h9) dX12_baseOf_16 ?_
  refine lv_iconst (v := 2) hx hb dX12_baseOf_19 (by decide) ?_
  refine lv_iload hx hb dX12_baseOf_20 (hl.at 5 rfl) ?_
  obtain ⟨σ22, e22, hm⟩ := hw_bs hm
  refine hw_iast hx hb hK hR hS e22 dX12_baseOf_22 (fun _ _ hR hS => ?_)
  refine hw_aload_n hx hb dX12_baseOf_23 rfl (hl.at 0 rfl) ?_
  obtain ⟨v24, e24, hm⟩ := hw_bs hm
  refine hw_getP hx hb hw_cf12 hts hown hK hR e24 (by decide) rfl (hts _ hw_m78) (fun _ h9 => h9) dX12_baseOf_24 ?_
  refine lv_iconst (v := 3) hx hb dX12_baseOf_27 (by decide) ?_
  refine hw_aload_n hx hb dX12_baseOf_28 rfl (hl.at 0 rfl) ?_
  obtain ⟨v29, e29, hm⟩ := hw_bs hm
  refine hw_getP hx hb hw_cf12 hts hown hK hR e29 (by decide) rfl (hts _ hw_m76) (fun _ h9 => h9) dX12_baseOf_29 ?_
  refine lv_sipush (v := 130) hx hb dX12_baseOf_32 (by decide) ?_
  refine lv_iload_n hx hb dX12_baseOf_35 rfl (hl.at 2 rfl) ?_
  refine lv_iadd hx hb dX12_baseOf_36 ?_
  obtain ⟨v37, e37, hm⟩ := hw_bs hm
  refine hw_iald hx hb hK hR e37 dX12_baseOf_37 ?_
  obtain ⟨σ38, e38, hm⟩ := hw_bs hm
  refine hw_iast hx hb hK hR hS e38 dX12_baseOf_38 (fun _ _ hR hS => ?_)
  refine hw_aload_n hx hb dX12_baseOf_39 rfl (hl.at 0 rfl) ?_
  obtain ⟨v40, e40, hm⟩ := hw_bs hm
  refine hw_getP hx hb hw_cf12 hts hown hK hR e40 (by decide) rfl (hts _ hw_m78) (fun _ h9 => h9) dX12_baseOf_40 ?_
  refine lv_iconst (v := 4) hx hb dX12_baseOf_43 (by decide) ?_
  refine hw_aload_n hx hb dX12_baseOf_44 rfl (hl.at 0 rfl) ?_
  obtain ⟨v45, e45, hm⟩ := hw_bs hm
  refine hw_getP hx hb hw_cf12 hts hown hK hR e45 (by decide) rfl (hts _ hw_m76) (fun _ h9 => h9) dX12_baseOf_45 ?_
  refine lv_sipush (v := 135) hx hb dX12_baseOf_48 (by decide) ?_
  refine lv_iload_n hx hb dX12_baseOf_51 rfl (hl.at 2 rfl) ?_
  refine lv_iadd hx hb dX12_baseOf_52 ?_
  obtain ⟨v53, e53, hm⟩ := hw_bs hm
  refine hw_iald hx hb hK hR e53 dX12_baseOf_53 ?_
  obtain ⟨σ54, e54, hm⟩ := hw_bs hm
  refine hw_iast hx hb hK hR hS e54 dX12_baseOf_54 (fun _ _ hR hS => ?_)
  refine hw_aload_n hx hb dX12_baseOf_55 rfl (hl.at 0 rfl) ?_
  refine lv_iload_n hx hb dX12_baseOf_56 rfl (hl.at 1 rfl) ?_
  obtain ⟨a57, g57, hm⟩ := hw_bs hm
  obtain ⟨rfl, ht57⟩ := hw_rv_th g57
  obtain ⟨v57, σ57, e57, hm⟩ := hw_bs2 hm
  refine hw_cWI (va_runV (As := [.int l1]) (rest := []) ⟨hx, hb, hml, hown, hts⟩ (c12_base l D b e57) (cwV 1 hts (hw_gV hw_m580 hw_m581 hw_m582 hw_m5 hw_m583) rfl rfl rfl (by decide +kernel) ⟨(Nat.le_of_ble_eq_true rfl), (Nat.le_of_ble_eq_true rfl)⟩) (hw_preV (ci := 12) hE hR rfl (by decide) (hw_q_of ht57)) rfl rfl hl.sz rfl (lv_room (Nat.le_of_ble_eq_true rfl)) dX12_baseOf_57 ⟨(Nat.le_of_ble_eq_true rfl), (Nat.le_of_ble_eq_true rfl)⟩) hS (fun _ _ hR hS => ?_)
  exact hw_rWI hx hb hr hlk hR hS hm dX12_baseOf_60
set_option maxRecDepth 100000 in
theorem c12_baseOf (l : Launch) (D : hw_D) (b : Nat) {x0 : Nat} {l1 : Int32} {l2 : Int32} {l3 : Int32} {l4 : Int32} {l5 : Int32} {σ : hw_S} {r : Int32} {τ : hw_S} (hm : m12_baseOf x0 l1 l2 l3 l4 l5 σ = some (r, τ)) : Met l yX12_baseOf (Cond.code yX12_baseOf cX12_baseOf 6 (some .int) :: wsL_law) rm12_baseOf (hw_P1 D b σ [hw_vr b (some x0), .int l1, .int l2, .int l3, .int l4, .int l5]) (hw_QI D b τ r) 0 0 (fun q => b ≤ q) := by
  refine hw_start1 (by decide +kernel) (by exact Nat.le_of_ble_eq_true rfl) ?_
  intro p e s m below meth c ls C0 hR hS hl
  have hl : lv_has ls 6 [(0, hw_vr b (some x0)), (1, .int l1), (2, .int l2), (3, .int l3), (4, .int l4), (5, .int l5)] := by exact hl
  exact w12_baseOf_s hm C0 hR hS ⟨hl, (List.forall_mem_cons.mpr ⟨(fun h => by rw [show (hw_vr b (some x0) : Value).category = 1 from (hw_vr_cat _ _)] at h; cases h), (List.forall_mem_cons.mpr ⟨(fun h => absurd (show (1 : Nat) = 2 from h) (by decide)), (List.forall_mem_cons.mpr ⟨(fun h => absurd (show (1 : Nat) = 2 from h) (by decide)), (List.forall_mem_cons.mpr ⟨(fun h => absurd (show (1 : Nat) = 2 from h) (by decide)), (List.forall_mem_cons.mpr ⟨(fun h => absurd (show (1 : Nat) = 2 from h) (by decide)), (List.forall_mem_cons.mpr ⟨(fun h => absurd (show (1 : Nat) = 2 from h) (by decide)), (fun _ h => absurd h List.not_mem_nil)⟩)⟩)⟩)⟩)⟩)⟩)⟩
