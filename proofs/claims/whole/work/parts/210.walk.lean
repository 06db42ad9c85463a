abbrev rm11_as : Room := { frames := 2, cells := 0, slots := 0, locals := 43 }
def m11_as_b20 (x0 : Nat) (σ : hw_S) : Option Int32 :=
  some ((-1) : Int32)
set_option maxRecDepth 100000 in
theorem w11_as_b20 {p : Program} {l : Launch} {e : Env} {s : State} {m : MethodId} {args : Array Value} {below : List Frame} {meth : Method} {c : Code} {D : hw_D} {b : Nat} {r : Int32} (C0 : hw_C p s m args meth c D yX11_as cX11_as 4 (some .int)) {x0 : Nat} {σ : hw_S} (hm : m11_as_b20 x0 σ = some r) (hR : hw_R D b σ s.heap) {ls : Array Slot} (hl : hw_L ls 4 255 [(0, hw_vr b (some x0))]) : W p l e rm11_as s m args below meth c s.heap [] 0 0 (MQ below (hw_RI r) args s 0 0 hw_nof) (F0 m 20 ls []) := by
  obtain ⟨hx, hb, hml, hr, hown, hts, hlk, hE, hnm⟩ := id C0
  have hown : s.vm.findClass RX11 = some m.cls := hown
  have hK := hE.1
  unfold m11_as_b20 at hm
  refine lv_iconst (v := (-1)) hx hb dX11_as_20 (by decide) ?_
  exact hw_rRI hx hb hr hlk hm dX11_as_21
def m11_as_b39 (x0 : Nat) (t0 : Int32) (σ : hw_S) : Option Int32 :=
  some t0
set_option maxRecDepth 100000 in
theorem w11_as_b39 {p : Program} {l : Launch} {e : Env} {s : State} {m : MethodId} {args : Array Value} {below : List Frame} {meth : Method} {c : Code} {D : hw_D} {b : Nat} {r : Int32} (C0 : hw_C p s m args meth c D yX11_as cX11_as 4 (some .int)) {x0 : Nat} {t0 : Int32} {σ : hw_S} (hm : m11_as_b39 x0 t0 σ = some r) (hR : hw_R D b σ s.heap) {ls : Array Slot} (hl : hw_L ls 4 255 [(0, hw_vr b (some x0))]) : W p l e rm11_as s m args below meth c s.heap [] 0 0 (MQ below (hw_RI r) args s 0 0 hw_nof) (F0 m 39 ls [.int t0]) := by
  obtain ⟨hx, hb, hml, hr, hown, hts, hlk, hE, hnm⟩ := id C0
  have hown : s.vm.findClass RX11 = some m.cls := hown
  have hK := hE.1
  unfold m11_as_b39 at hm
  exact hw_rRI hx hb hr hlk hm dX11_as_39
def m11_as (x0 : Nat) (l1 : Int32) (l2 : Int32) (σ : hw_S) : Option Int32 :=
  (hw_rv (hw_q 11) (some x0) σ).bind fun a2 =>
  (m11_lawAt x0 l1 σ).bind fun v2 =>
  (if v2 = none then
  m11_as_b20 x0 σ
  else
  (m11_isWithin l2 (0 : Int32) (6 : Int32)).bind fun v14 =>
  (if v14 = 0 then
  m11_as_b20 x0 σ
  else
  (m11_isOfKind v2 l2 σ).bind fun v24 =>
  (if v24 = 0 then
  m11_as_b39 x0 ((-6) : Int32) σ
  else
  (hw_gI hw_qL 2 v2 σ).bind fun v31 =>
  m11_as_b39 x0 v31 σ)))
set_option maxRecDepth 100000 in
theorem w11_as_s {p : Program} {l : Launch} {e : Env} {s : State} {m : MethodId} {args : Array Value} {below : List Frame} {meth : Method} {c : Code} {D : hw_D} {b : Nat} {x0 : Nat} {l1 : Int32} {l2 : Int32} {σ : hw_S} {r : Int32} (hm : m11_as x0 l1 l2 σ = some r) (C0 : hw_C p s m args meth c D yX11_as cX11_as 4 (some .int)) (hR : hw_R D b σ s.heap) {ls : Array Slot} (hl : hw_L ls 4 255 [(0, hw_vr b (some x0)), (1, .int l1), (2, .int l2)]) : W p l e rm11_as s m args below meth c s.heap [] 0 0 (MQ below (hw_RI r) args s 0 0 hw_nof) (F0 m 0 ls []) := by
  obtain ⟨hx, hb, hml, hr, hown, hts, hlk, hE, hnm⟩ := id C0
  have hown : s.vm.findClass RX11 = some m.cls := hown
  have hK := hE.1
  unfold m11_as at hm
  refine hw_aload_n hx hb dX11_as_0 rfl (hl.at 0 rfl) ?_
  refine lv_iload_n hx hb dX11_as_1 rfl (hl.at 1 rfl) ?_
  obtain ⟨a2, g2, hm⟩ := hw_bs hm
  obtain ⟨rfl, ht2⟩ := hw_rv_th g2
  obtain ⟨v2, e2, hm⟩ := hw_bs hm
  refine hw_cRP (va_runV (As := [.int l1]) (rest := []) ⟨hx, hb, hml, hown, hts⟩ (c11_lawAt l D b e2) (cwV 1 hts (hw_gV hw_m426 hw_m427 hw_m428 hw_m2 hw_m429) rfl rfl rfl (by decide +kernel) ⟨(Nat.le_of_ble_eq_true rfl), (Nat.le_of_ble_eq_true rfl)⟩) (hw_preV (ci := 11) hE hR rfl (by decide) (hw_q_of ht2)) rfl rfl hl.sz rfl (lv_room (Nat.le_of_ble_eq_true rfl)) dX11_as_2 ⟨(Nat.le_of_ble_eq_true rfl), (Nat.le_of_ble_eq_true rfl)⟩) ?_
  refine hw_asto_n (lv' := [(3, hw_vr b v2), (0, hw_vr b (some x0)), (1, .int l1), (2, .int l2)]) hx hb dX11_as_5 rfl hl (by decide) (by decide) rfl (fun ls hl => ?_)
  refine hw_aload_n hx hb dX11_as_6 rfl (hl.at 0 rfl) ?_
  refine hw_ifnull (tgt := 20) hx hb dX11_as_7 (by decide) (fun c7 => ?_) (fun c7 => ?_)
  · have hm := hw_ip hm c7
    exact w11_as_b20 C0 hm hR (hl.sub [1] rfl)
  · have hm := hw_in hm c7
    refine lv_iload_n hx hb dX11_as_10 rfl (hl.at 3 rfl) ?_
    refine lv_iconst (v := 0) hx hb dX11_as_11 (by decide) ?_
    refine lv_bipush (v := 6) hx hb dX11_as_12 (by decide) ?_
    obtain ⟨v14, e14, hm⟩ := hw_bs hm
    refine hw_cRI (va_runS (As := [.int l2, .int (0 : Int32), .int (6 : Int32)]) (rest := []) ⟨hx, hb, hml, hown, hts⟩ (c11_isWithin l D e14) (cwS 3 hts (hw_gS hw_m99 hw_m100 hw_m2 hw_m101) rfl rfl rfl (by decide +kernel) ⟨(Nat.le_of_ble_eq_true rfl), (Nat.le_of_ble_eq_true rfl)⟩) (hw_pre0 hE) rfl rfl hl.sz rfl (lv_room (Nat.le_of_ble_eq_true rfl)) dX11_as_14 ⟨(Nat.le_of_ble_eq_true rfl), (Nat.le_of_ble_eq_true rfl)⟩) ?_
    refine lv_if_ne (tgt := 22) hx hb dX11_as_17 (by decide) (fun c17 => ?_) (fun c17 => ?_)
    · have hm := hw_in hm c17
      refine hw_aload_n hx hb dX11_as_22 rfl (hl.at 0 rfl) ?_
      refine lv_iload_n hx hb dX11_as_23 rfl (hl.at 3 rfl) ?_
      obtain ⟨v24, e24, hm⟩ := hw_bs hm
      refine hw_cRI (va_runS (As := [hw_vr b v2, .int l2]) (rest := []) ⟨hx, hb, hml, hown, hts⟩ (c11_isOfKind l D b e24) (cwS 2 hts (hw_gS hw_m1026 hw_m1027 hw_m2 hw_m1028) rfl rfl rfl (by decide +kernel) ⟨(Nat.le_of_ble_eq_true rfl), (Nat.le_of_ble_eq_true rfl)⟩) (hw_pre1 hE hR) rfl rfl hl.sz rfl (lv_room (Nat.le_of_ble_eq_true rfl)) dX11_as_24 ⟨(Nat.le_of_ble_eq_true rfl), (Nat.le_of_ble_eq_true rfl)⟩) ?_
      refine lv_if_eq (tgt := 37) hx hb dX11_as_27 (by decide) (fun c27 => ?_) (fun c27 => ?_)
      · have hm := hw_ip hm c27
        refine lv_bipush (v := (-6)) hx hb dX11_as_37 (by decide) ?_
        exact w11_as_b39 C0 hm hR (hl.sub [1] rfl)
      · have hm := hw_in hm c27
        refine hw_aload_n hx hb dX11_as_30 rfl (hl.at 0 rfl) ?_
        obtain ⟨v31, e31, hm⟩ := hw_bs hm
        refine hw_getI hx hb hw_cfL hts hown hK hR e31 (by decide) rfl (hts _ hw_m423) (fun _ h9 => h9) dX11_as_31 ?_
        refine lv_goto (tgt := 39) hx hb dX11_as_34 (by decide) ?_
        exact w11_as_b39 C0 hm hR (hl.sub [1] rfl)
    · have hm := hw_ip hm c17
      exact w11_as_b20 C0 hm hR (hl.sub [1] rfl)
set_option maxRecDepth 100000 in
theorem c11_as (l : Launch) (D : hw_D) (b : Nat) {x0 : Nat} {l1 : Int32} {l2 : Int32} {σ : hw_S} {r : Int32} (hm : m11_as x0 l1 l2 σ = some r) : Met l yX11_as (Cond.code yX11_as cX11_as 4 (some .int) :: wsL_law) rm11_as (hw_P1 D b σ [hw_vr b (some x0), .int l1, .int l2]) (hw_RI r) 0 0 hw_nof := by
  refine hw_start1 (by decide +kernel) (by exact Nat.le_of_ble_eq_true rfl) ?_
  intro p e s m below meth c ls C0 hR hS hl
  have hl : lv_has ls 4 [(0, hw_vr b (some x0)), (1, .int l1), (2, .int l2)] := by exact hl
  exact w11_as_s hm C0 hR ⟨hl, (List.forall_mem_cons.mpr ⟨(fun h => by rw [show (hw_vr b (some x0) : Value).category = 1 from (hw_vr_cat _ _)] at h; cases h), (List.forall_mem_cons.mpr ⟨(fun h => absurd (show (1 : Nat) = 2 from h) (by decide)), (List.forall_mem_cons.mpr ⟨(fun h => absurd (show (1 : Nat) = 2 from h) (by decide)), (fun _ h => absurd h List.not_mem_nil)⟩)⟩)⟩)⟩

abbrev rm12_as : Room := { frames := 2, cells := 0, slots := 0, locals := 43 }
def m12_as_b18 (x0 : Nat) (σ : hw_S) : Option Int32 :=
  some ((-1) : Int32)
set_option maxRecDepth 100000 in
theorem w12_as_b18 {p : Program} {l : Launch} {e : Env} {s : State} {m : MethodId} {args : Array Value} {below : List Frame} {meth : Method} {c : Code} {D : hw_D} {b : Nat} {r : Int32} (C0 : hw_C p s m args meth c D yX12_as cX12_as 3 (some .int)) {x0 : Nat} {σ : hw_S} (hm : m12_as_b18 x0 σ = some r) (hR : hw_R D b σ s.heap) {ls : Array Slot} (hl : hw_L ls 3 255 [(0, hw_vr b (some x0))]) : W p l e rm12_as s m args below meth c s.heap [] 0 0 (MQ below (hw_RI r) args s 0 0 hw_nof) (F0 m 18 ls []) := by
  obtain ⟨hx, hb, hml, hr, hown, hts, hlk, hE, hnm⟩ := id C0
  have hown : s.vm.findClass RX12 = some m.cls := hown
  have hK := hE.1
  unfold m12_as_b18 at hm
  refine lv_iconst (v := (-1)) hx hb dX12_as_18 (by decide) ?_
  exact hw_rRI hx hb hr hlk hm dX12_as_19
def m12_as_b52 (x0 : Nat) (t0 : Int32) (σ : hw_S) : Option Int32 :=
  some t0
set_option maxRecDepth 100000 in
theorem w12_as_b52 {p : Program} {l : Launch} {e : Env} {s : State} {m : MethodId} {args : Array Value} {below : List Frame} {meth : Method} {c : Code} {D : hw_D} {b : Nat} {r : Int32} (C0 : hw_C p s m args meth c D yX12_as cX12_as 3 (some .int)) {x0 : Nat} {t0 : Int32} {σ : hw_S} (hm : m12_as_b52 x0 t0 σ = some r) (hR : hw_R D b σ s.heap) {ls : Array Slot} (hl : hw_L ls 3 255 [(0, hw_vr b (some x0))]) : W p l e rm12_as s m args below meth c s.heap [] 0 0 (MQ below (hw_RI r) args s 0 0 hw_nof) (F0 m 52 ls [.int t0]) := by
  obtain ⟨hx, hb, hml, hr, hown, hts, hlk, hE, hnm⟩ := id C0
  have hown : s.vm.findClass RX12 = some m.cls := hown
  have hK := hE.1
  unfold m12_as_b52 at hm
  exact hw_rRI hx hb hr hlk hm dX12_as_52
def m12_as (x0 : Nat) (l1 : Int32) (l2 : Int32) (σ : hw_S) : Option Int32 :=
  (hw_rv (hw_q 12) (some x0) σ).bind fun a2 =>
  (m12_isLaw x0 l1 σ).bind fun v2 =>
  (if v2 = 0 then
  m12_as_b18 x0 σ
  else
  (m12_in l2 (0 : Int32) (6 : Int32)).bind fun v12 =>
  (if v12 = 0 then
  m12_as_b18 x0 σ
  else
  (hw_gP (hw_q 12) 1 (some x0) σ).bind fun v21 =>
  (hw_aI 0 v21 ((140 : Int32) + l1) σ).bind fun v29 =>
  (m12_isUnder v29 l2).bind fun v31 =>
  (if v31 = 0 then
  m12_as_b52 x0 ((-6) : Int32) σ
  else
  (hw_gP (hw_q 12) 1 (some x0) σ).bind fun v38 =>
  (hw_aI 0 v38 ((148 : Int32) + l1) σ).bind fun v46 =>
  m12_as_b52 x0 v46 σ)))
set_option maxRecDepth 100000 in
theorem w12_as_s {p : Program} {l : Launch} {e : Env} {s : State} {m : MethodId} {args : Array Value} {below : List Frame} {meth : Method} {c : Code} {D : hw_D} {b : Nat} {x0 : Nat} {l1 : Int32} {l2 : Int32} {σ : hw_S} {r : Int32} (hm : m12_as x0 l1 l2 σ = some r) (C0 : hw_C p s m args meth c D yX12_as cX12_as 3 (some .int)) (hR : hw_R D b σ s.heap) {ls : Array Slot} (hl : hw_L ls 3 255 [(0, hw_vr b (some x0)), (1, .int l1), (2, .int l2)]) : W p l e rm12_as s m args below meth c s.heap [] 0 0 (MQ below (hw_RI r) args s 0 0 hw_nof) (F0 m 0 ls []) := by
  obtain ⟨hx, hb, hml, hr, hown, hts, hlk, hE, hnm⟩ := id C0
  have hown : s.vm.findClass RX12 = some m.cls := hown
  have hK := hE.1
  unfold m12_as at hm
  refine hw_aload_n hx hb dX12_as_0 rfl (hl.at 0 rfl) ?_
  refine lv_iload_n hx hb dX12_as_1 rfl (hl.at 1 rfl) ?_
  obtain ⟨a2, g2, hm⟩ := hw_bs hm
  obtain ⟨rfl, ht2⟩ := hw_rv_th g2
  obtain ⟨v2, e2, hm⟩ := hw_bs hm
  refine hw_cRI (va_runV (As := [.int l1]) (rest := []) ⟨hx, hb, hml, hown, hts⟩ (c12_isLaw l D b e2) (cwV 1 hts (hw_gV hw_m434 hw_m435 hw_m436 hw_m5 hw_m437) rfl rfl rfl (by decide +kernel) ⟨(Nat.le_of_ble_eq_true rfl), (Nat.le_of_ble_eq_true rfl)⟩) (hw_preV (ci := 12) hE hR rfl (by decide) (hw_q_of ht2)) rfl rfl hl.sz rfl (lv_room (Nat.le_of_ble_eq_true rfl)) dX12_as_2 ⟨(Nat.le_of_ble_eq_true rfl), (Nat.le_of_ble_eq_true rfl)⟩) ?_
  refine lv_if_eq (tgt := 18) hx hb dX12_as_5 (by decide) (fun c5 => ?_) (fun c5 => ?_)
  · have hm := hw_ip hm c5
    exact w12_as_b18 C0 hm hR (hl.sub [0] rfl)
  · have hm := hw_in hm c5
    refine lv_iload_n hx hb dX12_as_8 rfl (hl.at 2 rfl) ?_
    refine lv_iconst (v := 0) hx hb dX12_as_9 (by decide) ?_
    refine lv_bipush (v := 6) hx hb dX12_as_10 (by decide) ?_
    obtain ⟨v12, e12, hm⟩ := hw_bs hm
    refine hw_cRI (va_runS (As := [.int l2, .int (0 : Int32), .int (6 : Int32)]) (rest := []) ⟨hx, hb, hml, hown, hts⟩ (c12_in l D e12) (cwS 3 hts (hw_gS hw_m112 hw_m113 hw_m5 hw_m114) rfl rfl rfl (by decide +kernel) ⟨(Nat.le_of_ble_eq_true rfl), (Nat.le_of_ble_eq_true rfl)⟩) (hw_pre0 hE) rfl rfl hl.sz rfl (lv_room (Nat.le_of_ble_eq_true rfl)) dX12_as_12 ⟨(Nat.le_of_ble_eq_true rfl), (Nat.le_of_ble_eq_true rfl)⟩) ?_
    refine lv_if_ne (tgt := 20) hx hb dX12_as_15 (by decide) (fun c15 => ?_) (fun c15 => ?_)
    · have hm := hw_in hm c15
      refine hw_aload_n hx hb dX12_as_20 rfl (hl.at 0 rfl) ?_
      obtain ⟨v21, e21, hm⟩ := hw_bs hm
      refine hw_getP hx hb hw_cf12 hts hown hK hR e21 (by decide) rfl (hts _ hw_m76) (fun _ h9 => h9) dX12_as_21 ?_
      refine lv_sipush (v := 140) hx hb dX12_as_24 (by decide) ?_
      refine lv_iload_n hx hb dX12_as_27 rfl (hl.at 1 rfl) ?_
      refine lv_iadd hx hb dX12_as_28 ?_
      obtain ⟨v29, e29, hm⟩ := hw_bs hm
      refine hw_iald hx hb hK hR e29 dX12_as_29 ?_
      refine lv_iload_n hx hb dX12_as_30 rfl (hl.at 2 rfl) ?_
      obtain ⟨v31, e31, hm⟩ := hw_bs hm
      refine hw_cRI (va_runS (As := [.int v29, .int l2]) (rest := []) ⟨hx, hb, hml, hown, hts⟩ (c12_isUnder l D e31) (cwS 2 hts (hw_gS hw_m994 hw_m995 hw_m5 hw_m996) rfl rfl rfl (by decide +kernel) ⟨(Nat.le_of_ble_eq_true rfl), (Nat.le_of_ble_eq_true rfl)⟩) (hw_pre0 hE) rfl rfl hl.sz rfl (lv_room (Nat.le_of_ble_eq_true rfl)) dX12_as_31 ⟨(Nat.le_of_ble_eq_true rfl), (Nat.le_of_ble_eq_true rfl)⟩) ?_
      refine lv_if_eq (tgt := 50) hx hb dX12_as_34 (by decide) (fun c34 => ?_) (fun c34 => ?_)
      · have hm := hw_ip hm c34
        refine lv_bipush (v := (-6)) hx hb dX12_as_50 (by decide) ?_
        exact w12_as_b52 C0 hm hR (hl.sub [0] rfl)
      · have hm := hw_in hm c34
        refine hw_aload_n hx hb dX12_as_37 rfl (hl.at 0 rfl) ?_
        obtain ⟨v38, e38, hm⟩ := hw_bs hm
        refine hw_getP hx hb hw_cf12 hts hown hK hR e38 (by decide) rfl (hts _ hw_m76) (fun _ h9 => h9) dX12_as_38 ?_
        refine lv_sipush (v := 148) hx hb dX12_as_41 (by decide) ?_
        refine lv_iload_n hx hb dX12_as_44 rfl (hl.at 1 rfl) ?_
        refine lv_iadd hx hb dX12_as_45 ?_
        obtain ⟨v46, e46, hm⟩ := hw_bs hm
        refine hw_iald hx hb hK hR e46 dX12_as_46 ?_
        refine lv_goto (tgt := 52) hx hb dX12_as_47 (by decide) ?_
        exact w12_as_b52 C0 hm hR (hl.sub [0] rfl)
    · have hm := hw_ip hm c15
      exact w12_as_b18 C0 hm hR (hl.sub [0] rfl)
set_option maxRecDepth 100000 in
theorem c12_as (l : Launch) (D : hw_D) (b : Nat) {x0 : Nat} {l1 : Int32} {l2 : Int32} {σ : hw_S} {r : Int32} (hm : m12_as x0 l1 l2 σ = some r) : Met l yX12_as (Cond.code yX12_as cX12_as 3 (some .int) :: wsL_law) rm12_as (hw_P1 D b σ [hw_vr b (some x0), .int l1, .int l2]) (hw_RI r) 0 0 hw_nof := by
  refine hw_start1 (by decide +kernel) (by exact Nat.le_of_ble_eq_true rfl) ?_
  intro p e s m below meth c ls C0 hR hS hl
  have hl : lv_has ls 3 [(0, hw_vr b (some x0)), (1, .int l1), (2, .int l2)] := by exact hl
  exact w12_as_s hm C0 hR ⟨hl, (List.forall_mem_cons.mpr ⟨(fun h => by rw [show (hw_vr b (some x0) : Value).category = 1 from (hw_vr_cat _ _)] at h; cases h), (List.forall_mem_cons.mpr ⟨(fun h => absurd (show (1 : Nat) = 2 from h) (by decide)), (List.forall_mem_cons.mpr ⟨(fun h => absurd (show (1 : Nat) = 2 from h) (by decide)), (fun _ h => absurd h List.not_mem_nil)⟩)⟩)⟩)⟩

abbrev rm8_becomeLike : Room := { frames := 1, cells := 0, slots := 0, locals := 40 }
def m8_becomeLike_b27 : Nat → Nat → Option Nat → Int32 → hw_S → Option hw_S
  | 0, _, _, _, _ => none
  | n + 1, x0, l1, l2, σ =>
  (if (8 : Int32) ≤ l2 then
  (hw_gP (hw_q 8) 4 l1 σ).bind fun v52 =>
  (hw_gP (hw_q 8) 4 (some x0) σ).bind fun v57 =>
  (hw_cpI v52 v57 (120 : Int32) σ).bind fun σ63 =>
  (hw_gP (hw_q 8) 6 l1 σ63).bind fun v67 =>
  (hw_gP (hw_q 8) 6 (some x0) σ63).bind fun v72 =>
  (hw_cpI v67 v72 (20 : Int32) σ63).bind fun σ78 =>
  (hw_gP (hw_q 8) 8 l1 σ78).bind fun v82 =>
  (hw_gP (hw_q 8) 8 (some x0) σ78).bind fun v87 =>
  (hw_cpI v82 v87 (8 : Int32) σ78).bind fun σ93 =>
  (hw_gP (hw_q 8) 10 l1 σ93).bind fun v97 =>
  (hw_gP (hw_q 8) 10 (some x0) σ93).bind fun v102 =>
  (hw_cpI v97 v102 (12 : Int32) σ93).bind fun σ108 =>
  (hw_gP (hw_q 8) 11 l1 σ108).bind fun v112 =>
  (hw_gP (hw_q 8) 11 (some x0) σ108).bind fun v117 =>
  (hw_cpI v112 v117 (12 : Int32) σ108).bind fun σ123 =>
  (hw_gP (hw_q 8) 12 l1 σ123).bind fun v127 =>
  (hw_gP (hw_q 8) 12 (some x0) σ123).bind fun v132 =>
  (hw_cpI v127 v132 (12 : Int32) σ123).bind fun σ138 =>
  (hw_gI (hw_q 8) 1 l1 σ138).bind fun v143 =>
  (hw_pI (hw_q 8) 1 (some x0) v143 σ138).bind fun σ146 =>
  (hw_gI (hw_q 8) 3 l1 σ146).bind fun v151 =>
  (hw_pI (hw_q 8) 3 (some x0) v151 σ146).bind fun σ154 =>
  (hw_gI (hw_q 8) 5 l1 σ154).bind fun v159 =>
  (hw_pI (hw_q 8) 5 (some x0) v159 σ154).bind fun σ162 =>
  (hw_gI (hw_q 8) 7 l1 σ162).bind fun v167 =>
  (hw_pI (hw_q 8) 7 (some x0) v167 σ162).bind fun σ170 =>
  (hw_gI (hw_q 8) 9 l1 σ170).bind fun v175 =>
  (hw_pI (hw_q 8) 9 (some x0) v175 σ170).bind fun σ178 =>
  (hw_gI (hw_q 8) 13 l1 σ178).bind fun v183 =>
  (hw_pI (hw_q 8) 13 (some x0) v183 σ178).bind fun σ186 =>
  some σ186
  else
  (hw_gP (hw_q 8) 2 (some x0) σ).bind fun v34 =>
  (hw_gP (hw_q 8) 2 l1 σ).bind fun v39 =>
  (hw_aP 2 v39 l2 σ).bind fun v43 =>
  (hw_sP 2 v34 l2 v43 σ).bind fun σ44 =>
  m8_becomeLike_b27 n x0 l1 (l2 + 1) σ44)
set_option maxRecDepth 100000 in
theorem w8_becomeLike_b27 {p : Program} {l : Launch} {e : Env} {s : State} {m : MethodId} {args : Array Value} {below : List Frame} {meth : Method} {c : Code} {D : hw_D} {b : Nat} {τ : hw_S} (C0 : hw_C p s m args meth c D yX8_becomeLike cX8_becomeLike 3 none) : ∀ (n : Nat) {x0 : Nat} {l1 : Option Nat} {l2 : Int32} {σ : hw_S} {H : Heap} {locs : List Loc} {ls : Array Slot}, m8_becomeLike_b27 n x0 l1 l2 σ = some τ → hw_R D b σ H → va_S (fun q => b ≤ q) s.heap H locs → hw_L ls 3 255 [(0, hw_vr b (some x0)), (1, hw_vr b l1), (2, .int l2)] → W p l e rm8_becomeLike s m args below meth c H locs 0 0 (MQ below (hw_QV D b τ) args s 0 0 (fun q => b ≤ q)) (F0 m 27 ls []) := by
  obtain ⟨hx, hb, hml, hr, hown, hts, hlk, hE, hnm⟩ := id C0
  have hown : s.vm.findClass RX8 = some m.cls := hown
  have hK := hE.1
  intro n
  induction n with
  | zero => intro _ _ _ _ _ _ _ hm; cases hm
  | succ n ih =>
    intro x0 l1 l2 σ H locs ls hm hR hS hl
    rw [m8_becomeLike_b27] at hm
    refine lv_iload_n hx hb dX8_becomeLike_27 rfl (hl.at 2 rfl) ?_
    refine lv_bipush (v := 8) hx hb dX8_becomeLike_28 (by decide) ?_
    refine lv_icmp_ge (tgt := 51) hx hb dX8_becomeLike_30 (by decide) (fun c30 => ?_) (fun c30 => ?_)
    · have hm := hw_ip hm c30
      refine hw_aload_n hx hb dX8_becomeLike_51 rfl (hl.at 1 rfl) ?_
      obtain ⟨v52, e52, hm⟩ := hw_bs hm
      refine hw_getP hx hb hw_cf8 hts hown hK hR e52 (by decide) rfl (hts _ hw_m46) (fun _ h9 => h9) dX8_becomeLike_52 ?_
      refine lv_iconst (v := 0) hx hb dX8_becomeLike_55 (by decide) ?_
      refine hw_aload_n hx hb dX8_becomeLike_56 rfl (hl.at 0 rfl) ?_
      obtain ⟨v57, e57, hm⟩ := hw_bs hm
      refine hw_getP hx hb hw_cf8 hts hown hK hR e57 (by decide) rfl (hts _ hw_m46) (fun _ h9 => h9) dX8_becomeLike_57 ?_
      refine lv_iconst (v := 0) hx hb dX8_becomeLike_60 (by decide) ?_
      refine lv_bipush (v := 120) hx hb dX8_becomeLike_61 (by decide) ?_
      obtain ⟨σ63, e63, hm⟩ := hw_bs hm
      refine hw_copyI hx hb hml hl hown (hts _ hw_m1047) (hts _ hw_m318) (hts _ hw_m319) (hts _ hw_m320) hK hR hS e63 (Nat.le_of_ble_eq_true rfl) ⟨Nat.le_of_ble_eq_true rfl, (Nat.le_of_ble_eq_true rfl)⟩ dX8_becomeLike_63 (fun _ _ hR hS => ?_)
      refine hw_aload_n hx hb dX8_becomeLike_66 rfl (hl.at 1 rfl) ?_
      obtain ⟨v67, e67, hm⟩ := hw_bs hm
      refine hw_getP hx hb hw_cf8 hts hown hK hR e67 (by decide) rfl (hts _ hw_m48) (fun _ h9 => h9) dX8_becomeLike_67 ?_
      refine lv_iconst (v := 0) hx hb dX8_becomeLike_70 (by decide) ?_
      refine hw_aload_n hx hb dX8_becomeLike_71 rfl (hl.at 0 rfl) ?_
      obtain ⟨v72, e72, hm⟩ := hw_bs hm
      refine hw_getP hx hb hw_cf8 hts hown hK hR e72 (by decide) rfl (hts _ hw_m48) (fun _ h9 => h9) dX8_becomeLike_72 ?_
      refine lv_iconst (v := 0) hx hb dX8_becomeLike_75 (by decide) ?_
      refine lv_bipush (v := 20) hx hb dX8_becomeLike_76 (by decide) ?_
      obtain ⟨σ78, e78, hm⟩ := hw_bs hm
      refine hw_copyI hx hb hml hl hown (hts _ hw_m1047) (hts _ hw_m318) (hts _ hw_m319) (hts _ hw_m320) hK hR hS e78 (Nat.le_of_ble_eq_true rfl) ⟨Nat.le_of_ble_eq_true rfl, (Nat.le_of_ble_eq_true rfl)⟩ dX8_becomeLike_78 (fun _ _ hR hS => ?_)
      refine hw_aload_n hx hb dX8_becomeLike_81 rfl (hl.at 1 rfl) ?_
      obtain ⟨v82, e82, hm⟩ := hw_bs hm
      refine hw_getP hx hb hw_cf8 hts hown hK hR e82 (by decide) rfl (hts _ hw_m50) (fun _ h9 => h9) dX8_becomeLike_82 ?_
      refine lv_iconst (v := 0) hx hb dX8_becomeLike_85 (by decide) ?_
      refine hw_aload_n hx hb dX8_becomeLike_86 rfl (hl.at 0 rfl) ?_
      obtain ⟨v87, e87, hm⟩ := hw_bs hm
      refine hw_getP hx hb hw_cf8 hts hown hK hR e87 (by decide) rfl (hts _ hw_m50) (fun _ h9 => h9) dX8_becomeLike_87 ?_
      refine lv_iconst (v := 0) hx hb dX8_becomeLike_90 (by decide) ?_
      refine lv_bipush (v := 8) hx hb dX8_becomeLike_91 (by decide) ?_
      obtain ⟨σ93, e93, hm⟩ := hw_bs hm
      refine hw_copyI hx hb hml hl hown (hts _ hw_m1047) (hts _ hw_m318) (hts _ hw_m319) (hts _ hw_m320) hK hR hS e93 (Nat.le_of_ble_eq_true rfl) ⟨Nat.le_of_ble_eq_true rfl, (Nat.le_of_ble_eq_true rfl)⟩ dX8_becomeLike_93 (fun _ _ hR hS => ?_)
      refine hw_aload_n hx hb dX8_becomeLike_96 rfl (hl.at 1 rfl) ?_
      obtain ⟨v97, e97, hm⟩ := hw_bs hm
      refine hw_getP hx hb hw_cf8 hts hown hK hR e97 (by decide) rfl (hts _ hw_m52) (fun _ h9 => h9) dX8_becomeLike_97 ?_
      refine lv_iconst (v := 0) hx hb dX8_becomeLike_100 (by decide) ?_
      refine hw_aload_n hx hb dX8_becomeLike_101 rfl (hl.at 0 rfl) ?_
      obtain ⟨v102, e102, hm⟩ := hw_bs hm
      refine hw_getP hx hb hw_cf8 hts hown hK hR e102 (by decide) rfl (hts _ hw_m52) (fun _ h9 => h9) dX8_becomeLike_102 ?_
      refine lv_iconst (v := 0) hx hb dX8_becomeLike_105 (by decide) ?_
      refine lv_bipush (v := 12) hx hb dX8_becomeLike_106 (by decide) ?_
      obtain ⟨σ108, e108, hm⟩ := hw_bs hm
      refine hw_copyI hx hb hml hl hown (hts _ hw_m1047) (hts _ hw_m318) (hts _ hw_m319) (hts _ hw_m320) hK hR hS e108 (Nat.le_of_ble_eq_true rfl) ⟨Nat.le_of_ble_eq_true rfl, (Nat.le_of_ble_eq_true rfl)⟩ dX8_becomeLike_108 (fun _ _ hR hS => ?_)
      refine hw_aload_n hx hb dX8_becomeLike_111 rfl (hl.at 1 rfl) ?_
      obtain ⟨v112, e112, hm⟩ := hw_bs hm
      refine hw_getP hx hb hw_cf8 hts hown hK hR e112 (by decide) rfl (hts _ hw_m53) (fun _ h9 => h9) dX8_becomeLike_112 ?_
      refine lv_iconst (v := 0) hx hb dX8_becomeLike_115 (by decide) ?_
      refine hw_aload_n hx hb dX8_becomeLike_116 rfl (hl.at 0 rfl) ?_
      obtain ⟨v117, e117, hm⟩ := hw_bs hm
      refine hw_getP hx hb hw_cf8 hts hown hK hR e117 (by decide) rfl (hts _ hw_m53) (fun _ h9 => h9) dX8_becomeLike_117 ?_
      refine lv_iconst (v := 0) hx hb dX8_becomeLike_120 (by decide) ?_
      refine lv_bipush (v := 12) hx hb dX8_becomeLike_121 (by decide) ?_
      obtain ⟨σ123, e123, hm⟩ := hw_bs hm
      refine hw_copyI hx hb hml hl hown (hts _ hw_m1047) (hts _ hw_m318) (hts _ hw_m319) (hts _ hw_m320) hK hR hS e123 (Nat.le_of_ble_eq_true rfl) ⟨Nat.le_of_ble_eq_true rfl, (Nat.le_of_ble_eq_true rfl)⟩ dX8_becomeLike_123 (fun _ _ hR hS => ?_)
      refine hw_aload_n hx hb dX8_becomeLike_126 rfl (hl.at 1 rfl) ?_
      obtain ⟨v127, e127, hm⟩ := hw_bs hm
      refine hw_getP hx hb hw_cf8 hts hown hK hR e127 (by decide) rfl (hts _ hw_m54) (fun _ h9 => h9) dX8_becomeLike_127 ?_
      refine lv_iconst (v := 0) hx hb dX8_becomeLike_130 (by decide) ?_
      refine hw_aload_n hx hb dX8_becomeLike_131 rfl (hl.at 0 rfl) ?_
      obtain ⟨v132, e132, hm⟩ := hw_bs hm
      refine hw_getP hx hb hw_cf8 hts hown hK hR e132 (by decide) rfl (hts _ hw_m54) (fun _ h9 => h9) dX8_becomeLike_132 ?_
      refine lv_iconst (v := 0) hx hb dX8_becomeLike_135 (by decide) ?_
      refine lv_bipush (v := 12) hx hb dX8_becomeLike_136 (by decide) ?_
      obtain ⟨σ138, e138, hm⟩ := hw_bs hm
      refine hw_copyI hx hb hml hl hown (hts _ hw_m1047) (hts _ hw_m318) (hts _ hw_m319) (hts _ hw_m320) hK hR hS e138 (Nat.le_of_ble_eq_true rfl) ⟨Nat.le_of_ble_eq_true rfl, (Nat.le_of_ble_eq_true rfl)⟩ dX8_becomeLike_138 (fun _ _ hR hS => ?_)
      refine hw_aload_n hx hb dX8_becomeLike_141 rfl (hl.at 0 rfl) ?_
      refine hw_aload_n hx hb dX8_becomeLike_142 rfl (hl.at 1 rfl) ?_
      obtain ⟨v143, e143, hm⟩ := hw_bs hm
      refine hw_getI hx hb hw_cf8 hts hown hK hR e143 (by decide) rfl (hts _ hw_m42) (fun _ h9 => h9) dX8_becomeLike_143 ?_
      obtain ⟨σ146, e146, hm⟩ := hw_bs hm
      refine hw_putI hx hb hw_cf8 hts hown hK hR hS e146 (by decide) rfl rfl (hts _ hw_m42) (fun _ h9 => h9) (Or.inl rfl) dX8_becomeLike_146 (fun _ _ hR hS => ?_)
      refine hw_aload_n hx hb dX8_becomeLike_149 rfl (hl.at 0 rfl) ?_
      refine hw_aload_n hx hb dX8_becomeLike_150 rfl (hl.at 1 rfl) ?_
      obtain ⟨v151, e151, hm⟩ := hw_bs hm
      refine hw_getI hx hb hw_cf8 hts hown hK hR e151 (by decide) rfl (hts _ hw_m45) (fun _ h9 => h9) dX8_becomeLike_151 ?_
      obtain ⟨σ154, e154, hm⟩ := hw_bs hm
      refine hw_putI hx hb hw_cf8 hts hown hK hR hS e154 (by decide) rfl rfl (hts _ hw_m45) (fun _ h9 => h9) (Or.inl rfl) dX8_becomeLike_154 (fun _ _ hR hS => ?_)
      refine hw_aload_n hx hb dX8_becomeLike_157 rfl (hl.at 0 rfl) ?_
      refine hw_aload_n hx hb dX8_becomeLike_158 rfl (hl.at 1 rfl) ?_
      obtain ⟨v159, e159, hm⟩ := hw_bs hm
      refine hw_getI hx hb hw_cf8 hts hown hK hR e159 (by decide) rfl (hts _ hw_m47) (fun _ h9 => h9) dX8_becomeLike_159 ?_
      obtain ⟨σ162, e162, hm⟩ := hw_bs hm
      refine hw_putI hx hb hw_cf8 hts hown hK hR hS e162 (by decide) rfl rfl (hts _ hw_m47) (fun _ h9 => h9) (Or.inl rfl) dX8_becomeLike_162 (fun _ _ hR hS => ?_)
      refine hw_aload_n hx hb dX8_becomeLike_165 rfl (hl.at 0 rfl) ?_
      refine hw_aload_n hx hb dX8_becomeLike_166 rfl (hl.at 1 rfl) ?_
      obtain ⟨v167, e167, hm⟩ := hw_bs hm
      refine hw_getI hx hb hw_cf8 hts hown hK hR e167 (by decide) rfl (hts _ hw_m49) (fun _ h9 => h9) dX8_becomeLike_167 ?_
      obtain ⟨σ170, e170, hm⟩ := hw_bs hm
      refine hw_putI hx hb hw_cf8 hts hown hK hR hS e170 (by decide) rfl rfl (hts _ hw_m49) (fun _ h9 => h9) (Or.inl rfl) dX8_becomeLike_170 (fun _ _ hR hS => ?_)
      refine hw_aload_n hx hb dX8_becomeLike_173 rfl (hl.at 0 rfl) ?_
      refine hw_aload_n hx hb dX8_becomeLike_174 rfl (hl.at 1 rfl) ?_
      obtain ⟨v175, e175, hm⟩ := hw_bs hm
      refine hw_getI hx hb hw_cf8 hts hown hK hR e175 (by decide) rfl (hts _ hw_m51) (fun _ h9 => h9) dX8_becomeLike_175 ?_
      obtain ⟨σ178, e178, hm⟩ := hw_bs hm
      refine hw_putI hx hb hw_cf8 hts hown hK hR hS e178 (by decide) rfl rfl (hts _ hw_m51) (fun _ h9 => h9) (Or.inl rfl) dX8_becomeLike_178 (fun _ _ hR hS => ?_)
      refine hw_aload_n hx hb dX8_becomeLike_181 rfl (hl.at 0 rfl) ?_
      refine hw_aload_n hx hb dX8_becomeLike_182 rfl (hl.at 1 rfl) ?_
      obtain ⟨v183, e183, hm⟩ := hw_bs hm
      refine hw_getI hx hb hw_cf8 hts hown hK hR e183 (by decide) rfl (hts _ hw_m55) (fun _ h9 => h9) dX8_becomeLike_183 ?_
      obtain ⟨σ186, e186, hm⟩ := hw_bs hm
      refine hw_putI hx hb hw_cf8 hts hown hK hR hS e186 (by decide) rfl rfl (hts _ hw_m55) (fun _ h9 => h9) (Or.inl rfl) dX8_becomeLike_186 (fun _ _ hR hS => ?_)
      exact hw_rWV hx hb hr hlk hR hS hm dX8_becomeLike_189
    · have hm := hw_in hm c30
      refine hw_aload_n hx hb dX8_becomeLike_33 rfl (hl.at 0 rfl) ?_
      obtain ⟨v34, e34, hm⟩ := hw_bs hm
      refine hw_getP hx hb hw_cf8 hts hown hK hR e34 (by decide) rfl (hts _ hw_m44) (fun _ h9 => h9) dX8_becomeLike_34 ?_
      refine lv_iload_n hx hb dX8_becomeLike_37 rfl (hl.at 2 rfl) ?_
      refine hw_aload_n hx hb dX8_becomeLike_38 rfl (hl.at 1 rfl) ?_
      obtain ⟨v39, e39, hm⟩ := hw_bs hm
      refine hw_getP hx hb hw_cf8 hts hown hK hR e39 (by decide) rfl (hts _ hw_m44) (fun _ h9 => h9) dX8_becomeLike_39 ?_
      refine lv_iload_n hx hb dX8_becomeLike_42 rfl (hl.at 2 rfl) ?_
      obtain ⟨v43, e43, hm⟩ := hw_bs hm
      refine hw_aald (by decide) (by decide) hx hb hK hR e43 dX8_becomeLike_43 ?_
      obtain ⟨σ44, e44, hm⟩ := hw_bs hm
      refine hw_aast2 hx hb hE hR hS e44 dX8_becomeLike_44 (fun _ _ hR hS => ?_)
      refine hw_iinc (v := (l2 + 1)) (lv' := [(2, .int (l2 + 1)), (0, hw_vr b (some x0)), (1, hw_vr b l1)]) hx hb dX8_becomeLike_45 hl (k := 2) rfl rfl (by decide) (by decide) rfl (fun ls hl => ?_)
      refine lv_goto (tgt := 27) hx hb dX8_becomeLike_48 (by decide) ?_
      exact ih hm hR hS (hl.sub [1, 2, 0] rfl)
def m8_becomeLike_b2 : Nat → Nat → Option Nat → Int32 → hw_S → Option hw_S
  | 0, _, _, _, _ => none
  | n + 1, x0, l1, l2, σ =>
  (if (5 : Int32) ≤ l2 then
  m8_becomeLike_b27 hw_fu x0 l1 (0 : Int32) σ
  else
  (hw_gP (hw_q 8) 0 (some x0) σ).bind fun v8 =>
  (hw_gP (hw_q 8) 0 l1 σ).bind fun v13 =>
  (hw_aP 3 v13 l2 σ).bind fun v17 =>
  (hw_sP 3 v8 l2 v17 σ).bind fun σ18 =>
  m8_becomeLike_b2 n x0 l1 (l2 + 1) σ18)
set_option maxRecDepth 100000 in
theorem w8_becomeLike_b2 {p : Program} {l : Launch} {e : Env} {s : State} {m : MethodId} {args : Array Value} {below : List Frame} {meth : Method} {c : Code} {D : hw_D} {b : Nat} {τ : hw_S} (C0 : hw_C p s m args meth c D yX8_becomeLike cX8_becomeLike 3 none) : ∀ (n : Nat) {x0 : Nat} {l1 : Option Nat} {l2 : Int32} {σ : hw_S} {H : Heap} {locs : List Loc} {ls : Array Slot}, m8_becomeLike_b2 n x0 l1 l2 σ = some τ → hw_R D b σ H → va_S (fun q => b ≤ q) s.heap H locs → hw_L ls 3 255 [(0, hw_vr b (some x0)), (1, hw_vr b l1), (2, .int l2)] → W p l e rm8_becomeLike s m args below meth c H locs 0 0 (MQ below (hw_QV D b τ) args s 0 0 (fun q => b ≤ q)) (F0 m 2 ls []) := by
  obtain ⟨hx, hb, hml, hr, hown, hts, hlk, hE, hnm⟩ := id C0
  have hown : s.vm.findClass RX8 = some m.cls := hown
  have hK := hE.1
  intro n
  induction n with
  | zero => intro _ _ _ _ _ _ _ hm; cases hm
  | succ n ih =>
    intro x0 l1 l2 σ H locs ls hm hR hS hl
    rw [m8_becomeLike_b2] at hm
    refine lv_iload_n hx hb dX8_becomeLike_2 rfl (hl.at 2 rfl) ?_
    refine lv_iconst (v := 5) hx hb dX8_becomeLike_3 (by decide) ?_
    refine lv_icmp_ge (tgt := 25) hx hb dX8_becomeLike_4 (by decide) (fun c4 => ?_) (fun c4 => ?_)
    · have hm := hw_ip hm c4
      refine lv_iconst (v := 0) hx hb dX8_becomeLike_25 (by decide) ?_
      refine hw_istore_n (lv' := [(2, .int (0 : Int32)), (0, hw_vr b (some x0)), (1, hw_vr b l1)]) hx hb dX8_becomeLike_26 rfl hl (by decide) (by decide) rfl (fun ls hl => ?_)
      exact w8_becomeLike_b27 C0 hw_fu hm hR hS (hl.sub [1, 2, 0] rfl)
    · have hm := hw_in hm c4
      refine hw_aload_n hx hb dX8_becomeLike_7 rfl (hl.at 0 rfl) ?_
      obtain ⟨v8, e8, hm⟩ := hw_bs hm
      refine hw_getP hx hb hw_cf8 hts hown hK hR e8 (by decide) rfl (hts _ hw_m41) (fun _ h9 => h9) dX8_becomeLike_8 ?_
      refine lv_iload_n hx hb dX8_becomeLike_11 rfl (hl.at 2 rfl) ?_
      refine hw_aload_n hx hb dX8_becomeLike_12 rfl (hl.at 1 rfl) ?_
      obtain ⟨v13, e13, hm⟩ := hw_bs hm
      refine hw_getP hx hb hw_cf8 hts hown hK hR e13 (by decide) rfl (hts _ hw_m41) (fun _ h9 => h9) dX8_becomeLike_13 ?_
      refine lv_iload_n hx hb dX8_becomeLike_16 rfl (hl.at 2 rfl) ?_
      obtain ⟨v17, e17, hm⟩ := hw_bs hm
      refine hw_aald (by decide) (by decide) hx hb hK hR e17 dX8_becomeLike_17 ?_
      obtain ⟨σ18, e18, hm⟩ := hw_bs hm
      refine hw_aast3 hx hb hE hR hS e18 dX8_becomeLike_18 (fun _ _ hR hS => ?_)
      refine hw_iinc (v := (l2 + 1)) (lv' := [(2, .int (l2 + 1)), (0, hw_vr b (some x0)), (1, hw_vr b l1)]) hx hb dX8_becomeLike_19 hl (k := 2) rfl rfl (by decide) (by decide) rfl (fun ls hl => ?_)
      refine lv_goto (tgt := 2) hx hb dX8_becomeLike_22 (by decide) ?_
      exact ih hm hR hS (hl.sub [1, 2, 0] rfl)
def m8_becomeLike (x0 : Nat) (l1 : Option Nat) (σ : hw_S) : Option hw_S :=
  m8_becomeLike_b2 hw_fu x0 l1 (0 : Int32) σ
set_option maxRecDepth 100000 in
theorem w8_becomeLike_s {p : Program} {l : Launch} {e : Env} {s : State} {m : MethodId} {args : Array Value} {below : List Frame} {meth : Method} {c : Code} {D : hw_D} {b : Nat} {x0 : Nat} {l1 : Option Nat} {σ : hw_S} {τ : hw_S} {H : Heap} {locs : List Loc} (hm : m8_becomeLike x0 l1 σ = some τ) (C0 : hw_C p s m args meth c D yX8_becomeLike cX8_becomeLike 3 none) (hR : hw_R D b σ H) (hS : va_S (fun q => b ≤ q) s.heap H locs) {ls : Array Slot} (hl : hw_L ls 3 255 [(0, hw_vr b (some x0)), (1, hw_vr b l1)]) : W p l e rm8_becomeLike s m args below meth c H locs 0 0 (MQ below (hw_QV D b τ) args s 0 0 (fun q => b ≤ q)) (F0 m 0 ls []) := by
  obtain ⟨hx, hb, hml, hr, hown, hts, hlk, hE, hnm⟩ := id C0
  have hown : s.vm.findClass RX8 = some m.cls := hown
  have hK := hE.1
  unfold m8_becomeLike at hm
  refine lv_iconst (v := 0) hx hb dX8_becomeLike_0 (by decide) ?_
  refine hw_istore_n (lv' := [(2, .int (0 : Int32)), (0, hw_vr b (some x0)), (1, hw_vr b l1)]) hx hb dX8_becomeLike_1 rfl hl (by decide) (by decide) rfl (fun ls hl => ?_)
  exact w8_becomeLike_b2 C0 hw_fu hm hR hS (hl.sub [1, 2, 0] rfl)
set_option maxRecDepth 100000 in
theorem c8_becomeLike (l : Launch) (D : hw_D) (b : Nat) {x0 : Nat} {l1 : Option Nat} {σ : hw_S} {τ : hw_S} (hm : m8_becomeLike x0 l1 σ = some τ) : Met l yX8_becomeLike (Cond.code yX8_becomeLike cX8_becomeLike 3 none :: wsL_law) rm8_becomeLike (hw_P1 D b σ [hw_vr b (some x0), hw_vr b l1]) (hw_QV D b τ) 0 0 (fun q => b ≤ q) := by
  refine hw_start1 (by decide +kernel) (by cases l1 <;> exact Nat.le_of_ble_eq_true rfl) ?_
  intro p e s m below meth c ls C0 hR hS hl
  have hl : lv_has ls 3 [(0, hw_vr b (some x0)), (1, hw_vr b l1)] := by cases l1 <;> exact hl
  exact w8_becomeLike_s hm C0 hR hS ⟨hl, (List.forall_mem_cons.mpr ⟨(fun h => by rw [show (hw_vr b (some x0) : Value).category = 1 from (hw_vr_cat _ _)] at h; cases h), (List.forall_mem_cons.mpr ⟨(fun h => by rw [show (hw_vr b l1 : Value).category = 1 from (hw_vr_cat _ _)] at h; cases h), (fun _ h => absurd h List.not_mem_nil)⟩)⟩)⟩

abbrev rm11_image : Room := { frames := 2, cells := 0, slots := 0, locals := 62 }
def m11_image (x0 : Nat) (σ : hw_S) : Option (Int32 × hw_S) :=
  (hw_gP (hw_q 11) 1 (some x0) σ).bind fun v1 =>
  (hw_gP (hw_q 11) 0 (some x0) σ).bind fun v5 =>
  (hw_rv (hw_q 8) v1 σ).bind fun a8 =>
  (m8_becomeLike a8 v5 σ).bind fun σ8 =>
  (hw_tf (1 : Int32)).bind fun _ =>
  (hw_pI (hw_q 11) 2 (some x0) (1 : Int32) σ8).bind fun σ13 =>
  (hw_gP (hw_q 11) 0 (some x0) σ13).bind fun v17 =>
  (hw_gI (hw_q 8) 3 v17 σ13).bind fun v20 =>
  some (v20, σ13)
set_option maxRecDepth 100000 in
theorem w11_image_s {p : Program} {l : Launch} {e : Env} {s : State} {m : MethodId} {args : Array Value} {below : List Frame} {meth : Method} {c : Code} {D : hw_D} {b : Nat} {x0 : Nat} {σ : hw_S} {r : Int32} {τ : hw_S} {H : Heap} {locs : List Loc} (hm : m11_image x0 σ = some (r, τ)) (C0 : hw_C p s m args meth c D yX11_image cX11_image 1 (some .int)) (hR : hw_R D b σ H) (hS : va_S (fun q => b ≤ q) s.heap H locs) {ls : Array Slot} (hl : hw_L ls 1 255 [(0, hw_vr b (some x0))]) : W p l e rm11_image s m args below meth c H locs 0 0 (MQ below (hw_QI D b τ r) args s 0 0 (fun q => b ≤ q)) (F0 m 0 ls []) := by
  obtain ⟨hx, hb, hml, hr, hown, hts, hlk, hE, hnm⟩ := id C0
  have hown : s.vm.findClass RX11 = some m.cls := hown
  have hK := hE.1
  unfold m11_image at hm
  refine hw_aload_n hx hb dX11_image_0 rfl (hl.at 0 rfl) ?_
  obtain ⟨v1, e1, hm⟩ := hw_bs hm
  refine hw_getP hx hb hw_cf11 hts hown hK hR e1 (by decide) rfl (hts _ hw_m17) (fun _ h9 => h9) dX11_image_1 ?_
  refine hw_aload_n hx hb dX11_image_4 rfl (hl.at 0 rfl) ?_
  obtain ⟨v5, e5, hm⟩ := hw_bs hm
  refine hw_getP hx hb hw_cf11 hts hown hK hR e5 (by decide) rfl (hts _ hw_m16) (fun _ h9 => h9) dX11_image_5 ?_
  obtain ⟨a8, g8, hm⟩ := hw_bs hm
  obtain ⟨h8, ht8⟩ := hw_rv_of g8
  rw [h8]
  obtain ⟨σ8, e8, hm⟩ := hw_bs hm
  refine hw_cWV (va_runV (As := [hw_vr b v5]) (rest := []) ⟨hx, hb, hml, hown, hts⟩ (c8_becomeLike l D b e8) (cwV 1 hts (hw_gV hw_m1043 hw_m1044 hw_m1045 hw_m15 hw_m1046) rfl rfl rfl (by decide +kernel) ⟨(Nat.le_of_ble_eq_true rfl), (Nat.le_of_ble_eq_true rfl)⟩) (hw_preV (ci := 8) hE hR rfl (by decide) (hw_q_of ht8)) rfl rfl hl.sz rfl (lv_room (Nat.le_of_ble_eq_true rfl)) dX11_image_8 ⟨(Nat.le_of_ble_eq_true rfl), (Nat.le_of_ble_eq_true rfl)⟩) hS (fun _ _ hR hS => ?_)
  refine hw_aload_n hx hb dX11_image_11 rfl (hl.at 0 rfl) ?_
  refine lv_iconst (v := 1) hx hb dX11_image_12 (by decide) ?_
  obtain ⟨_, z13, hm⟩ := hw_bs hm
  obtain ⟨σ13, e13, hm⟩ := hw_bs hm
  refine hw_putZ hx hb hw_cf11 hts hown hK hR hS z13 e13 (by decide) rfl rfl (hts _ hw_m18) (fun _ h9 => h9) (Or.inl rfl) dX11_image_13 (fun _ _ hR hS => ?_)
  refine hw_aload_n hx hb dX11_image_16 rfl (hl.at 0 rfl) ?_
  obtain ⟨v17, e17, hm⟩ := hw_bs hm
  refine hw_getP hx hb hw_cf11 hts hown hK hR e17 (by decide) rfl (hts _ hw_m16) (fun _ h9 => h9) dX11_image_17 ?_
  obtain ⟨v20, e20, hm⟩ := hw_bs hm
  refine hw_getI hx hb hw_cf8 hts hown hK hR e20 (by decide) rfl (hts _ hw_m148) (fun _ h9 => h9) dX11_image_20 ?_
  exact hw_rWI hx hb hr hlk hR hS hm dX11_image_23
set_option maxRecDepth 100000 in
theorem c11_image (l : Launch) (D : hw_D) (b : Nat) {x0 : Nat} {σ : hw_S} {r : Int32} {τ : hw_S} (hm : m11_image x0 σ = some (r, τ)) : Met l yX11_image (Cond.code yX11_image cX11_image 1 (some .int) :: wsL_law) rm11_image (hw_P1 D b σ [hw_vr b (some x0)]) (hw_QI D b τ r) 0 0 (fun q => b ≤ q) := by
  refine hw_start1 (by decide +kernel) (by exact Nat.le_of_ble_eq_true rfl) ?_
  intro p e s m below meth c ls C0 hR hS hl
  have hl : lv_has ls 1 [(0, hw_vr b (some x0))] := by exact hl
  exact w11_image_s hm C0 hR hS ⟨hl, (List.forall_mem_cons.mpr ⟨(fun h => by rw [show (hw_vr b (some x0) : Value).category = 1 from (hw_vr_cat _ _)] at h; cases h), (fun _ h => absurd h List.not_mem_nil)⟩)⟩

abbrev rm12_image : Room := { frames := 0, cells := 0, slots := 0, locals := 0 }
def m12_image_b2 : Nat → Nat → Int32 → hw_S → Option (Int32 × hw_S)
  | 0, _, _, _ => none
  | n + 1, x0, l1, σ =>
  (if (1396 : Int32) ≤ l1 then
  (hw_tf (1 : Int32)).bind fun _ =>
  (hw_pI (hw_q 12) 3 (some x0) (1 : Int32) σ).bind fun σ29 =>
  (hw_gP (hw_q 12) 1 (some x0) σ29).bind fun v33 =>
  (hw_aI 0 v33 (1 : Int32) σ29).bind fun v37 =>
  some (v37, σ29)
  else
  (hw_gP (hw_q 12) 2 (some x0) σ).bind fun v10 =>
  (hw_gP (hw_q 12) 1 (some x0) σ).bind fun v15 =>
  (hw_aI 0 v15 l1 σ).bind fun v19 =>
  (hw_sI v10 l1 v19 σ).bind fun σ20 =>
  m12_image_b2 n x0 (l1 + 1) σ20)
set_option maxRecDepth 100000 in
theorem w12_image_b2 {p : Program} {l : Launch} {e : Env} {s : State} {m : MethodId} {args : Array Value} {below : List Frame} {meth : Method} {c : Code} {D : hw_D} {b : Nat} {r : Int32} {τ : hw_S} (C0 : hw_C p s m args meth c D yX12_image cX12_image 2 (some .int)) : ∀ (n : Nat) {x0 : Nat} {l1 : Int32} {σ : hw_S} {H : Heap} {locs : List Loc} {ls : Array Slot}, m12_image_b2 n x0 l1 σ = some (r, τ) → hw_R D b σ H → va_S (fun q => b ≤ q) s.heap H locs → hw_L ls 2 255 [(0, hw_vr b (some x0)), (1, .int l1)] → W p l e rm12_image s m args below meth c H locs 0 0 (MQ below (hw_QI D b τ r) args s 0 0 (fun q => b ≤ q)) (F0 m 2 ls []) := by
  obtain ⟨hx, hb, hml, hr, hown, hts, hlk, hE, hnm⟩ := id C0
  have hown : s.vm.findClass RX12 = some m.cls := hown
  have hK := hE.1
  intro n
  induction n with
  | zero => intro _ _ _ _ _ _ hm; cases hm
  | succ n ih =>
    intro x0 l1 σ H locs ls hm hR hS hl
    rw [m12_image_b2] at hm
    refine lv_iload_n hx hb dX12_image_2 rfl (hl.at 1 rfl) ?_
    refine lv_sipush (v := 1396) hx hb dX12_image_3 (by decide) ?_
    refine lv_icmp_ge (tgt := 27) hx hb dX12_image_6 (by decide) (fun c6 => ?_) (fun c6 => ?_)
    · have hm := hw_ip hm c6
      refine hw_aload_n hx hb dX12_image_27 rfl (hl.at 0 rfl) ?_
      refine lv_iconst (v := 1) hx hb dX12_image_28 (by decide) ?_
      obtain ⟨_, z29, hm⟩ := hw_bs hm
      obtain ⟨σ29, e29, hm⟩ := hw_bs hm
      refine hw_putZ hx hb hw_cf12 hts hown hK hR hS z29 e29 (by decide) rfl rfl (hts _ hw_m1052) (fun _ h9 => h9) (Or.inl rfl) dX12_image_29 (fun _ _ hR hS => ?_)
      refine hw_aload_n hx hb dX12_image_32 rfl (hl.at 0 rfl) ?_
      obtain ⟨v33, e33, hm⟩ := hw_bs hm
      refine hw_getP hx hb hw_cf12 hts hown hK hR e33 (by decide) rfl (hts _ hw_m76) (fun _ h9 => h9) dX12_image_33 ?_
      refine lv_iconst (v := 1) hx hb dX12_image_36 (by decide) ?_
      obtain ⟨v37, e37, hm⟩ := hw_bs hm
      refine hw_iald hx hb hK hR e37 dX12_image_37 ?_
      exact hw_rWI hx hb hr hlk hR hS hm dX12_image_38
    · have hm := hw_in hm c6
      refine hw_aload_n hx hb dX12_image_9 rfl (hl.at 0 rfl) ?_
      obtain ⟨v10, e10, hm⟩ := hw_bs hm
      refine hw_getP hx hb hw_cf12 hts hown hK hR e10 (by decide) rfl (hts _ hw_m77) (fun _ h9 => h9) dX12_image_10 ?_
      refine lv_iload_n hx hb dX12_image_13 rfl (hl.at 1 rfl) ?_
      refine hw_aload_n hx hb dX12_image_14 rfl (hl.at 0 rfl) ?_
      obtain ⟨v15, e15, hm⟩ := hw_bs hm
      refine hw_getP hx hb hw_cf12 hts hown hK hR e15 (by decide) rfl (hts _ hw_m76) (fun _ h9 => h9) dX12_image_15 ?_
      refine lv_iload_n hx hb dX12_image_18 rfl (hl.at 1 rfl) ?_
      obtain ⟨v19, e19, hm⟩ := hw_bs hm
      refine hw_iald hx hb hK hR e19 dX12_image_19 ?_
      obtain ⟨σ20, e20, hm⟩ := hw_bs hm
      refine hw_iast hx hb hK hR hS e20 dX12_image_20 (fun _ _ hR hS => ?_)
      refine hw_iinc (v := (l1 + 1)) (lv' := [(1, .int (l1 + 1)), (0, hw_vr b (some x0))]) hx hb dX12_image_21 hl (k := 1) rfl rfl (by decide) (by decide) rfl (fun ls hl => ?_)
      refine lv_goto (tgt := 2) hx hb dX12_image_24 (by decide) ?_
      exact ih hm hR hS (hl.sub [1, 0] rfl)
def m12_image (x0 : Nat) (σ : hw_S) : Option (Int32 × hw_S) :=
  m12_image_b2 hw_fu x0 (0 : Int32) σ
set_option maxRecDepth 100000 in
theorem w12_image_s {p : Program} {l : Launch} {e : Env} {s : State} {m : MethodId} {args : Array Value} {below : List Frame} {meth : Method} {c : Code} {D : hw_D} {b : Nat} {x0 : Nat} {σ : hw_S} {r : Int32} {τ : hw_S} {H : Heap} {locs : List Loc} (hm : m12_image x0 σ = some (r, τ)) (C0 : hw_C p s m args meth c D yX12_image cX12_image 2 (some .int)) (hR : hw_R D b σ H) (hS : va_S (fun q => b ≤ q) s.heap H locs) {ls : Array Slot} (hl : hw_L ls 2 255 [(0, hw_vr b (some x0))]) : W p l e rm12_image s m args below meth c H locs 0 0 (MQ below (hw_QI D b τ r) args s 0 0 (fun q => b ≤ q)) (F0 m 0 ls []) := by
  obtain ⟨hx, hb, hml, hr, hown, hts, hlk, hE, hnm⟩ := id C0
  have hown : s.vm.findClass RX12 = some m.cls := hown
  have hK := hE.1
  unfold m12_image at hm
  refine lv_iconst (v := 0) hx hb dX12_image_0 (by decide) ?_
  refine hw_istore_n (lv' := [(1, .int (0 : Int32)), (0, hw_vr b (some x0))]) hx hb dX12_image_1 rfl hl (by decide) (by decide) rfl (fun ls hl => ?_)
  exact w12_image_b2 C0 hw_fu hm hR hS (hl.sub [1, 0] rfl)
set_option maxRecDepth 100000 in
theorem c12_image (l : Launch) (D : hw_D) (b : Nat) {x0 : Nat} {σ : hw_S} {r : Int32} {τ : hw_S} (hm : m12_image x0 σ = some (r, τ)) : Met l yX12_image (Cond.code yX12_image cX12_image 2 (some .int) :: wsL_law) rm12_image (hw_P1 D b σ [hw_vr b (some x0)]) (hw_QI D b τ r) 0 0 (fun q => b ≤ q) := by
  refine hw_start1 (by decide +kernel) (by exact Nat.le_of_ble_eq_true rfl) ?_
  intro p e s m below meth c ls C0 hR hS hl
  have hl : lv_has ls 2 [(0, hw_vr b (some x0))] := by exact hl
  exact w12_image_s hm C0 hR hS ⟨hl, (List.forall_mem_cons.mpr ⟨(fun h => by rw [show (hw_vr b (some x0) : Value).category = 1 from (hw_vr_cat _ _)] at h; cases h), (fun _ h => absurd h List.not_mem_nil)⟩)⟩

abbrev rm11_undo : Room := { frames := 2, cells := 0, slots := 0, locals := 62 }
def m11_undo (x0 : Nat) (σ : hw_S) : Option (Int32 × hw_S) :=
  (hw_gI (hw_q 11) 2 (some x0) σ).bind fun v1 =>
  (if v1 = 0 then
  some (((-3) : Int32), σ)
  else
  (hw_gP (hw_q 11) 0 (some x0) σ).bind fun v11 =>
  (hw_gP (hw_q 11) 1 (some x0) σ).bind fun v15 =>
  (hw_rv (hw_q 8) v11 σ).bind fun a18 =>
  (m8_becomeLike a18 v15 σ).bind fun σ18 =>
  (hw_gP (hw_q 11) 0 (some x0) σ18).bind fun v22 =>
  (hw_gI (hw_q 8) 3 v22 σ18).bind fun v25 =>
  some (v25, σ18))
set_option maxRecDepth 100000 in
theorem w11_undo_s {p : Program} {l : Launch} {e : Env} {s : State} {m : MethodId} {args : Array Value} {below : List Frame} {meth : Method} {c : Code} {D : hw_D} {b : Nat} {x0 : Nat} {σ : hw_S} {r : Int32} {τ : hw_S} {H : Heap} {locs : List Loc} (hm : m11_undo x0 σ = some (r, τ)) (C0 : hw_C p s m args meth c D yX11_undo cX11_undo 1 (some .int)) (hR : hw_R D b σ H) (hS : va_S (fun q => b ≤ q) s.heap H locs) {ls : Array Slot} (hl : hw_L ls 1 255 [(0, hw_vr b (some x0))]) : W p l e rm11_undo s m args below meth c H locs 0 0 (MQ below (hw_QI D b τ r) args s 0 0 (fun q => b ≤ q)) (F0 m 0 ls []) := by
  obtain ⟨hx, hb, hml, hr, hown, hts, hlk, hE, hnm⟩ := id C0
  have hown : s.vm.findClass RX11 = some m.cls := hown
  have hK := hE.1
  unfold m11_undo at hm
  refine hw_aload_n hx hb dX11_undo_0 rfl (hl.at 0 rfl) ?_
  obtain ⟨v1, e1, hm⟩ := hw_bs hm
  refine hw_getI hx hb hw_cf11 hts hown hK hR e1 (by decide) rfl (hts _ hw_m18) (fun _ h9 => h9) dX11_undo_1 ?_
  refine lv_if_ne (tgt := 10) hx hb dX11_undo_4 (by decide) (fun c4 => ?_) (fun c4 => ?_)
  · have hm := hw_in hm c4
    refine hw_aload_n hx hb dX11_undo_10 rfl (hl.at 0 rfl) ?_
    obtain ⟨v11, e11, hm⟩ := hw_bs hm
    refine hw_getP hx hb hw_cf11 hts hown hK hR e11 (by decide) rfl (hts _ hw_m16) (fun _ h9 => h9) dX11_undo_11 ?_
    refine hw_aload_n hx hb dX11_undo_14 rfl (hl.at 0 rfl) ?_
    obtain ⟨v15, e15, hm⟩ := hw_bs hm
    refine hw_getP hx hb hw_cf11 hts hown hK hR e15 (by decide) rfl (hts _ hw_m17) (fun _ h9 => h9) dX11_undo_15 ?_
    obtain ⟨a18, g18, hm⟩ := hw_bs hm
    obtain ⟨h18, ht18⟩ := hw_rv_of g18
    rw [h18]
    obtain ⟨σ18, e18, hm⟩ := hw_bs hm
    refine hw_cWV (va_runV (As := [hw_vr b v15]) (rest := []) ⟨hx, hb, hml, hown, hts⟩ (c8_becomeLike l D b e18) (cwV 1 hts (hw_gV hw_m1043 hw_m1044 hw_m1045 hw_m15 hw_m1046) rfl rfl rfl (by decide +kernel) ⟨(Nat.le_of_ble_eq_true rfl), (Nat.le_of_ble_eq_true rfl)⟩) (hw_preV (ci := 8) hE hR rfl (by decide) (hw_q_of ht18)) rfl rfl hl.sz rfl (lv_room (Nat.le_of_ble_eq_true rfl)) dX11_undo_18 ⟨(Nat.le_of_ble_eq_true rfl), (Nat.le_of_ble_eq_true rfl)⟩) hS (fun _ _ hR hS => ?_)
    refine hw_aload_n hx hb dX11_undo_21 rfl (hl.at 0 rfl) ?_
    obtain ⟨v22, e22, hm⟩ := hw_bs hm
    refine hw_getP hx hb hw_cf11 hts hown hK hR e22 (by decide) rfl (hts _ hw_m16) (fun _ h9 => h9) dX11_undo_22 ?_
    obtain ⟨v25, e25, hm⟩ := hw_bs hm
    refine hw_getI hx hb hw_cf8 hts hown hK hR e25 (by decide) rfl (hts _ hw_m148) (fun _ h9 => h9) dX11_undo_25 ?_
    exact hw_rWI hx hb hr hlk hR hS hm dX11_undo_28
  · have hm := hw_ip hm c4
    refine lv_bipush (v := (-3)) hx hb dX11_undo_7 (by decide) ?_
    exact hw_rWI hx hb hr hlk hR hS hm dX11_undo_9
set_option maxRecDepth 100000 in
theorem c11_undo (l : Launch) (D : hw_D) (b : Nat) {x0 : Nat} {σ : hw_S} {r : Int32} {τ : hw_S} (hm : m11_undo x0 σ = some (r, τ)) : Met l yX11_undo (Cond.code yX11_undo cX11_undo 1 (some .int) :: wsL_law) rm11_undo (hw_P1 D b σ [hw_vr b (some x0)]) (hw_QI D b τ r) 0 0 (fun q => b ≤ q) := by
  refine hw_start1 (by decide +kernel) (by exact Nat.le_of_ble_eq_true rfl) ?_
  intro p e s m below meth c ls C0 hR hS hl
  have hl : lv_has ls 1 [(0, hw_vr b (some x0))] := by exact hl
  exact w11_undo_s hm C0 hR hS ⟨hl, (List.forall_mem_cons.mpr ⟨(fun h => by rw [show (hw_vr b (some x0) : Value).category = 1 from (hw_vr_cat _ _)] at h; cases h), (fun _ h => absurd h List.not_mem_nil)⟩)⟩

abbrev rm12_undo : Room := { frames := 0, cells := 0, slots := 0, locals := 0 }
def m12_undo_b12 : Nat → Nat → Int32 → hw_S → Option (Int32 × hw_S)
  | 0, _, _, _ => none
  | n + 1, x0, l1, σ =>
  (if (1396 : Int32) ≤ l1 then
  (hw_gP (hw_q 12) 1 (some x0) σ).bind fun v38 =>
  (hw_aI 0 v38 (1 : Int32) σ).bind fun v42 =>
  some (v42, σ)
  else
  (hw_gP (hw_q 12) 1 (some x0) σ).bind fun v20 =>
  (hw_gP (hw_q 12) 2 (some x0) σ).bind fun v25 =>
  (hw_aI 0 v25 l1 σ).bind fun v29 =>
  (hw_sI v20 l1 v29 σ).bind fun σ30 =>
  m12_undo_b12 n x0 (l1 + 1) σ30)
set_option maxRecDepth 100000 in
theorem w12_undo_b12 {p : Program} {l : Launch} {e : Env} {s : State} {m : MethodId} {args : Array Value} {below : List Frame} {meth : Method} {c : Code} {D : hw_D} {b : Nat} {r : Int32} {τ : hw_S} (C0 : hw_C p s m args meth c D yX12_undo cX12_undo 2 (some .int)) : ∀ (n : Nat) {x0 : Nat} {l1 : Int32} {σ : hw_S} {H : Heap} {locs : List Loc} {ls : Array Slot}, m12_undo_b12 n x0 l1 σ = some (r, τ) → hw_R D b σ H → va_S (fun q => b ≤ q) s.heap H locs → hw_L ls 2 255 [(0, hw_vr b (some x0)), (1, .int l1)] → W p l e rm12_undo s m args below meth c H locs 0 0 (MQ below (hw_QI D b τ r) args s 0 0 (fun q => b ≤ q)) (F0 m 12 ls []) := by
  obtain ⟨hx, hb, hml, hr, hown, hts, hlk, hE, hnm⟩ := id C0
  have hown : s.vm.findClass RX12 = some m.cls := hown
  have hK := hE.1
  intro n
  induction n with
  | zero => intro _ _ _ _ _ _ hm; cases hm
  | succ n ih =>
    intro x0 l1 σ H locs ls hm hR hS hl
    rw [m12_undo_b12] at hm
    refine lv_iload_n hx hb dX12_undo_12 rfl (hl.at 1 rfl) ?_
    refine lv_sipush (v := 1396) hx hb dX12_undo_13 (by decide) ?_
    refine lv_icmp_ge (tgt := 37) hx hb dX12_undo_16 (by decide) (fun c16 => ?_) (fun c16 => ?_)
    · have hm := hw_ip hm c16
      refine hw_aload_n hx hb dX12_undo_37 rfl (hl.at 0 rfl) ?_
      obtain ⟨v38, e38, hm⟩ := hw_bs hm
      refine hw_getP hx hb hw_cf12 hts hown hK hR e38 (by decide) rfl (hts _ hw_m76) (fun _ h9 => h9) dX12_undo_38 ?_
      refine lv_iconst (v := 1) hx hb dX12_undo_41 (by decide) ?_
      obtain ⟨v42, e42, hm⟩ := hw_bs hm
      refine hw_iald hx hb hK hR e42 dX12_undo_42 ?_
      exact hw_rWI hx hb hr hlk hR hS hm dX12_undo_43
    · have hm := hw_in hm c16
      refine hw_aload_n hx hb dX12_undo_19 rfl (hl.at 0 rfl) ?_
      obtain ⟨v20, e20, hm⟩ := hw_bs hm
      refine hw_getP hx hb hw_cf12 hts hown hK hR e20 (by decide) rfl (hts _ hw_m76) (fun _ h9 => h9) dX12_undo_20 ?_
      refine lv_iload_n hx hb dX12_undo_23 rfl (hl.at 1 rfl) ?_
      refine hw_aload_n hx hb dX12_undo_24 rfl (hl.at 0 rfl) ?_
      obtain ⟨v25, e25, hm⟩ := hw_bs hm
      refine hw_getP hx hb hw_cf12 hts hown hK hR e25 (by decide) rfl (hts _ hw_m77) (fun _ h9 => h9) dX12_undo_25 ?_
      refine lv_iload_n hx hb dX12_undo_28 rfl (hl.at 1 rfl) ?_
      obtain ⟨v29, e29, hm⟩ := hw_bs hm
      refine hw_iald hx hb hK hR e29 dX12_undo_29 ?_
      obtain ⟨σ30, e30, hm⟩ := hw_bs hm
      refine hw_iast hx hb hK hR hS e30 dX12_undo_30 (fun _ _ hR hS => ?_)
      refine hw_iinc (v := (l1 + 1)) (lv' := [(1, .int (l1 + 1)), (0, hw_vr b (some x0))]) hx hb dX12_undo_31 hl (k := 1) rfl rfl (by decide) (by decide) rfl (fun ls hl => ?_)
      refine lv_goto (tgt := 12) hx hb dX12_undo_34 (by decide) ?_
      exact ih hm hR hS (hl.sub [1, 0] rfl)
def m12_undo (x0 : Nat) (σ : hw_S) : Option (Int32 × hw_S) :=
  (hw_gI (hw_q 12) 3 (some x0) σ).bind fun v1 =>
  (if v1 = 0 then
  some (((-3) : Int32), σ)
  else
  m12_undo_b12 hw_fu x0 (0 : Int32) σ)
set_option maxRecDepth 100000 in
theorem w12_undo_s {p : Program} {l : Launch} {e : Env} {s : State} {m : MethodId} {args : Array Value} {below : List Frame} {meth : Method} {c : Code} {D : hw_D} {b : Nat} {x0 : Nat} {σ : hw_S} {r : Int32} {τ : hw_S} {H : Heap} {locs : List Loc} (hm : m12_undo x0 σ = some (r, τ)) (C0 : hw_C p s m args meth c D yX12_undo cX12_undo 2 (some .int)) (hR : hw_R D b σ H) (hS : va_S (fun q => b ≤ q) s.heap H locs) {ls : Array Slot} (hl : hw_L ls 2 255 [(0, hw_vr b (some x0))]) : W p l e rm12_undo s m args below meth c H locs 0 0 (MQ below (hw_QI D b τ r) args s 0 0 (fun q => b ≤ q)) (F0 m 0 ls []) := by
  obtain ⟨hx, hb, hml, hr, hown, hts, hlk, hE, hnm⟩ := id C0
  have hown : s.vm.findClass RX12 = some m.cls := hown
  have hK := hE.1
  unfold m12_undo at hm
  refine hw_aload_n hx hb dX12_undo_0 rfl (hl.at 0 rfl) ?_
  obtain ⟨v1, e1, hm⟩ := hw_bs hm
  refine hw_getI hx hb hw_cf12 hts hown hK hR e1 (by decide) rfl (hts _ hw_m1052) (fun _ h9 => h9) dX12_undo_1 ?_
  refine lv_if_ne (tgt := 10) hx hb dX12_undo_4 (by decide) (fun c4 => ?_) (fun c4 => ?_)
  · have hm := hw_in hm c4
    refine lv_iconst (v := 0) hx hb dX12_undo_10 (by decide) ?_
    refine hw_istore_n (lv' := [(1, .int (0 : Int32)), (0, hw_vr b (some x0))]) hx hb dX12_undo_11 rfl hl (by decide) (by decide) rfl (fun ls hl => ?_)
    exact w12_undo_b12 C0 hw_fu hm hR hS (hl.sub [1, 0] rfl)
  · have hm := hw_ip hm c4
    refine lv_bipush (v := (-3)) hx hb dX12_undo_7 (by decide) ?_
    exact hw_rWI hx hb hr hlk hR hS hm dX12_undo_9
set_option maxRecDepth 100000 in
theorem c12_undo (l : Launch) (D : hw_D) (b : Nat) {x0 : Nat} {σ : hw_S} {r : Int32} {τ : hw_S} (hm : m12_undo x0 σ = some (r, τ)) : Met l yX12_undo (Cond.code yX12_undo cX12_undo 2 (some .int) :: wsL_law) rm12_undo (hw_P1 D b σ [hw_vr b (some x0)]) (hw_QI D b τ r) 0 0 (fun q => b ≤ q) := by
  refine hw_start1 (by decide +kernel) (by exact Nat.le_of_ble_eq_true rfl) ?_
  intro p e s m below meth c ls C0 hR hS hl
  have hl : lv_has ls 2 [(0, hw_vr b (some x0))] := by exact hl
  exact w12_undo_s hm C0 hR hS ⟨hl, (List.forall_mem_cons.mpr ⟨(fun h => by rw [show (hw_vr b (some x0) : Value).category = 1 from (hw_vr_cat _ _)] at h; cases h), (fun _ h => absurd h List.not_mem_nil)⟩)⟩

abbrev rm11_count : Room := { frames := 0, cells := 0, slots := 0, locals := 0 }
def m11_count (x0 : Nat) (l1 : Int32) (σ : hw_S) : Option Int32 :=
  (if l1 = 0 then
  (hw_gP (hw_q 11) 0 (some x0) σ).bind fun v45 =>
  (hw_gI (hw_q 8) 1 v45 σ).bind fun v48 =>
  some v48
  else
  (if l1 = 1 then
  (hw_gP (hw_q 11) 0 (some x0) σ).bind fun v53 =>
  (hw_gI (hw_q 8) 3 v53 σ).bind fun v56 =>
  some v56
  else
  (if l1 = 2 then
  (hw_gP (hw_q 11) 0 (some x0) σ).bind fun v61 =>
  (hw_gI (hw_q 8) 13 v61 σ).bind fun v64 =>
  some v64
  else
  (if l1 = 3 then
  (hw_gP (hw_q 11) 0 (some x0) σ).bind fun v69 =>
  (hw_gI (hw_q 8) 7 v69 σ).bind fun v72 =>
  some v72
  else
  (if l1 = 4 then
  (hw_gP (hw_q 11) 0 (some x0) σ).bind fun v77 =>
  (hw_gI (hw_q 8) 9 v77 σ).bind fun v80 =>
  some v80
  else
  (if l1 = 5 then
  (hw_gP (hw_q 11) 0 (some x0) σ).bind fun v85 =>
  (hw_gI (hw_q 8) 5 v85 σ).bind fun v88 =>
  some v88
  else
  (if l1 = 6 then
  (hw_gP (hw_q 11) 4 (some x0) σ).bind fun v93 =>
  (hw_gI (hw_q 10) 1 v93 σ).bind fun v96 =>
  some v96
  else
  some ((-1) : Int32))))))))
set_option maxRecDepth 100000 in
theorem w11_count_s {p : Program} {l : Launch} {e : Env} {s : State} {m : MethodId} {args : Array Value} {below : List Frame} {meth : Method} {c : Code} {D : hw_D} {b : Nat} {x0 : Nat} {l1 : Int32} {σ : hw_S} {r : Int32} (hm : m11_count x0 l1 σ = some r) (C0 : hw_C p s m args meth c D yX11_count cX11_count 2 (some .int)) (hR : hw_R D b σ s.heap) {ls : Array Slot} (hl : hw_L ls 2 255 [(0, hw_vr b (some x0)), (1, .int l1)]) : W p l e rm11_count s m args below meth c s.heap [] 0 0 (MQ below (hw_RI r) args s 0 0 hw_nof) (F0 m 0 ls []) := by
  obtain ⟨hx, hb, hml, hr, hown, hts, hlk, hE, hnm⟩ := id C0
  have hown : s.vm.findClass RX11 = some m.cls := hown
  have hK := hE.1
  unfold m11_count at hm
  refine lv_iload_n hx hb dX11_count_0 rfl (hl.at 1 rfl) ?_
  refine hw_case l1 (0) (fun c1_0 => ?_) (fun c1_0 => ?_)
  · have hm := hw_ip hm c1_0
    refine lv_tableIn (off := 43) (tgt := 44) hx hb dX11_count_1 (by rw [c1_0]; decide) (by rw [c1_0]; decide) (by rw [c1_0]; rfl) (by decide) ?_
    refine hw_aload_n hx hb dX11_count_44 rfl (hl.at 0 rfl) ?_
    obtain ⟨v45, e45, hm⟩ := hw_bs hm
    refine hw_getP hx hb hw_cf11 hts hown hK hR e45 (by decide) rfl (hts _ hw_m16) (fun _ h9 => h9) dX11_count_45 ?_
    obtain ⟨v48, e48, hm⟩ := hw_bs hm
    refine hw_getI hx hb hw_cf8 hts hown hK hR e48 (by decide) rfl (hts _ hw_m94) (fun _ h9 => h9) dX11_count_48 ?_
    exact hw_rRI hx hb hr hlk hm dX11_count_51
  · have hm := hw_in hm c1_0
    refine hw_case l1 (1) (fun c1_1 => ?_) (fun c1_1 => ?_)
    · have hm := hw_ip hm c1_1
      refine lv_tableIn (off := 51) (tgt := 52) hx hb dX11_count_1 (by rw [c1_1]; decide) (by rw [c1_1]; decide) (by rw [c1_1]; rfl) (by decide) ?_
      refine hw_aload_n hx hb dX11_count_52 rfl (hl.at 0 rfl) ?_
      obtain ⟨v53, e53, hm⟩ := hw_bs hm
      refine hw_getP hx hb hw_cf11 hts hown hK hR e53 (by decide) rfl (hts _ hw_m16) (fun _ h9 => h9) dX11_count_53 ?_
      obtain ⟨v56, e56, hm⟩ := hw_bs hm
      refine hw_getI hx hb hw_cf8 hts hown hK hR e56 (by decide) rfl (hts _ hw_m148) (fun _ h9 => h9) dX11_count_56 ?_
      exact hw_rRI hx hb hr hlk hm dX11_count_59
    · have hm := hw_in hm c1_1
      refine hw_case l1 (2) (fun c1_2 => ?_) (fun c1_2 => ?_)
      · have hm := hw_ip hm c1_2
        refine lv_tableIn (off := 59) (tgt := 60) hx hb dX11_count_1 (by rw [c1_2]; decide) (by rw [c1_2]; decide) (by rw [c1_2]; rfl) (by decide) ?_
        refine hw_aload_n hx hb dX11_count_60 rfl (hl.at 0 rfl) ?_
        obtain ⟨v61, e61, hm⟩ := hw_bs hm
        refine hw_getP hx hb hw_cf11 hts hown hK hR e61 (by decide) rfl (hts _ hw_m16) (fun _ h9 => h9) dX11_count_61 ?_
        obtain ⟨v64, e64, hm⟩ := hw_bs hm
        refine hw_getI hx hb hw_cf8 hts hown hK hR e64 (by decide) rfl (hts _ hw_m809) (fun _ h9 => h9) dX11_count_64 ?_
        exact hw_rRI hx hb hr hlk hm dX11_count_67
      · have hm := hw_in hm c1_2
        refine hw_case l1 (3) (fun c1_3 => ?_) (fun c1_3 => ?_)
        · have hm := hw_ip hm c1_3
          refine lv_tableIn (off := 67) (tgt := 68) hx hb dX11_count_1 (by rw [c1_3]; decide) (by rw [c1_3]; decide) (by rw [c1_3]; rfl) (by decide) ?_
          refine hw_aload_n hx hb dX11_count_68 rfl (hl.at 0 rfl) ?_
          obtain ⟨v69, e69, hm⟩ := hw_bs hm
          refine hw_getP hx hb hw_cf11 hts hown hK hR e69 (by decide) rfl (hts _ hw_m16) (fun _ h9 => h9) dX11_count_69 ?_
          obtain ⟨v72, e72, hm⟩ := hw_bs hm
          refine hw_getI hx hb hw_cf8 hts hown hK hR e72 (by decide) rfl (hts _ hw_m604) (fun _ h9 => h9) dX11_count_72 ?_
          exact hw_rRI hx hb hr hlk hm dX11_count_75
        · have hm := hw_in hm c1_3
          refine hw_case l1 (4) (fun c1_4 => ?_) (fun c1_4 => ?_)
          · have hm := hw_ip hm c1_4
            refine lv_tableIn (off := 75) (tgt := 76) hx hb dX11_count_1 (by rw [c1_4]; decide) (by rw [c1_4]; decide) (by rw [c1_4]; rfl) (by decide) ?_
            refine hw_aload_n hx hb dX11_count_76 rfl (hl.at 0 rfl) ?_
            obtain ⟨v77, e77, hm⟩ := hw_bs hm
            refine hw_getP hx hb hw_cf11 hts hown hK hR e77 (by decide) rfl (hts _ hw_m16) (fun _ h9 => h9) dX11_count_77 ?_
            obtain ⟨v80, e80, hm⟩ := hw_bs hm
            refine hw_getI hx hb hw_cf8 hts hown hK hR e80 (by decide) rfl (hts _ hw_m751) (fun _ h9 => h9) dX11_count_80 ?_
            exact hw_rRI hx hb hr hlk hm dX11_count_83
          · have hm := hw_in hm c1_4
            refine hw_case l1 (5) (fun c1_5 => ?_) (fun c1_5 => ?_)
            · have hm := hw_ip hm c1_5
              refine lv_tableIn (off := 83) (tgt := 84) hx hb dX11_count_1 (by rw [c1_5]; decide) (by rw [c1_5]; decide) (by rw [c1_5]; rfl) (by decide) ?_
              refine hw_aload_n hx hb dX11_count_84 rfl (hl.at 0 rfl) ?_
              obtain ⟨v85, e85, hm⟩ := hw_bs hm
              refine hw_getP hx hb hw_cf11 hts hown hK hR e85 (by decide) rfl (hts _ hw_m16) (fun _ h9 => h9) dX11_count_85 ?_
              obtain ⟨v88, e88, hm⟩ := hw_bs hm
              refine hw_getI hx hb hw_cf8 hts hown hK hR e88 (by decide) rfl (hts _ hw_m137) (fun _ h9 => h9) dX11_count_88 ?_
              exact hw_rRI hx hb hr hlk hm dX11_count_91
            · have hm := hw_in hm c1_5
              refine hw_case l1 (6) (fun c1_6 => ?_) (fun c1_6 => ?_)
              · have hm := hw_ip hm c1_6
                refine lv_tableIn (off := 91) (tgt := 92) hx hb dX11_count_1 (by rw [c1_6]; decide) (by rw [c1_6]; decide) (by rw [c1_6]; rfl) (by decide) ?_
                refine hw_aload_n hx hb dX11_count_92 rfl (hl.at 0 rfl) ?_
                obtain ⟨v93, e93, hm⟩ := hw_bs hm
                refine hw_getP hx hb hw_cf11 hts hown hK hR e93 (by decide) rfl (hts _ hw_m26) (fun _ h9 => h9) dX11_count_93 ?_
                obtain ⟨v96, e96, hm⟩ := hw_bs hm
                refine hw_getI hx hb hw_cf10 hts hown hK hR e96 (by decide) rfl (hts _ hw_m1065) (fun _ h9 => h9) dX11_count_96 ?_
                exact hw_rRI hx hb hr hlk hm dX11_count_99
              · have hm := hw_in hm c1_6
                refine lv_tableOut (tgt := 100) hx hb dX11_count_1 (by have h0 := hw_ne (0) c1_0 rfl; have h1 := hw_ne (1) c1_1 rfl; have h2 := hw_ne (2) c1_2 rfl; have h3 := hw_ne (3) c1_3 rfl; have h4 := hw_ne (4) c1_4 rfl; have h5 := hw_ne (5) c1_5 rfl; have h6 := hw_ne (6) c1_6 rfl; omega) (by decide) ?_
                refine lv_iconst (v := (-1)) hx hb dX11_count_100 (by decide) ?_
                exact hw_rRI hx hb hr hlk hm dX11_count_101
set_option maxRecDepth 100000 in
theorem c11_count (l : Launch) (D : hw_D) (b : Nat) {x0 : Nat} {l1 : Int32} {σ : hw_S} {r : Int32} (hm : m11_count x0 l1 σ = some r) : Met l yX11_count (Cond.code yX11_count cX11_count 2 (some .int) :: wsL_law) rm11_count (hw_P1 D b σ [hw_vr b (some x0), .int l1]) (hw_RI r) 0 0 hw_nof := by
  refine hw_start1 (by decide +kernel) (by exact Nat.le_of_ble_eq_true rfl) ?_
  intro p e s m below meth c ls C0 hR hS hl
  have hl : lv_has ls 2 [(0, hw_vr b (some x0)), (1, .int l1)] := by exact hl
  exact w11_count_s hm C0 hR ⟨hl, (List.forall_mem_cons.mpr ⟨(fun h => by rw [show (hw_vr b (some x0) : Value).category = 1 from (hw_vr_cat _ _)] at h; cases h), (List.forall_mem_cons.mpr ⟨(fun h => absurd (show (1 : Nat) = 2 from h) (by decide)), (fun _ h => absurd h List.not_mem_nil)⟩)⟩)⟩

abbrev rm12_count : Room := { frames := 0, cells := 0, slots := 0, locals := 0 }
def m12_count (x0 : Nat) (l1 : Int32) (σ : hw_S) : Option Int32 :=
  (if l1 = 0 then
  (hw_gP (hw_q 12) 1 (some x0) σ).bind fun v45 =>
  (hw_aI 0 v45 (0 : Int32) σ).bind fun v49 =>
  some v49
  else
  (if l1 = 1 then
  (hw_gP (hw_q 12) 1 (some x0) σ).bind fun v52 =>
  (hw_aI 0 v52 (1 : Int32) σ).bind fun v56 =>
  some v56
  else
  (if l1 = 2 then
  (hw_gP (hw_q 12) 1 (some x0) σ).bind fun v59 =>
  (hw_aI 0 v59 (2 : Int32) σ).bind fun v63 =>
  some v63
  else
  (if l1 = 3 then
  (hw_gP (hw_q 12) 1 (some x0) σ).bind fun v66 =>
  (hw_aI 0 v66 (3 : Int32) σ).bind fun v70 =>
  some v70
  else
  (if l1 = 4 then
  (hw_gP (hw_q 12) 1 (some x0) σ).bind fun v73 =>
  (hw_aI 0 v73 (4 : Int32) σ).bind fun v77 =>
  some v77
  else
  (if l1 = 5 then
  (hw_gP (hw_q 12) 1 (some x0) σ).bind fun v80 =>
  (hw_aI 0 v80 (5 : Int32) σ).bind fun v84 =>
  some v84
  else
  (if l1 = 6 then
  (hw_gI (hw_q 12) 22 (some x0) σ).bind fun v87 =>
  some v87
  else
  some ((-1) : Int32))))))))
set_option maxRecDepth 100000 in
theorem w12_count_s {p : Program} {l : Launch} {e : Env} {s : State} {m : MethodId} {args : Array Value} {below : List Frame} {meth : Method} {c : Code} {D : hw_D} {b : Nat} {x0 : Nat} {l1 : Int32} {σ : hw_S} {r : Int32} (hm : m12_count x0 l1 σ = some r) (C0 : hw_C p s m args meth c D yX12_count cX12_count 2 (some .int)) (hR : hw_R D b σ s.heap) {ls : Array Slot} (hl : hw_L ls 2 255 [(0, hw_vr b (some x0)), (1, .int l1)]) : W p l e rm12_count s m args below meth c s.heap [] 0 0 (MQ below (hw_RI r) args s 0 0 hw_nof) (F0 m 0 ls []) := by
  obtain ⟨hx, hb, hml, hr, hown, hts, hlk, hE, hnm⟩ := id C0
  have hown : s.vm.findClass RX12 = some m.cls := hown
  have hK := hE.1
  unfold m12_count at hm
  refine lv_iload_n hx hb dX12_count_0 rfl (hl.at 1 rfl) ?_
  refine hw_case l1 (0) (fun c1_0 => ?_) (fun c1_0 => ?_)
  · have hm := hw_ip hm c1_0
    refine lv_tableIn (off := 43) (tgt := 44) hx hb dX12_count_1 (by rw [c1_0]; decide) (by rw [c1_0]; decide) (by rw [c1_0]; rfl) (by decide) ?_
    refine hw_aload_n hx hb dX12_count_44 rfl (hl.at 0 rfl) ?_
    obtain ⟨v45, e45, hm⟩ := hw_bs hm
    refine hw_getP hx hb hw_cf12 hts hown hK hR e45 (by decide) rfl (hts _ hw_m76) (fun _ h9 => h9) dX12_count_45 ?_
    refine lv_iconst (v := 0) hx hb dX12_count_48 (by decide) ?_
    obtain ⟨v49, e49, hm⟩ := hw_bs hm
    refine hw_iald hx hb hK hR e49 dX12_count_49 ?_
    exact hw_rRI hx hb hr hlk hm dX12_count_50
  · have hm := hw_in hm c1_0
    refine hw_case l1 (1) (fun c1_1 => ?_) (fun c1_1 => ?_)
    · have hm := hw_ip hm c1_1
      refine lv_tableIn (off := 50) (tgt := 51) hx hb dX12_count_1 (by rw [c1_1]; decide) (by rw [c1_1]; decide) (by rw [c1_1]; rfl) (by decide) ?_
      refine hw_aload_n hx hb dX12_count_51 rfl (hl.at 0 rfl) ?_
      obtain ⟨v52, e52, hm⟩ := hw_bs hm
      refine hw_getP hx hb hw_cf12 hts hown hK hR e52 (by decide) rfl (hts _ hw_m76) (fun _ h9 => h9) dX12_count_52 ?_
      refine lv_iconst (v := 1) hx hb dX12_count_55 (by decide) ?_
      obtain ⟨v56, e56, hm⟩ := hw_bs hm
      refine hw_iald hx hb hK hR e56 dX12_count_56 ?_
      exact hw_rRI hx hb hr hlk hm dX12_count_57
    · have hm := hw_in hm c1_1
      refine hw_case l1 (2) (fun c1_2 => ?_) (fun c1_2 => ?_)
      · have hm := hw_ip hm c1_2
        refine lv_tableIn (off := 57) (tgt := 58) hx hb dX12_count_1 (by rw [c1_2]; decide) (by rw [c1_2]; decide) (by rw [c1_2]; rfl) (by decide) ?_
        refine hw_aload_n hx hb dX12_count_58 rfl (hl.at 0 rfl) ?_
        obtain ⟨v59, e59, hm⟩ := hw_bs hm
        refine hw_getP hx hb hw_cf12 hts hown hK hR e59 (by decide) rfl (hts _ hw_m76) (fun _ h9 => h9) dX12_count_59 ?_
        refine lv_iconst (v := 2) hx hb dX12_count_62 (by decide) ?_
        obtain ⟨v63, e63, hm⟩ := hw_bs hm
        refine hw_iald hx hb hK hR e63 dX12_count_63 ?_
        exact hw_rRI hx hb hr hlk hm dX12_count_64
      · have hm := hw_in hm c1_2
        refine hw_case l1 (3) (fun c1_3 => ?_) (fun c1_3 => ?_)
        · have hm := hw_ip hm c1_3
          refine lv_tableIn (off := 64) (tgt := 65) hx hb dX12_count_1 (by rw [c1_3]; decide) (by rw [c1_3]; decide) (by rw [c1_3]; rfl) (by decide) ?_
          refine hw_aload_n hx hb dX12_count_65 rfl (hl.at 0 rfl) ?_
          obtain ⟨v66, e66, hm⟩ := hw_bs hm
          refine hw_getP hx hb hw_cf12 hts hown hK hR e66 (by decide) rfl (hts _ hw_m76) (fun _ h9 => h9) dX12_count_66 ?_
          refine lv_iconst (v := 3) hx hb dX12_count_69 (by decide) ?_
          obtain ⟨v70, e70, hm⟩ := hw_bs hm
          refine hw_iald hx hb hK hR e70 dX12_count_70 ?_
          exact hw_rRI hx hb hr hlk hm dX12_count_71
        · have hm := hw_in hm c1_3
          refine hw_case l1 (4) (fun c1_4 => ?_) (fun c1_4 => ?_)
          · have hm := hw_ip hm c1_4
            refine lv_tableIn (off := 71) (tgt := 72) hx hb dX12_count_1 (by rw [c1_4]; decide) (by rw [c1_4]; decide) (by rw [c1_4]; rfl) (by decide) ?_
            refine hw_aload_n hx hb dX12_count_72 rfl (hl.at 0 rfl) ?_
            obtain ⟨v73, e73, hm⟩ := hw_bs hm
            refine hw_getP hx hb hw_cf12 hts hown hK hR e73 (by decide) rfl (hts _ hw_m76) (fun _ h9 => h9) dX12_count_73 ?_
            refine lv_iconst (v := 4) hx hb dX12_count_76 (by decide) ?_
            obtain ⟨v77, e77, hm⟩ := hw_bs hm
            refine hw_iald hx hb hK hR e77 dX12_count_77 ?_
            exact hw_rRI hx hb hr hlk hm dX12_count_78
          · have hm := hw_in hm c1_4
            refine hw_case l1 (5) (fun c1_5 => ?_) (fun c1_5 => ?_)
            · have hm := hw_ip hm c1_5
              refine lv_tableIn (off := 78) (tgt := 79) hx hb dX12_count_1 (by rw [c1_5]; decide) (by rw [c1_5]; decide) (by rw [c1_5]; rfl) (by decide) ?_
              refine hw_aload_n hx hb dX12_count_79 rfl (hl.at 0 rfl) ?_
              obtain ⟨v80, e80, hm⟩ := hw_bs hm
              refine hw_getP hx hb hw_cf12 hts hown hK hR e80 (by decide) rfl (hts _ hw_m76) (fun _ h9 => h9) dX12_count_80 ?_
              refine lv_iconst (v := 5) hx hb dX12_count_83 (by decide) ?_
              obtain ⟨v84, e84, hm⟩ := hw_bs hm
              refine hw_iald hx hb hK hR e84 dX12_count_84 ?_
              exact hw_rRI hx hb hr hlk hm dX12_count_85
            · have hm := hw_in hm c1_5
              refine hw_case l1 (6) (fun c1_6 => ?_) (fun c1_6 => ?_)
              · have hm := hw_ip hm c1_6
                refine lv_tableIn (off := 85) (tgt := 86) hx hb dX12_count_1 (by rw [c1_6]; decide) (by rw [c1_6]; decide) (by rw [c1_6]; rfl) (by decide) ?_
                refine hw_aload_n hx hb dX12_count_86 rfl (hl.at 0 rfl) ?_
                obtain ⟨v87, e87, hm⟩ := hw_bs hm
                refine hw_getI hx hb hw_cf12 hts hown hK hR e87 (by decide) rfl (hts _ hw_m974) (fun _ h9 => h9) dX12_count_87 ?_
                exact hw_rRI hx hb hr hlk hm dX12_count_90
              · have hm := hw_in hm c1_6
                refine lv_tableOut (tgt := 91) hx hb dX12_count_1 (by have h0 := hw_ne (0) c1_0 rfl; have h1 := hw_ne (1) c1_1 rfl; have h2 := hw_ne (2) c1_2 rfl; have h3 := hw_ne (3) c1_3 rfl; have h4 := hw_ne (4) c1_4 rfl; have h5 := hw_ne (5) c1_5 rfl; have h6 := hw_ne (6) c1_6 rfl; omega) (by decide) ?_
                refine lv_iconst (v := (-1)) hx hb dX12_count_91 (by decide) ?_
                exact hw_rRI hx hb hr hlk hm dX12_count_92
set_option maxRecDepth 100000 in
theorem c12_count (l : Launch) (D : hw_D) (b : Nat) {x0 : Nat} {l1 : Int32} {σ : hw_S} {r : Int32} (hm : m12_count x0 l1 σ = some r) : Met l yX12_count (Cond.code yX12_count cX12_count 2 (some .int) :: wsL_law) rm12_count (hw_P1 D b σ [hw_vr b (some x0), .int l1]) (hw_RI r) 0 0 hw_nof := by
  refine hw_start1 (by decide +kernel) (by exact Nat.le_of_ble_eq_true rfl) ?_
  intro p e s m below meth c ls C0 hR hS hl
  have hl : lv_has ls 2 [(0, hw_vr b (some x0)), (1, .int l1)] := by exact hl
  exact w12_count_s hm C0 hR ⟨hl, (List.forall_mem_cons.mpr ⟨(fun h => by rw [show (hw_vr b (some x0) : Value).category = 1 from (hw_vr_cat _ _)] at h; cases h), (List.forall_mem_cons.mpr ⟨(fun h => absurd (show (1 : Nat) = 2 from h) (by decide)), (fun _ h => absurd h List.not_mem_nil)⟩)⟩)⟩
