abbrev rm12_offOf : Room := { frames := 4, cells := 0, slots := 0, locals := 110 }
def m12_offOf (x0 : Nat) (l1 : Int32) (l2 : Int32) (σ : hw_S) : Option (Int32 × hw_S) :=
  (hw_gP (hw_q 12) 1 (some x0) σ).bind fun v1 =>
  (hw_aI 0 v1 ((1372 : Int32) + l2) σ).bind fun v9 =>
  (hw_gP (hw_q 12) 1 (some x0) σ).bind fun v14 =>
  (hw_aI 0 v14 ((1360 : Int32) + l2) σ).bind fun v22 =>
  (hw_dv v9 (10000 : Int32)).bind fun v27 =>
  (hw_dv v9 (100 : Int32)).bind fun v31 =>
  (hw_rm v31 (100 : Int32)).bind fun v34 =>
  (hw_rm v9 (100 : Int32)).bind fun v38 =>
  (hw_rv (hw_q 12) (some x0) σ).bind fun a39 =>
  hw_b2 (m12_turnsOf x0 l1 v22 v27 v34 v38 σ) fun v39 σ39 =>
  (hw_gP (hw_q 12) 1 (some x0) σ39).bind fun v43 =>
  (hw_aI 0 v43 ((1384 : Int32) + l2) σ39).bind fun v51 =>
  (m12_size (v39 - v51)).bind fun v53 =>
  some (v53, σ39)
set_option maxRecDepth 100000 in
theorem w12_offOf_s {p : Program} {l : Launch} {e : Env} {s : State} {m : MethodId} {args : Array Value} {below : List Frame} {meth : Method} {c : Code} {D : hw_D} {b : Nat} {x0 : Nat} {l1 : Int32} {l2 : Int32} {σ : hw_S} {r : Int32} {τ : hw_S} {H : Heap} {locs : List Loc} (hm : m12_offOf x0 l1 l2 σ = some (r, τ)) (C0 : hw_C p s m args meth c D yX12_offOf cX12_offOf 4 (some .int)) (hR : hw_R D b σ H) (hS : va_S (fun q => b ≤ q) s.heap H locs) {ls : Array Slot} (hl : hw_L ls 4 255 [(0, hw_vr b (some x0)), (1, .int l1), (2, .int l2)]) : W p l e rm12_offOf s m args below meth c H locs 0 0 (MQ below (hw_QI D b τ r) args s 0 0 (fun q => b ≤ q)) (F0 m 0 ls []) := by
  obtain ⟨hx, hb, hml, hr, hown, hts, hlk, hE, hnm⟩ := id C0
  have hown : s.vm.findClass RX12 = some m.cls := hown
  have hK := hE.1
  unfold m12_offOf at hm
  refine hw_aload_n hx hb dX12_offOf_0 rfl (hl.at 0 rfl) ?_
  obtain ⟨v1, e1, hm⟩ := hw_bs hm
  refine hw_getP hx hb hw_cf12 hts hown hK hR e1 (by decide) rfl (hts _ hw_m76) (fun _ h9 => h9) dX12_offOf_1 ?_
  refine lv_sipush (v := 1372) hx hb dX12_offOf_4 (by decide) ?_
  refine lv_iload_n hx hb dX12_offOf_7 rfl (hl.at 2 rfl) ?_
  refine lv_iadd hx hb dX12_offOf_8 ?_
  obtain ⟨v9, e9, hm⟩ := hw_bs hm
  refine hw_iald hx hb hK hR e9 dX12_offOf_9 ?_
  refine hw_istore_n (lv' := [(3, .int v9), (0, hw_vr b (some x0)), (1, .int l1), (2, .int l2)]) hx hb dX12_offOf_10 rfl hl (by decide) (by decide) rfl (fun ls hl => ?_)
  refine hw_aload_n hx hb dX12_offOf_11 rfl (hl.at 1 rfl) ?_
  refine lv_iload_n hx hb dX12_offOf_12 rfl (hl.at 2 rfl) ?_
  refine hw_aload_n hx hb dX12_offOf_13 rfl (hl.at 1 rfl) ?_
  obtain ⟨v14, e14, hm⟩ := hw_bs hm
  refine hw_getP hx hb hw_cf12 hts hown hK hR e14 (by decide) rfl (hts _ hw_m76) (fun _ h9 => h9) dX12_offOf_14 ?_
  refine lv_sipush (v := 1360) hx hb dX12_offOf_17 (by decide) ?_
  refine lv_iload_n hx hb dX12_offOf_20 rfl (hl.at 3 rfl) ?_
  refine lv_iadd hx hb dX12_offOf_21 ?_
  obtain ⟨v22, e22, hm⟩ := hw_bs hm
  refine hw_iald hx hb hK hR e22 dX12_offOf_22 ?_
  refine lv_iload_n hx hb dX12_offOf_23 rfl (hl.at 0 rfl) ?_
  refine lv_sipush (v := 10000) hx hb dX12_offOf_24 (by decide) ?_
  obtain ⟨v27, e27, hm⟩ := hw_bs hm
  refine hw_idiv hx hb e27 dX12_offOf_27 ?_
  refine lv_iload_n hx hb dX12_offOf_28 rfl (hl.at 0 rfl) ?_
  refine lv_bipush (v := 100) hx hb dX12_offOf_29 (by decide) ?_
  obtain ⟨v31, e31, hm⟩ := hw_bs hm
  refine hw_idiv hx hb e31 dX12_offOf_31 ?_
  refine lv_bipush (v := 100) hx hb dX12_offOf_32 (by decide) ?_
  obtain ⟨v34, e34, hm⟩ := hw_bs hm
  refine hw_irem hx hb e34 dX12_offOf_34 ?_
  refine lv_iload_n hx hb dX12_offOf_35 rfl (hl.at 0 rfl) ?_
  refine lv_bipush (v := 100) hx hb dX12_offOf_36 (by decide) ?_
  obtain ⟨v38, e38, hm⟩ := hw_bs hm
  refine hw_irem hx hb e38 dX12_offOf_38 ?_
  obtain ⟨a39, g39, hm⟩ := hw_bs hm
  obtain ⟨rfl, ht39⟩ := hw_rv_th g39
  obtain ⟨v39, σ39, e39, hm⟩ := hw_bs2 hm
  refine hw_cWI (va_runV (As := [.int l1, .int v22, .int v27, .int v34, .int v38]) (rest := []) ⟨hx, hb, hml, hown, hts⟩ (c12_turnsOf l D b e39) (cwV 5 hts (hw_gV hw_m584 hw_m585 hw_m586 hw_m5 hw_m587) rfl rfl rfl (by decide +kernel) ⟨(Nat.le_of_ble_eq_true rfl), (Nat.le_of_ble_eq_true rfl)⟩) (hw_preV (ci := 12) hE hR rfl (by decide) (hw_q_of ht39)) rfl rfl hl.sz rfl (lv_room (Nat.le_of_ble_eq_true rfl)) dX12_offOf_39 ⟨(Nat.le_of_ble_eq_true rfl), (Nat.le_of_ble_eq_true rfl)⟩) hS (fun _ _ hR hS => ?_)
  refine hw_aload_n hx hb dX12_offOf_42 rfl (hl.at 1 rfl) ?_
  obtain ⟨v43, e43, hm⟩ := hw_bs hm
  refine hw_getP hx hb hw_cf12 hts hown hK hR e43 (by decide) rfl (hts _ hw_m76) (fun _ h9 => h9) dX12_offOf_43 ?_
  refine lv_sipush (v := 1384) hx hb dX12_offOf_46 (by decide) ?_
  refine lv_iload_n hx hb dX12_offOf_49 rfl (hl.at 3 rfl) ?_
  refine lv_iadd hx hb dX12_offOf_50 ?_
  obtain ⟨v51, e51, hm⟩ := hw_bs hm
  refine hw_iald hx hb hK hR e51 dX12_offOf_51 ?_
  refine lv_isub hx hb dX12_offOf_52 ?_
  obtain ⟨v53, e53, hm⟩ := hw_bs hm
  refine hw_cRI (va_runS (As := [.int (v39 - v51)]) (rest := []) ⟨hx, hb, hml, hown, hts⟩ (c12_size l D e53) (cwS 1 hts (hw_gS hw_m717 hw_m718 hw_m5 hw_m719) rfl rfl rfl (by decide +kernel) ⟨(Nat.le_of_ble_eq_true rfl), (Nat.le_of_ble_eq_true rfl)⟩) (hw_pre0 hE) rfl rfl hl.sz rfl (lv_room (Nat.le_of_ble_eq_true rfl)) dX12_offOf_53 ⟨(Nat.le_of_ble_eq_true rfl), (Nat.le_of_ble_eq_true rfl)⟩) ?_
  exact hw_rWI hx hb hr hlk hR hS hm dX12_offOf_56
set_option maxRecDepth 100000 in
theorem c12_offOf (l : Launch) (D : hw_D) (b : Nat) {x0 : Nat} {l1 : Int32} {l2 : Int32} {σ : hw_S} {r : Int32} {τ : hw_S} (hm : m12_offOf x0 l1 l2 σ = some (r, τ)) : Met l yX12_offOf (Cond.code yX12_offOf cX12_offOf 4 (some .int) :: wsL_law) rm12_offOf (hw_P1 D b σ [hw_vr b (some x0), .int l1, .int l2]) (hw_QI D b τ r) 0 0 (fun q => b ≤ q) := by
  refine hw_start1 (by decide +kernel) (by exact Nat.le_of_ble_eq_true rfl) ?_
  intro p e s m below meth c ls C0 hR hS hl
  have hl : lv_has ls 4 [(0, hw_vr b (some x0)), (1, .int l1), (2, .int l2)] := by exact hl
  exact w12_offOf_s hm C0 hR hS ⟨hl, (List.forall_mem_cons.mpr ⟨(fun h => by rw [show (hw_vr b (some x0) : Value).category = 1 from (hw_vr_cat _ _)] at h; cases h), (List.forall_mem_cons.mpr ⟨(fun h => absurd (show (1 : Nat) = 2 from h) (by decide)), (List.forall_mem_cons.mpr ⟨(fun h => absurd (show (1 : Nat) = 2 from h) (by decide)), (fun _ h => absurd h List.not_mem_nil)⟩)⟩)⟩)⟩

abbrev rm12_offAll : Room := { frames := 5, cells := 0, slots := 0, locals := 133 }
def m12_offAll_b4 : Nat → Nat → Int32 → Int32 → Int32 → hw_S → Option (Int32 × hw_S)
  | 0, _, _, _, _, _ => none
  | n + 1, x0, l1, l2, l3, σ =>
  (hw_gP (hw_q 12) 1 (some x0) σ).bind fun v6 =>
  (hw_aI 0 v6 (2 : Int32) σ).bind fun v10 =>
  (if v10 ≤ l3 then
  some (l2, σ)
  else
  (hw_rv (hw_q 12) (some x0) σ).bind fun a18 =>
  hw_b2 (m12_offOf x0 l1 l3 σ) fun v18 σ18 =>
  m12_offAll_b4 n x0 l1 (l2 + v18) (l3 + 1) σ18)
set_option maxRecDepth 100000 in
theorem w12_offAll_b4 {p : Program} {l : Launch} {e : Env} {s : State} {m : MethodId} {args : Array Value} {below : List Frame} {meth : Method} {c : Code} {D : hw_D} {b : Nat} {r : Int32} {τ : hw_S} (C0 : hw_C p s m args meth c D yX12_offAll cX12_offAll 4 (some .int)) : ∀ (n : Nat) {x0 : Nat} {l1 : Int32} {l2 : Int32} {l3 : Int32} {σ : hw_S} {H : Heap} {locs : List Loc} {ls : Array Slot}, m12_offAll_b4 n x0 l1 l2 l3 σ = some (r, τ) → hw_R D b σ H → va_S (fun q => b ≤ q) s.heap H locs → hw_L ls 4 255 [(0, hw_vr b (some x0)), (1, .int l1), (2, .int l2), (3, .int l3)] → W p l e rm12_offAll s m args below meth c H locs 0 0 (MQ below (hw_QI D b τ r) args s 0 0 (fun q => b ≤ q)) (F0 m 4 ls []) := by
  obtain ⟨hx, hb, hml, hr, hown, hts, hlk, hE, hnm⟩ := id C0
  have hown : s.vm.findClass RX12 = some m.cls := hown
  have hK := hE.1
  intro n
  induction n with
  | zero => intro _ _ _ _ _ _ _ _ hm; cases hm
  | succ n ih =>
    intro x0 l1 l2 l3 σ H locs ls hm hR hS hl
    rw [m12_offAll_b4] at hm
    refine lv_iload_n hx hb dX12_offAll_4 rfl (hl.at 3 rfl) ?_
    refine hw_aload_n hx hb dX12_offAll_5 rfl (hl.at 0 rfl) ?_
    obtain ⟨v6, e6, hm⟩ := hw_bs hm
    refine hw_getP hx hb hw_cf12 hts hown hK hR e6 (by decide) rfl (hts _ hw_m76) (fun _ h9 => h9) dX12_offAll_6 ?_
    refine lv_iconst (v := 2) hx hb dX12_offAll_9 (by decide) ?_
    obtain ⟨v10, e10, hm⟩ := hw_bs hm
    refine hw_iald hx hb hK hR e10 dX12_offAll_10 ?_
    refine lv_icmp_ge (tgt := 29) hx hb dX12_offAll_11 (by decide) (fun c11 => ?_) (fun c11 => ?_)
    · have hm := hw_ip hm c11
      refine lv_iload_n hx hb dX12_offAll_29 rfl (hl.at 2 rfl) ?_
      exact hw_rWI hx hb hr hlk hR hS hm dX12_offAll_30
    · have hm := hw_in hm c11
      refine lv_iload_n hx hb dX12_offAll_14 rfl (hl.at 2 rfl) ?_
      refine hw_aload_n hx hb dX12_offAll_15 rfl (hl.at 0 rfl) ?_
      refine lv_iload_n hx hb dX12_offAll_16 rfl (hl.at 1 rfl) ?_
      refine lv_iload_n hx hb dX12_offAll_17 rfl (hl.at 3 rfl) ?_
      obtain ⟨a18, g18, hm⟩ := hw_bs hm
      obtain ⟨rfl, ht18⟩ := hw_rv_th g18
      obtain ⟨v18, σ18, e18, hm⟩ := hw_bs2 hm
      refine hw_cWI (va_runV (As := [.int l1, .int l3]) (rest := [.int l2]) ⟨hx, hb, hml, hown, hts⟩ (c12_offOf l D b e18) (cwV 2 hts (hw_gV hw_m837 hw_m838 hw_m839 hw_m5 hw_m840) rfl rfl rfl (by decide +kernel) ⟨(Nat.le_of_ble_eq_true rfl), (Nat.le_of_ble_eq_true rfl)⟩) (hw_preV (ci := 12) hE hR rfl (by decide) (hw_q_of ht18)) rfl rfl hl.sz rfl (lv_room (Nat.le_of_ble_eq_true rfl)) dX12_offAll_18 ⟨(Nat.le_of_ble_eq_true rfl), (Nat.le_of_ble_eq_true rfl)⟩) hS (fun _ _ hR hS => ?_)
      refine lv_iadd hx hb dX12_offAll_21 ?_
      refine hw_istore_n (lv' := [(2, .int (l2 + v18)), (0, hw_vr b (some x0)), (1, .int l1), (3, .int l3)]) hx hb dX12_offAll_22 rfl hl (by decide) (by decide) rfl (fun ls hl => ?_)
      refine hw_iinc (v := (l3 + 1)) (lv' := [(3, .int (l3 + 1)), (2, .int (l2 + v18)), (0, hw_vr b (some x0)), (1, .int l1)]) hx hb dX12_offAll_23 hl (k := 3) rfl rfl (by decide) (by decide) rfl (fun ls hl => ?_)
      refine lv_goto (tgt := 4) hx hb dX12_offAll_26 (by decide) ?_
      exact ih hm hR hS (hl.sub [2, 3, 1, 0] rfl)
def m12_offAll (x0 : Nat) (l1 : Int32) (σ : hw_S) : Option (Int32 × hw_S) :=
  m12_offAll_b4 hw_fu x0 l1 (0 : Int32) (0 : Int32) σ
set_option maxRecDepth 100000 in
theorem w12_offAll_s {p : Program} {l : Launch} {e : Env} {s : State} {m : MethodId} {args : Array Value} {below : List Frame} {meth : Method} {c : Code} {D : hw_D} {b : Nat} {x0 : Nat} {l1 : Int32} {σ : hw_S} {r : Int32} {τ : hw_S} {H : Heap} {locs : List Loc} (hm : m12_offAll x0 l1 σ = some (r, τ)) (C0 : hw_C p s m args meth c D yX12_offAll cX12_offAll 4 (some .int)) (hR : hw_R D b σ H) (hS : va_S (fun q => b ≤ q) s.heap H locs) {ls : Array Slot} (hl : hw_L ls 4 255 [(0, hw_vr b (some x0)), (1, .int l1)]) : W p l e rm12_offAll s m args below meth c H locs 0 0 (MQ below (hw_QI D b τ r) args s 0 0 (fun q => b ≤ q)) (F0 m 0 ls []) := by
  obtain ⟨hx, hb, hml, hr, hown, hts, hlk, hE, hnm⟩ := id C0
  have hown : s.vm.findClass RX12 = some m.cls := hown
  have hK := hE.1
  unfold m12_offAll at hm
  refine lv_iconst (v := 0) hx hb dX12_offAll_0 (by decide) ?_
  refine hw_istore_n (lv' := [(2, .int (0 : Int32)), (0, hw_vr b (some x0)), (1, .int l1)]) hx hb dX12_offAll_1 rfl hl (by decide) (by decide) rfl (fun ls hl => ?_)
  refine lv_iconst (v := 0) hx hb dX12_offAll_2 (by decide) ?_
  refine hw_istore_n (lv' := [(3, .int (0 : Int32)), (2, .int (0 : Int32)), (0, hw_vr b (some x0)), (1, .int l1)]) hx hb dX12_offAll_3 rfl hl (by decide) (by decide) rfl (fun ls hl => ?_)
  exact w12_offAll_b4 C0 hw_fu hm hR hS (hl.sub [2, 3, 1, 0] rfl)
set_option maxRecDepth 100000 in
theorem c12_offAll (l : Launch) (D : hw_D) (b : Nat) {x0 : Nat} {l1 : Int32} {σ : hw_S} {r : Int32} {τ : hw_S} (hm : m12_offAll x0 l1 σ = some (r, τ)) : Met l yX12_offAll (Cond.code yX12_offAll cX12_offAll 4 (some .int) :: wsL_law) rm12_offAll (hw_P1 D b σ [hw_vr b (some x0), .int l1]) (hw_QI D b τ r) 0 0 (fun q => b ≤ q) := by
  refine hw_start1 (by decide +kernel) (by exact Nat.le_of_ble_eq_true rfl) ?_
  intro p e s m below meth c ls C0 hR hS hl
  have hl : lv_has ls 4 [(0, hw_vr b (some x0)), (1, .int l1)] := by exact hl
  exact w12_offAll_s hm C0 hR hS ⟨hl, (List.forall_mem_cons.mpr ⟨(fun h => by rw [show (hw_vr b (some x0) : Value).category = 1 from (hw_vr_cat _ _)] at h; cases h), (List.forall_mem_cons.mpr ⟨(fun h => absurd (show (1 : Nat) = 2 from h) (by decide)), (fun _ h => absurd h List.not_mem_nil)⟩)⟩)⟩

abbrev rm12_off : Room := { frames := 6, cells := 0, slots := 0, locals := 156 }
def m12_off_b17 (x0 : Nat) (t0 : Int32) (σ : hw_S) : Option (Int32 × hw_S) :=
  some (t0, σ)
set_option maxRecDepth 100000 in
theorem w12_off_b17 {p : Program} {l : Launch} {e : Env} {s : State} {m : MethodId} {args : Array Value} {below : List Frame} {meth : Method} {c : Code} {D : hw_D} {b : Nat} {r : Int32} {τ : hw_S} (C0 : hw_C p s m args meth c D yX12_off cX12_off 2 (some .int)) {x0 : Nat} {t0 : Int32} {σ : hw_S} {H : Heap} {locs : List Loc} (hm : m12_off_b17 x0 t0 σ = some (r, τ)) (hR : hw_R D b σ H) (hS : va_S (fun q => b ≤ q) s.heap H locs) {ls : Array Slot} (hl : hw_L ls 2 255 [(0, hw_vr b (some x0))]) : W p l e rm12_off s m args below meth c H locs 0 0 (MQ below (hw_QI D b τ r) args s 0 0 (fun q => b ≤ q)) (F0 m 17 ls [.int t0]) := by
  obtain ⟨hx, hb, hml, hr, hown, hts, hlk, hE, hnm⟩ := id C0
  have hown : s.vm.findClass RX12 = some m.cls := hown
  have hK := hE.1
  unfold m12_off_b17 at hm
  exact hw_rWI hx hb hr hlk hR hS hm dX12_off_17
def m12_off (x0 : Nat) (l1 : Int32) (σ : hw_S) : Option (Int32 × hw_S) :=
  (hw_rv (hw_q 12) (some x0) σ).bind fun a2 =>
  (m12_isLaw x0 l1 σ).bind fun v2 =>
  (if v2 = 0 then
  m12_off_b17 x0 ((-1) : Int32) σ
  else
  (hw_rv (hw_q 12) (some x0) σ).bind fun a10 =>
  hw_b2 (m12_offAll x0 l1 σ) fun v10 σ10 =>
  m12_off_b17 x0 v10 σ10)
set_option maxRecDepth 100000 in
theorem w12_off_s {p : Program} {l : Launch} {e : Env} {s : State} {m : MethodId} {args : Array Value} {below : List Frame} {meth : Method} {c : Code} {D : hw_D} {b : Nat} {x0 : Nat} {l1 : Int32} {σ : hw_S} {r : Int32} {τ : hw_S} {H : Heap} {locs : List Loc} (hm : m12_off x0 l1 σ = some (r, τ)) (C0 : hw_C p s m args meth c D yX12_off cX12_off 2 (some .int)) (hR : hw_R D b σ H) (hS : va_S (fun q => b ≤ q) s.heap H locs) {ls : Array Slot} (hl : hw_L ls 2 255 [(0, hw_vr b (some x0)), (1, .int l1)]) : W p l e rm12_off s m args below meth c H locs 0 0 (MQ below (hw_QI D b τ r) args s 0 0 (fun q => b ≤ q)) (F0 m 0 ls []) := by
  obtain ⟨hx, hb, hml, hr, hown, hts, hlk, hE, hnm⟩ := id C0
  have hown : s.vm.findClass RX12 = some m.cls := hown
  have hK := hE.1
  unfold m12_off at hm
  refine hw_aload_n hx hb dX12_off_0 rfl (hl.at 0 rfl) ?_
  refine lv_iload_n hx hb dX12_off_1 rfl (hl.at 1 rfl) ?_
  obtain ⟨a2, g2, hm⟩ := hw_bs hm
  obtain ⟨rfl, ht2⟩ := hw_rv_th g2
  obtain ⟨v2, e2, hm⟩ := hw_bs hm
  refine hw_cRI (va_runV (As := [.int l1]) (rest := []) ⟨hx, hb, hml, hown, hts⟩ (c12_isLaw l D b e2) (cwV 1 hts (hw_gV hw_m434 hw_m435 hw_m436 hw_m5 hw_m437) rfl rfl rfl (by decide +kernel) ⟨(Nat.le_of_ble_eq_true rfl), (Nat.le_of_ble_eq_true rfl)⟩) (hw_preV (ci := 12) hE hR rfl (by decide) (hw_q_of ht2)) rfl rfl hl.sz rfl (lv_room (Nat.le_of_ble_eq_true rfl)) dX12_off_2 ⟨(Nat.le_of_ble_eq_true rfl), (Nat.le_of_ble_eq_true rfl)⟩) ?_
  refine lv_if_eq (tgt := 16) hx hb dX12_off_5 (by decide) (fun c5 => ?_) (fun c5 => ?_)
  · have hm := hw_ip hm c5
    refine lv_iconst (v := (-1)) hx hb dX12_off_16 (by decide) ?_
    exact w12_off_b17 C0 hm hR hS (hl.sub [0] rfl)
  · have hm := hw_in hm c5
    refine hw_aload_n hx hb dX12_off_8 rfl (hl.at 0 rfl) ?_
    refine lv_iload_n hx hb dX12_off_9 rfl (hl.at 1 rfl) ?_
    obtain ⟨a10, g10, hm⟩ := hw_bs hm
    obtain ⟨rfl, ht10⟩ := hw_rv_th g10
    obtain ⟨v10, σ10, e10, hm⟩ := hw_bs2 hm
    refine hw_cWI (va_runV (As := [.int l1]) (rest := []) ⟨hx, hb, hml, hown, hts⟩ (c12_offAll l D b e10) (cwV 1 hts (hw_gV hw_m833 hw_m834 hw_m835 hw_m5 hw_m836) rfl rfl rfl (by decide +kernel) ⟨(Nat.le_of_ble_eq_true rfl), (Nat.le_of_ble_eq_true rfl)⟩) (hw_preV (ci := 12) hE hR rfl (by decide) (hw_q_of ht10)) rfl rfl hl.sz rfl (lv_room (Nat.le_of_ble_eq_true rfl)) dX12_off_10 ⟨(Nat.le_of_ble_eq_true rfl), (Nat.le_of_ble_eq_true rfl)⟩) hS (fun _ _ hR hS => ?_)
    refine lv_goto (tgt := 17) hx hb dX12_off_13 (by decide) ?_
    exact w12_off_b17 C0 hm hR hS (hl.sub [0] rfl)
set_option maxRecDepth 100000 in
theorem c12_off (l : Launch) (D : hw_D) (b : Nat) {x0 : Nat} {l1 : Int32} {σ : hw_S} {r : Int32} {τ : hw_S} (hm : m12_off x0 l1 σ = some (r, τ)) : Met l yX12_off (Cond.code yX12_off cX12_off 2 (some .int) :: wsL_law) rm12_off (hw_P1 D b σ [hw_vr b (some x0), .int l1]) (hw_QI D b τ r) 0 0 (fun q => b ≤ q) := by
  refine hw_start1 (by decide +kernel) (by exact Nat.le_of_ble_eq_true rfl) ?_
  intro p e s m below meth c ls C0 hR hS hl
  have hl : lv_has ls 2 [(0, hw_vr b (some x0)), (1, .int l1)] := by exact hl
  exact w12_off_s hm C0 hR hS ⟨hl, (List.forall_mem_cons.mpr ⟨(fun h => by rw [show (hw_vr b (some x0) : Value).category = 1 from (hw_vr_cat _ _)] at h; cases h), (List.forall_mem_cons.mpr ⟨(fun h => absurd (show (1 : Nat) = 2 from h) (by decide)), (fun _ h => absurd h List.not_mem_nil)⟩)⟩)⟩

abbrev rm11_which : Room := { frames := 7, cells := 0, slots := 0, locals := 163 }
def m11_which_b60 (k7 : Nat → Int32 → Int32 → Int32 → hw_S → Option Int32) (x0 : Nat) (l1 : Int32) (l2 : Int32) (l3 : Int32) (σ : hw_S) : Option Int32 :=
  k7 x0 l1 l2 (l3 + 1) σ
set_option maxRecDepth 100000 in
theorem w11_which_b60 {p : Program} {l : Launch} {e : Env} {s : State} {m : MethodId} {args : Array Value} {below : List Frame} {meth : Method} {c : Code} {D : hw_D} {b : Nat} {k7 : Nat → Int32 → Int32 → Int32 → hw_S → Option Int32} {r : Int32} (C0 : hw_C p s m args meth c D yX11_which cX11_which 6 (some .int)) (hk7 : ∀ {x0 : Nat} {l1 : Int32} {l2 : Int32} {l3 : Int32} {σ : hw_S} {ls : Array Slot}, k7 x0 l1 l2 l3 σ = some r → hw_R D b σ s.heap → hw_L ls 6 255 [(0, hw_vr b (some x0)), (1, .int l1), (2, .int l2), (3, .int l3)] → W p l e rm11_which s m args below meth c s.heap [] 0 0 (MQ below (hw_RI r) args s 0 0 hw_nof) (F0 m 7 ls [])) {x0 : Nat} {l1 : Int32} {l2 : Int32} {l3 : Int32} {σ : hw_S} (hm : m11_which_b60 k7 x0 l1 l2 l3 σ = some r) (hR : hw_R D b σ s.heap) {ls : Array Slot} (hl : hw_L ls 6 255 [(0, hw_vr b (some x0)), (1, .int l1), (2, .int l2), (3, .int l3)]) : W p l e rm11_which s m args below meth c s.heap [] 0 0 (MQ below (hw_RI r) args s 0 0 hw_nof) (F0 m 60 ls []) := by
  obtain ⟨hx, hb, hml, hr, hown, hts, hlk, hE, hnm⟩ := id C0
  have hown : s.vm.findClass RX11 = some m.cls := hown
  have hK := hE.1
  unfold m11_which_b60 at hm
  refine hw_iinc (v := (l3 + 1)) (lv' := [(3, .int (l3 + 1)), (0, hw_vr b (some x0)), (1, .int l1), (2, .int l2)]) hx hb dX11_which_60 hl (k := 3) rfl rfl (by decide) (by decide) rfl (fun ls hl => ?_)
  refine lv_goto (tgt := 7) hx hb dX11_which_63 (by decide) ?_
  exact hk7 hm hR (hl.sub [1, 2, 3, 0] rfl)
def m11_which_b55 (k7 : Nat → Int32 → Int32 → Int32 → hw_S → Option Int32) (x0 : Nat) (l3 : Int32) (l5 : Int32) (σ : hw_S) : Option Int32 :=
  m11_which_b60 k7 x0 l3 l5 l3 σ
set_option maxRecDepth 100000 in
theorem w11_which_b55 {p : Program} {l : Launch} {e : Env} {s : State} {m : MethodId} {args : Array Value} {below : List Frame} {meth : Method} {c : Code} {D : hw_D} {b : Nat} {k7 : Nat → Int32 → Int32 → Int32 → hw_S → Option Int32} {r : Int32} (C0 : hw_C p s m args meth c D yX11_which cX11_which 6 (some .int)) (hk7 : ∀ {x0 : Nat} {l1 : Int32} {l2 : Int32} {l3 : Int32} {σ : hw_S} {ls : Array Slot}, k7 x0 l1 l2 l3 σ = some r → hw_R D b σ s.heap → hw_L ls 6 255 [(0, hw_vr b (some x0)), (1, .int l1), (2, .int l2), (3, .int l3)] → W p l e rm11_which s m args below meth c s.heap [] 0 0 (MQ below (hw_RI r) args s 0 0 hw_nof) (F0 m 7 ls [])) {x0 : Nat} {l3 : Int32} {l5 : Int32} {σ : hw_S} (hm : m11_which_b55 k7 x0 l3 l5 σ = some r) (hR : hw_R D b σ s.heap) {ls : Array Slot} (hl : hw_L ls 6 255 [(0, hw_vr b (some x0)), (3, .int l3), (5, .int l5)]) : W p l e rm11_which s m args below meth c s.heap [] 0 0 (MQ below (hw_RI r) args s 0 0 hw_nof) (F0 m 55 ls []) := by
  obtain ⟨hx, hb, hml, hr, hown, hts, hlk, hE, hnm⟩ := id C0
  have hown : s.vm.findClass RX11 = some m.cls := hown
  have hK := hE.1
  unfold m11_which_b55 at hm
  refine lv_iload_n hx hb dX11_which_55 rfl (hl.at 1 rfl) ?_
  refine hw_istore_n (lv' := [(1, .int l3), (0, hw_vr b (some x0)), (3, .int l3), (5, .int l5)]) hx hb dX11_which_56 rfl hl (by decide) (by decide) rfl (fun ls hl => ?_)
  refine lv_iload hx hb dX11_which_57 (hl.at 3 rfl) ?_
  refine hw_istore_n (lv' := [(2, .int l5), (1, .int l3), (0, hw_vr b (some x0)), (3, .int l3), (5, .int l5)]) hx hb dX11_which_59 rfl hl (by decide) (by decide) rfl (fun ls hl => ?_)
  exact w11_which_b60 C0 hk7 hm hR (hl.sub [2, 1, 0, 3] rfl)
def m11_which_b41 (k7 : Nat → Int32 → Int32 → Int32 → hw_S → Option Int32) (x0 : Nat) (l1 : Int32) (l2 : Int32) (l3 : Int32) (t0 : Int32) (σ : hw_S) : Option Int32 :=
  (if l1 = ((-5) : Int32) then
  m11_which_b55 k7 x0 l3 t0 σ
  else
  (if l2 ≤ t0 then
  m11_which_b60 k7 x0 l1 l2 l3 σ
  else
  m11_which_b55 k7 x0 l3 t0 σ))
set_option maxRecDepth 100000 in
theorem w11_which_b41 {p : Program} {l : Launch} {e : Env} {s : State} {m : MethodId} {args : Array Value} {below : List Frame} {meth : Method} {c : Code} {D : hw_D} {b : Nat} {k7 : Nat → Int32 → Int32 → Int32 → hw_S → Option Int32} {r : Int32} (C0 : hw_C p s m args meth c D yX11_which cX11_which 6 (some .int)) (hk7 : ∀ {x0 : Nat} {l1 : Int32} {l2 : Int32} {l3 : Int32} {σ : hw_S} {ls : Array Slot}, k7 x0 l1 l2 l3 σ = some r → hw_R D b σ s.heap → hw_L ls 6 255 [(0, hw_vr b (some x0)), (1, .int l1), (2, .int l2), (3, .int l3)] → W p l e rm11_which s m args below meth c s.heap [] 0 0 (MQ below (hw_RI r) args s 0 0 hw_nof) (F0 m 7 ls [])) {x0 : Nat} {l1 : Int32} {l2 : Int32} {l3 : Int32} {t0 : Int32} {σ : hw_S} (hm : m11_which_b41 k7 x0 l1 l2 l3 t0 σ = some r) (hR : hw_R D b σ s.heap) {ls : Array Slot} (hl : hw_L ls 6 255 [(0, hw_vr b (some x0)), (1, .int l1), (2, .int l2), (3, .int l3)]) : W p l e rm11_which s m args below meth c s.heap [] 0 0 (MQ below (hw_RI r) args s 0 0 hw_nof) (F0 m 41 ls [.int t0]) := by
  obtain ⟨hx, hb, hml, hr, hown, hts, hlk, hE, hnm⟩ := id C0
  have hown : s.vm.findClass RX11 = some m.cls := hown
  have hK := hE.1
  unfold m11_which_b41 at hm
  refine hw_istore (lv' := [(5, .int t0), (0, hw_vr b (some x0)), (1, .int l1), (2, .int l2), (3, .int l3)]) hx hb dX11_which_41 hl (by decide) (by decide) rfl (fun ls hl => ?_)
  refine lv_iload_n hx hb dX11_which_43 rfl (hl.at 2 rfl) ?_
  refine lv_bipush (v := (-5)) hx hb dX11_which_44 (by decide) ?_
  refine lv_icmp_eq (tgt := 55) hx hb dX11_which_46 (by decide) (fun c46 => ?_) (fun c46 => ?_)
  · have hm := hw_ip hm c46
    exact w11_which_b55 C0 hk7 hm hR (hl.sub [1, 4, 0] rfl)
  · have hm := hw_in hm c46
    refine lv_iload hx hb dX11_which_49 (hl.at 0 rfl) ?_
    refine lv_iload_n hx hb dX11_which_51 rfl (hl.at 3 rfl) ?_
    refine lv_icmp_ge (tgt := 60) hx hb dX11_which_52 (by decide) (fun c52 => ?_) (fun c52 => ?_)
    · have hm := hw_ip hm c52
      exact w11_which_b60 C0 hk7 hm hR (hl.sub [1, 2, 3, 4] rfl)
    · have hm := hw_in hm c52
      exact w11_which_b55 C0 hk7 hm hR (hl.sub [1, 4, 0] rfl)
def m11_which_b7 : Nat → Nat → Int32 → Int32 → Int32 → hw_S → Option Int32
  | 0, _, _, _, _, _ => none
  | n + 1, x0, l1, l2, l3, σ =>
  (hw_gP (hw_q 11) 0 (some x0) σ).bind fun v9 =>
  (hw_gI (hw_q 8) 3 v9 σ).bind fun v12 =>
  (if v12 ≤ l3 then
  some l1
  else
  (hw_rv (hw_q 11) (some x0) σ).bind fun a20 =>
  (m11_lawAt x0 l3 σ).bind fun v20 =>
  (if v20 = none then
  m11_which_b41 (m11_which_b7 n) x0 l1 l2 l3 (1000000 : Int32) σ
  else
  (hw_rv (hw_q 11) (some x0) σ).bind fun a38 =>
  (m11_offAllFilms x0 v20 σ).bind fun v38 =>
  m11_which_b41 (m11_which_b7 n) x0 l1 l2 l3 v38 σ))
set_option maxRecDepth 100000 in
theorem w11_which_b7 {p : Program} {l : Launch} {e : Env} {s : State} {m : MethodId} {args : Array Value} {below : List Frame} {meth : Method} {c : Code} {D : hw_D} {b : Nat} {r : Int32} (C0 : hw_C p s m args meth c D yX11_which cX11_which 6 (some .int)) : ∀ (n : Nat) {x0 : Nat} {l1 : Int32} {l2 : Int32} {l3 : Int32} {σ : hw_S} {ls : Array Slot}, m11_which_b7 n x0 l1 l2 l3 σ = some r → hw_R D b σ s.heap → hw_L ls 6 255 [(0, hw_vr b (some x0)), (1, .int l1), (2, .int l2), (3, .int l3)] → W p l e rm11_which s m args below meth c s.heap [] 0 0 (MQ below (hw_RI r) args s 0 0 hw_nof) (F0 m 7 ls []) := by
  obtain ⟨hx, hb, hml, hr, hown, hts, hlk, hE, hnm⟩ := id C0
  have hown : s.vm.findClass RX11 = some m.cls := hown
  have hK := hE.1
  intro n
  induction n with
  | zero => intro _ _ _ _ _ _ hm; cases hm
  | succ n ih =>
    intro x0 l1 l2 l3 σ ls hm hR hl
    rw [m11_which_b7] at hm
    refine lv_iload_n hx hb dX11_which_7 rfl (hl.at 3 rfl) ?_
    refine hw_aload_n hx hb dX11_which_8 rfl (hl.at 0 rfl) ?_
    obtain ⟨v9, e9, hm⟩ := hw_bs hm
    refine hw_getP hx hb hw_cf11 hts hown hK hR e9 (by decide) rfl (hts _ hw_m16) (fun _ h9 => h9) dX11_which_9 ?_
    obtain ⟨v12, e12, hm⟩ := hw_bs hm
    refine hw_getI hx hb hw_cf8 hts hown hK hR e12 (by decide) rfl (hts _ hw_m148) (fun _ h9 => h9) dX11_which_12 ?_
    refine lv_icmp_ge (tgt := 66) hx hb dX11_which_15 (by decide) (fun c15 => ?_) (fun c15 => ?_)
    · have hm := hw_ip hm c15
      refine lv_iload_n hx hb dX11_which_66 rfl (hl.at 1 rfl) ?_
      exact hw_rRI hx hb hr hlk hm dX11_which_67
    · have hm := hw_in hm c15
      refine hw_aload_n hx hb dX11_which_18 rfl (hl.at 0 rfl) ?_
      refine lv_iload_n hx hb dX11_which_19 rfl (hl.at 3 rfl) ?_
      obtain ⟨a20, g20, hm⟩ := hw_bs hm
      obtain ⟨rfl, ht20⟩ := hw_rv_th g20
      obtain ⟨v20, e20, hm⟩ := hw_bs hm
      refine hw_cRP (va_runV (As := [.int l3]) (rest := []) ⟨hx, hb, hml, hown, hts⟩ (c11_lawAt l D b e20) (cwV 1 hts (hw_gV hw_m426 hw_m427 hw_m428 hw_m2 hw_m429) rfl rfl rfl (by decide +kernel) ⟨(Nat.le_of_ble_eq_true rfl), (Nat.le_of_ble_eq_true rfl)⟩) (hw_preV (ci := 11) hE hR rfl (by decide) (hw_q_of ht20)) rfl rfl hl.sz rfl (lv_room (Nat.le_of_ble_eq_true rfl)) dX11_which_20 ⟨(Nat.le_of_ble_eq_true rfl), (Nat.le_of_ble_eq_true rfl)⟩) ?_
      refine hw_asto (lv' := [(4, hw_vr b v20), (0, hw_vr b (some x0)), (1, .int l1), (2, .int l2), (3, .int l3)]) hx hb dX11_which_23 hl (by decide) (by decide) rfl (fun ls hl => ?_)
      refine hw_aload hx hb dX11_which_25 (hl.at 0 rfl) ?_
      refine hw_ifnonnull (tgt := 35) hx hb dX11_which_27 (by decide) (fun c27 => ?_) (fun c27 => ?_)
      · have hm := hw_in hm c27
        refine hw_aload_n hx hb dX11_which_35 rfl (hl.at 1 rfl) ?_
        refine hw_aload hx hb dX11_which_36 (hl.at 0 rfl) ?_
        obtain ⟨a38, g38, hm⟩ := hw_bs hm
        obtain ⟨rfl, ht38⟩ := hw_rv_th g38
        obtain ⟨v38, e38, hm⟩ := hw_bs hm
        refine hw_cRI (va_runV (As := [hw_vr b v20]) (rest := []) ⟨hx, hb, hml, hown, hts⟩ (c11_offAllFilms l D b e38) (cwV 1 hts (hw_gV hw_m821 hw_m822 hw_m823 hw_m2 hw_m824) rfl rfl rfl (by decide +kernel) ⟨(Nat.le_of_ble_eq_true rfl), (Nat.le_of_ble_eq_true rfl)⟩) (hw_preV (ci := 11) hE hR rfl (by decide) (hw_q_of ht38)) rfl rfl hl.sz rfl (lv_room (Nat.le_of_ble_eq_true rfl)) dX11_which_38 ⟨(Nat.le_of_ble_eq_true rfl), (Nat.le_of_ble_eq_true rfl)⟩) ?_
        exact w11_which_b41 C0 ih hm hR (hl.sub [1, 2, 3, 4] rfl)
      · have hm := hw_ip hm c27
        refine lv_ldc (v := 1000000) hx hb hown (hts _ hw_m761) dX11_which_30 ?_
        refine lv_goto (tgt := 41) hx hb dX11_which_32 (by decide) ?_
        exact w11_which_b41 C0 ih hm hR (hl.sub [1, 2, 3, 4] rfl)
def m11_which (x0 : Nat) (σ : hw_S) : Option Int32 :=
  m11_which_b7 hw_fu x0 ((-5) : Int32) (0 : Int32) (0 : Int32) σ
set_option maxRecDepth 100000 in
theorem w11_which_s {p : Program} {l : Launch} {e : Env} {s : State} {m : MethodId} {args : Array Value} {below : List Frame} {meth : Method} {c : Code} {D : hw_D} {b : Nat} {x0 : Nat} {σ : hw_S} {r : Int32} (hm : m11_which x0 σ = some r) (C0 : hw_C p s m args meth c D yX11_which cX11_which 6 (some .int)) (hR : hw_R D b σ s.heap) {ls : Array Slot} (hl : hw_L ls 6 255 [(0, hw_vr b (some x0))]) : W p l e rm11_which s m args below meth c s.heap [] 0 0 (MQ below (hw_RI r) args s 0 0 hw_nof) (F0 m 0 ls []) := by
  obtain ⟨hx, hb, hml, hr, hown, hts, hlk, hE, hnm⟩ := id C0
  have hown : s.vm.findClass RX11 = some m.cls := hown
  have hK := hE.1
  unfold m11_which at hm
  refine lv_bipush (v := (-5)) hx hb dX11_which_0 (by decide) ?_
  refine hw_istore_n (lv' := [(1, .int ((-5) : Int32)), (0, hw_vr b (some x0))]) hx hb dX11_which_2 rfl hl (by decide) (by decide) rfl (fun ls hl => ?_)
  refine lv_iconst (v := 0) hx hb dX11_which_3 (by decide) ?_
  refine hw_istore_n (lv' := [(2, .int (0 : Int32)), (1, .int ((-5) : Int32)), (0, hw_vr b (some x0))]) hx hb dX11_which_4 rfl hl (by decide) (by decide) rfl (fun ls hl => ?_)
  refine lv_iconst (v := 0) hx hb dX11_which_5 (by decide) ?_
  refine hw_istore_n (lv' := [(3, .int (0 : Int32)), (2, .int (0 : Int32)), (1, .int ((-5) : Int32)), (0, hw_vr b (some x0))]) hx hb dX11_which_6 rfl hl (by decide) (by decide) rfl (fun ls hl => ?_)
  exact w11_which_b7 C0 hw_fu hm hR (hl.sub [3, 2, 1, 0] rfl)
set_option maxRecDepth 100000 in
theorem c11_which (l : Launch) (D : hw_D) (b : Nat) {x0 : Nat} {σ : hw_S} {r : Int32} (hm : m11_which x0 σ = some r) : Met l yX11_which (Cond.code yX11_which cX11_which 6 (some .int) :: wsL_law) rm11_which (hw_P1 D b σ [hw_vr b (some x0)]) (hw_RI r) 0 0 hw_nof := by
  refine hw_start1 (by decide +kernel) (by exact Nat.le_of_ble_eq_true rfl) ?_
  intro p e s m below meth c ls C0 hR hS hl
  have hl : lv_has ls 6 [(0, hw_vr b (some x0))] := by exact hl
  exact w11_which_s hm C0 hR ⟨hl, (List.forall_mem_cons.mpr ⟨(fun h => by rw [show (hw_vr b (some x0) : Value).category = 1 from (hw_vr_cat _ _)] at h; cases h), (fun _ h => absurd h List.not_mem_nil)⟩)⟩

abbrev rm12_which : Room := { frames := 6, cells := 0, slots := 0, locals := 156 }
def m12_which_b65 (k7 : Nat → Int32 → Int32 → Int32 → hw_S → Option (Int32 × hw_S)) (x0 : Nat) (l1 : Int32) (l3 : Int32) (t0 : Int32) (σ : hw_S) : Option (Int32 × hw_S) :=
  k7 x0 l1 t0 (l3 + 1) σ
set_option maxRecDepth 100000 in
theorem w12_which_b65 {p : Program} {l : Launch} {e : Env} {s : State} {m : MethodId} {args : Array Value} {below : List Frame} {meth : Method} {c : Code} {D : hw_D} {b : Nat} {k7 : Nat → Int32 → Int32 → Int32 → hw_S → Option (Int32 × hw_S)} {r : Int32} {τ : hw_S} (C0 : hw_C p s m args meth c D yX12_which cX12_which 6 (some .int)) (hk7 : ∀ {x0 : Nat} {l1 : Int32} {l2 : Int32} {l3 : Int32} {σ : hw_S} {H : Heap} {locs : List Loc} {ls : Array Slot}, k7 x0 l1 l2 l3 σ = some (r, τ) → hw_R D b σ H → va_S (fun q => b ≤ q) s.heap H locs → hw_L ls 6 255 [(0, hw_vr b (some x0)), (1, .int l1), (2, .int l2), (3, .int l3)] → W p l e rm12_which s m args below meth c H locs 0 0 (MQ below (hw_QI D b τ r) args s 0 0 (fun q => b ≤ q)) (F0 m 7 ls [])) {x0 : Nat} {l1 : Int32} {l3 : Int32} {t0 : Int32} {σ : hw_S} {H : Heap} {locs : List Loc} (hm : m12_which_b65 k7 x0 l1 l3 t0 σ = some (r, τ)) (hR : hw_R D b σ H) (hS : va_S (fun q => b ≤ q) s.heap H locs) {ls : Array Slot} (hl : hw_L ls 6 255 [(0, hw_vr b (some x0)), (1, .int l1), (3, .int l3)]) : W p l e rm12_which s m args below meth c H locs 0 0 (MQ below (hw_QI D b τ r) args s 0 0 (fun q => b ≤ q)) (F0 m 65 ls [.int t0]) := by
  obtain ⟨hx, hb, hml, hr, hown, hts, hlk, hE, hnm⟩ := id C0
  have hown : s.vm.findClass RX12 = some m.cls := hown
  have hK := hE.1
  unfold m12_which_b65 at hm
  refine hw_istore_n (lv' := [(2, .int t0), (0, hw_vr b (some x0)), (1, .int l1), (3, .int l3)]) hx hb dX12_which_65 rfl hl (by decide) (by decide) rfl (fun ls hl => ?_)
  refine hw_iinc (v := (l3 + 1)) (lv' := [(3, .int (l3 + 1)), (2, .int t0), (0, hw_vr b (some x0)), (1, .int l1)]) hx hb dX12_which_66 hl (k := 3) rfl rfl (by decide) (by decide) rfl (fun ls hl => ?_)
  refine lv_goto (tgt := 7) hx hb dX12_which_69 (by decide) ?_
  exact hk7 hm hR hS (hl.sub [2, 3, 1, 0] rfl)
def m12_which_b53 (k7 : Nat → Int32 → Int32 → Int32 → hw_S → Option (Int32 × hw_S)) (x0 : Nat) (l2 : Int32) (l3 : Int32) (l4 : Int32) (l5 : Int32) (t0 : Int32) (σ : hw_S) : Option (Int32 × hw_S) :=
  (if l5 = 0 then
  m12_which_b65 k7 x0 t0 l3 l2 σ
  else
  m12_which_b65 k7 x0 t0 l3 l4 σ)
set_option maxRecDepth 100000 in
theorem w12_which_b53 {p : Program} {l : Launch} {e : Env} {s : State} {m : MethodId} {args : Array Value} {below : List Frame} {meth : Method} {c : Code} {D : hw_D} {b : Nat} {k7 : Nat → Int32 → Int32 → Int32 → hw_S → Option (Int32 × hw_S)} {r : Int32} {τ : hw_S} (C0 : hw_C p s m args meth c D yX12_which cX12_which 6 (some .int)) (hk7 : ∀ {x0 : Nat} {l1 : Int32} {l2 : Int32} {l3 : Int32} {σ : hw_S} {H : Heap} {locs : List Loc} {ls : Array Slot}, k7 x0 l1 l2 l3 σ = some (r, τ) → hw_R D b σ H → va_S (fun q => b ≤ q) s.heap H locs → hw_L ls 6 255 [(0, hw_vr b (some x0)), (1, .int l1), (2, .int l2), (3, .int l3)] → W p l e rm12_which s m args below meth c H locs 0 0 (MQ below (hw_QI D b τ r) args s 0 0 (fun q => b ≤ q)) (F0 m 7 ls [])) {x0 : Nat} {l2 : Int32} {l3 : Int32} {l4 : Int32} {l5 : Int32} {t0 : Int32} {σ : hw_S} {H : Heap} {locs : List Loc} (hm : m12_which_b53 k7 x0 l2 l3 l4 l5 t0 σ = some (r, τ)) (hR : hw_R D b σ H) (hS : va_S (fun q => b ≤ q) s.heap H locs) {ls : Array Slot} (hl : hw_L ls 6 255 [(0, hw_vr b (some x0)), (2, .int l2), (3, .int l3), (4, .int l4), (5, .int l5)]) : W p l e rm12_which s m args below meth c H locs 0 0 (MQ below (hw_QI D b τ r) args s 0 0 (fun q => b ≤ q)) (F0 m 53 ls [.int t0]) := by
  obtain ⟨hx, hb, hml, hr, hown, hts, hlk, hE, hnm⟩ := id C0
  have hown : s.vm.findClass RX12 = some m.cls := hown
  have hK := hE.1
  unfold m12_which_b53 at hm
  refine hw_istore_n (lv' := [(1, .int t0), (0, hw_vr b (some x0)), (2, .int l2), (3, .int l3), (4, .int l4), (5, .int l5)]) hx hb dX12_which_53 rfl hl (by decide) (by decide) rfl (fun ls hl => ?_)
  refine lv_iload hx hb dX12_which_54 (hl.at 5 rfl) ?_
  refine lv_if_eq (tgt := 64) hx hb dX12_which_56 (by decide) (fun c56 => ?_) (fun c56 => ?_)
  · have hm := hw_ip hm c56
    refine lv_iload_n hx hb dX12_which_64 rfl (hl.at 2 rfl) ?_
    exact w12_which_b65 C0 hk7 hm hR hS (hl.sub [1, 0, 3] rfl)
  · have hm := hw_in hm c56
    refine lv_iload hx hb dX12_which_59 (hl.at 4 rfl) ?_
    refine lv_goto (tgt := 65) hx hb dX12_which_61 (by decide) ?_
    exact w12_which_b65 C0 hk7 hm hR hS (hl.sub [1, 0, 3] rfl)
def m12_which_b41 (k7 : Nat → Int32 → Int32 → Int32 → hw_S → Option (Int32 × hw_S)) (x0 : Nat) (l1 : Int32) (l2 : Int32) (l3 : Int32) (l4 : Int32) (t0 : Int32) (σ : hw_S) : Option (Int32 × hw_S) :=
  (if t0 = 0 then
  m12_which_b53 k7 x0 l2 l3 l4 t0 l1 σ
  else
  m12_which_b53 k7 x0 l2 l3 l4 t0 l3 σ)
set_option maxRecDepth 100000 in
theorem w12_which_b41 {p : Program} {l : Launch} {e : Env} {s : State} {m : MethodId} {args : Array Value} {below : List Frame} {meth : Method} {c : Code} {D : hw_D} {b : Nat} {k7 : Nat → Int32 → Int32 → Int32 → hw_S → Option (Int32 × hw_S)} {r : Int32} {τ : hw_S} (C0 : hw_C p s m args meth c D yX12_which cX12_which 6 (some .int)) (hk7 : ∀ {x0 : Nat} {l1 : Int32} {l2 : Int32} {l3 : Int32} {σ : hw_S} {H : Heap} {locs : List Loc} {ls : Array Slot}, k7 x0 l1 l2 l3 σ = some (r, τ) → hw_R D b σ H → va_S (fun q => b ≤ q) s.heap H locs → hw_L ls 6 255 [(0, hw_vr b (some x0)), (1, .int l1), (2, .int l2), (3, .int l3)] → W p l e rm12_which s m args below meth c H locs 0 0 (MQ below (hw_QI D b τ r) args s 0 0 (fun q => b ≤ q)) (F0 m 7 ls [])) {x0 : Nat} {l1 : Int32} {l2 : Int32} {l3 : Int32} {l4 : Int32} {t0 : Int32} {σ : hw_S} {H : Heap} {locs : List Loc} (hm : m12_which_b41 k7 x0 l1 l2 l3 l4 t0 σ = some (r, τ)) (hR : hw_R D b σ H) (hS : va_S (fun q => b ≤ q) s.heap H locs) {ls : Array Slot} (hl : hw_L ls 6 255 [(0, hw_vr b (some x0)), (1, .int l1), (2, .int l2), (3, .int l3), (4, .int l4)]) : W p l e rm12_which s m args below meth c H locs 0 0 (MQ below (hw_QI D b τ r) args s 0 0 (fun q => b ≤ q)) (F0 m 41 ls [.int t0]) := by
  obtain ⟨hx, hb, hml, hr, hown, hts, hlk, hE, hnm⟩ := id C0
  have hown : s.vm.findClass RX12 = some m.cls := hown
  have hK := hE.1
  unfold m12_which_b41 at hm
  refine hw_istore (lv' := [(5, .int t0), (0, hw_vr b (some x0)), (1, .int l1), (2, .int l2), (3, .int l3), (4, .int l4)]) hx hb dX12_which_41 hl (by decide) (by decide) rfl (fun ls hl => ?_)
  refine lv_iload hx hb dX12_which_43 (hl.at 0 rfl) ?_
  refine lv_if_eq (tgt := 52) hx hb dX12_which_45 (by decide) (fun c45 => ?_) (fun c45 => ?_)
  · have hm := hw_ip hm c45
    refine lv_iload_n hx hb dX12_which_52 rfl (hl.at 2 rfl) ?_
    exact w12_which_b53 C0 hk7 hm hR hS (hl.sub [1, 3, 4, 5, 0] rfl)
  · have hm := hw_in hm c45
    refine lv_iload_n hx hb dX12_which_48 rfl (hl.at 4 rfl) ?_
    refine lv_goto (tgt := 53) hx hb dX12_which_49 (by decide) ?_
    exact w12_which_b53 C0 hk7 hm hR hS (hl.sub [1, 3, 4, 5, 0] rfl)
def m12_which_b36 (k7 : Nat → Int32 → Int32 → Int32 → hw_S → Option (Int32 × hw_S)) (x0 : Nat) (l1 : Int32) (l2 : Int32) (l3 : Int32) (l4 : Int32) (σ : hw_S) : Option (Int32 × hw_S) :=
  m12_which_b41 k7 x0 l1 l2 l3 l4 (1 : Int32) σ
set_option maxRecDepth 100000 in
theorem w12_which_b36 {p : Program} {l : Launch} {e : Env} {s : State} {m : MethodId} {args : Array Value} {below : List Frame} {meth : Method} {c : Code} {D : hw_D} {b : Nat} {k7 : Nat → Int32 → Int32 → Int32 → hw_S → Option (Int32 × hw_S)} {r : Int32} {τ : hw_S} (C0 : hw_C p s m args meth c D yX12_which cX12_which 6 (some .int)) (hk7 : ∀ {x0 : Nat} {l1 : Int32} {l2 : Int32} {l3 : Int32} {σ : hw_S} {H : Heap} {locs : List Loc} {ls : Array Slot}, k7 x0 l1 l2 l3 σ = some (r, τ) → hw_R D b σ H → va_S (fun q => b ≤ q) s.heap H locs → hw_L ls 6 255 [(0, hw_vr b (some x0)), (1, .int l1), (2, .int l2), (3, .int l3)] → W p l e rm12_which s m args below meth c H locs 0 0 (MQ below (hw_QI D b τ r) args s 0 0 (fun q => b ≤ q)) (F0 m 7 ls [])) {x0 : Nat} {l1 : Int32} {l2 : Int32} {l3 : Int32} {l4 : Int32} {σ : hw_S} {H : Heap} {locs : List Loc} (hm : m12_which_b36 k7 x0 l1 l2 l3 l4 σ = some (r, τ)) (hR : hw_R D b σ H) (hS : va_S (fun q => b ≤ q) s.heap H locs) {ls : Array Slot} (hl : hw_L ls 6 255 [(0, hw_vr b (some x0)), (1, .int l1), (2, .int l2), (3, .int l3), (4, .int l4)]) : W p l e rm12_which s m args below meth c H locs 0 0 (MQ below (hw_QI D b τ r) args s 0 0 (fun q => b ≤ q)) (F0 m 36 ls []) := by
  obtain ⟨hx, hb, hml, hr, hown, hts, hlk, hE, hnm⟩ := id C0
  have hown : s.vm.findClass RX12 = some m.cls := hown
  have hK := hE.1
  unfold m12_which_b36 at hm
  refine lv_iconst (v := 1) hx hb dX12_which_36 (by decide) ?_
  refine lv_goto (tgt := 41) hx hb dX12_which_37 (by decide) ?_
  exact w12_which_b41 C0 hk7 hm hR hS (hl.sub [0, 1, 2, 3, 4] rfl)
def m12_which_b7 : Nat → Nat → Int32 → Int32 → Int32 → hw_S → Option (Int32 × hw_S)
  | 0, _, _, _, _, _ => none
  | n + 1, x0, l1, l2, l3, σ =>
  (hw_gP (hw_q 12) 1 (some x0) σ).bind fun v9 =>
  (hw_aI 0 v9 (1 : Int32) σ).bind fun v13 =>
  (if v13 ≤ l3 then
  some (l1, σ)
  else
  (hw_rv (hw_q 12) (some x0) σ).bind fun a19 =>
  hw_b2 (m12_offAll x0 l3 σ) fun v19 σ19 =>
  (if l1 = ((-5) : Int32) then
  m12_which_b36 (m12_which_b7 n) x0 l1 l2 l3 v19 σ19
  else
  (if l2 ≤ v19 then
  m12_which_b41 (m12_which_b7 n) x0 l1 l2 l3 v19 (0 : Int32) σ19
  else
  m12_which_b36 (m12_which_b7 n) x0 l1 l2 l3 v19 σ19)))
set_option maxRecDepth 100000 in
theorem w12_which_b7 {p : Program} {l : Launch} {e : Env} {s : State} {m : MethodId} {args : Array Value} {below : List Frame} {meth : Method} {c : Code} {D : hw_D} {b : Nat} {r : Int32} {τ : hw_S} (C0 : hw_C p s m args meth c D yX12_which cX12_which 6 (some .int)) : ∀ (n : Nat) {x0 : Nat} {l1 : Int32} {l2 : Int32} {l3 : Int32} {σ : hw_S} {H : Heap} {locs : List Loc} {ls : Array Slot}, m12_which_b7 n x0 l1 l2 l3 σ = some (r, τ) → hw_R D b σ H → va_S (fun q => b ≤ q) s.heap H locs → hw_L ls 6 255 [(0, hw_vr b (some x0)), (1, .int l1), (2, .int l2), (3, .int l3)] → W p l e rm12_which s m args below meth c H locs 0 0 (MQ below (hw_QI D b τ r) args s 0 0 (fun q => b ≤ q)) (F0 m 7 ls []) := by
  obtain ⟨hx, hb, hml, hr, hown, hts, hlk, hE, hnm⟩ := id C0
  have hown : s.vm.findClass RX12 = some m.cls := hown
  have hK := hE.1
  intro n
  induction n with
  | zero => intro _ _ _ _ _ _ _ _ hm; cases hm
  | succ n ih =>
    intro x0 l1 l2 l3 σ H locs ls hm hR hS hl
    rw [m12_which_b7] at hm
    refine lv_iload_n hx hb dX12_which_7 rfl (hl.at 3 rfl) ?_
    refine hw_aload_n hx hb dX12_which_8 rfl (hl.at 0 rfl) ?_
    obtain ⟨v9, e9, hm⟩ := hw_bs hm
    refine hw_getP hx hb hw_cf12 hts hown hK hR e9 (by decide) rfl (hts _ hw_m76) (fun _ h9 => h9) dX12_which_9 ?_
    refine lv_iconst (v := 1) hx hb dX12_which_12 (by decide) ?_
    obtain ⟨v13, e13, hm⟩ := hw_bs hm
    refine hw_iald hx hb hK hR e13 dX12_which_13 ?_
    refine lv_icmp_ge (tgt := 72) hx hb dX12_which_14 (by decide) (fun c14 => ?_) (fun c14 => ?_)
    · have hm := hw_ip hm c14
      refine lv_iload_n hx hb dX12_which_72 rfl (hl.at 1 rfl) ?_
      exact hw_rWI hx hb hr hlk hR hS hm dX12_which_73
    · have hm := hw_in hm c14
      refine hw_aload_n hx hb dX12_which_17 rfl (hl.at 0 rfl) ?_
      refine lv_iload_n hx hb dX12_which_18 rfl (hl.at 3 rfl) ?_
      obtain ⟨a19, g19, hm⟩ := hw_bs hm
      obtain ⟨rfl, ht19⟩ := hw_rv_th g19
      obtain ⟨v19, σ19, e19, hm⟩ := hw_bs2 hm
      refine hw_cWI (va_runV (As := [.int l3]) (rest := []) ⟨hx, hb, hml, hown, hts⟩ (c12_offAll l D b e19) (cwV 1 hts (hw_gV hw_m833 hw_m834 hw_m835 hw_m5 hw_m836) rfl rfl rfl (by decide +kernel) ⟨(Nat.le_of_ble_eq_true rfl), (Nat.le_of_ble_eq_true rfl)⟩) (hw_preV (ci := 12) hE hR rfl (by decide) (hw_q_of ht19)) rfl rfl hl.sz rfl (lv_room (Nat.le_of_ble_eq_true rfl)) dX12_which_19 ⟨(Nat.le_of_ble_eq_true rfl), (Nat.le_of_ble_eq_true rfl)⟩) hS (fun _ _ hR hS => ?_)
      refine hw_istore (lv' := [(4, .int v19), (0, hw_vr b (some x0)), (1, .int l1), (2, .int l2), (3, .int l3)]) hx hb dX12_which_22 hl (by decide) (by decide) rfl (fun ls hl => ?_)
      refine lv_iload_n hx hb dX12_which_24 rfl (hl.at 2 rfl) ?_
      refine lv_bipush (v := (-5)) hx hb dX12_which_25 (by decide) ?_
      refine lv_icmp_eq (tgt := 36) hx hb dX12_which_27 (by decide) (fun c27 => ?_) (fun c27 => ?_)
      · have hm := hw_ip hm c27
        exact w12_which_b36 C0 ih hm hR hS (hl.sub [1, 2, 3, 4, 0] rfl)
      · have hm := hw_in hm c27
        refine lv_iload hx hb dX12_which_30 (hl.at 0 rfl) ?_
        refine lv_iload_n hx hb dX12_which_32 rfl (hl.at 3 rfl) ?_
        refine lv_icmp_ge (tgt := 40) hx hb dX12_which_33 (by decide) (fun c33 => ?_) (fun c33 => ?_)
        · have hm := hw_ip hm c33
          refine lv_iconst (v := 0) hx hb dX12_which_40 (by decide) ?_
          exact w12_which_b41 C0 ih hm hR hS (hl.sub [1, 2, 3, 4, 0] rfl)
        · have hm := hw_in hm c33
          exact w12_which_b36 C0 ih hm hR hS (hl.sub [1, 2, 3, 4, 0] rfl)
def m12_which (x0 : Nat) (σ : hw_S) : Option (Int32 × hw_S) :=
  m12_which_b7 hw_fu x0 ((-5) : Int32) (0 : Int32) (0 : Int32) σ
set_option maxRecDepth 100000 in
theorem w12_which_s {p : Program} {l : Launch} {e : Env} {s : State} {m : MethodId} {args : Array Value} {below : List Frame} {meth : Method} {c : Code} {D : hw_D} {b : Nat} {x0 : Nat} {σ : hw_S} {r : Int32} {τ : hw_S} {H : Heap} {locs : List Loc} (hm : m12_which x0 σ = some (r, τ)) (C0 : hw_C p s m args meth c D yX12_which cX12_which 6 (some .int)) (hR : hw_R D b σ H) (hS : va_S (fun q => b ≤ q) s.heap H locs) {ls : Array Slot} (hl : hw_L ls 6 255 [(0, hw_vr b (some x0))]) : W p l e rm12_which s m args below meth c H locs 0 0 (MQ below (hw_QI D b τ r) args s 0 0 (fun q => b ≤ q)) (F0 m 0 ls []) := by
  obtain ⟨hx, hb, hml, hr, hown, hts, hlk, hE, hnm⟩ := id C0
  have hown : s.vm.findClass RX12 = some m.cls := hown
  have hK := hE.1
  unfold m12_which at hm
  refine lv_bipush (v := (-5)) hx hb dX12_which_0 (by decide) ?_
  refine hw_istore_n (lv' := [(1, .int ((-5) : Int32)), (0, hw_vr b (some x0))]) hx hb dX12_which_2 rfl hl (by decide) (by decide) rfl (fun ls hl => ?_)
  refine lv_iconst (v := 0) hx hb dX12_which_3 (by decide) ?_
  refine hw_istore_n (lv' := [(2, .int (0 : Int32)), (1, .int ((-5) : Int32)), (0, hw_vr b (some x0))]) hx hb dX12_which_4 rfl hl (by decide) (by decide) rfl (fun ls hl => ?_)
  refine lv_iconst (v := 0) hx hb dX12_which_5 (by decide) ?_
  refine hw_istore_n (lv' := [(3, .int (0 : Int32)), (2, .int (0 : Int32)), (1, .int ((-5) : Int32)), (0, hw_vr b (some x0))]) hx hb dX12_which_6 rfl hl (by decide) (by decide) rfl (fun ls hl => ?_)
  exact w12_which_b7 C0 hw_fu hm hR hS (hl.sub [3, 2, 1, 0] rfl)
set_option maxRecDepth 100000 in
theorem c12_which (l : Launch) (D : hw_D) (b : Nat) {x0 : Nat} {σ : hw_S} {r : Int32} {τ : hw_S} (hm : m12_which x0 σ = some (r, τ)) : Met l yX12_which (Cond.code yX12_which cX12_which 6 (some .int) :: wsL_law) rm12_which (hw_P1 D b σ [hw_vr b (some x0)]) (hw_QI D b τ r) 0 0 (fun q => b ≤ q) := by
  refine hw_start1 (by decide +kernel) (by exact Nat.le_of_ble_eq_true rfl) ?_
  intro p e s m below meth c ls C0 hR hS hl
  have hl : lv_has ls 6 [(0, hw_vr b (some x0))] := by exact hl
  exact w12_which_s hm C0 hR hS ⟨hl, (List.forall_mem_cons.mpr ⟨(fun h => by rw [show (hw_vr b (some x0) : Value).category = 1 from (hw_vr_cat _ _)] at h; cases h), (fun _ h => absurd h List.not_mem_nil)⟩)⟩

abbrev rm11_fits : Room := { frames := 6, cells := 0, slots := 0, locals := 140 }
def m11_fits_b63 (k31 : Nat → Int32 → Option Nat → Int32 → Int32 → hw_S → Option Int32) (x0 : Nat) (l2 : Int32) (l3 : Option Nat) (l4 : Int32) (l5 : Int32) (σ : hw_S) : Option Int32 :=
  k31 x0 l2 l3 l4 (l5 + 1) σ
set_option maxRecDepth 100000 in
theorem w11_fits_b63 {p : Program} {l : Launch} {e : Env} {s : State} {m : MethodId} {args : Array Value} {below : List Frame} {meth : Method} {c : Code} {D : hw_D} {b : Nat} {k31 : Nat → Int32 → Option Nat → Int32 → Int32 → hw_S → Option Int32} {r : Int32} (C0 : hw_C p s m args meth c D yX11_fits cX11_fits 6 (some .int)) (hk31 : ∀ {x0 : Nat} {l2 : Int32} {l3 : Option Nat} {l4 : Int32} {l5 : Int32} {σ : hw_S} {ls : Array Slot}, k31 x0 l2 l3 l4 l5 σ = some r → hw_R D b σ s.heap → hw_L ls 6 255 [(0, hw_vr b (some x0)), (2, .int l2), (3, hw_vr b l3), (4, .int l4), (5, .int l5)] → W p l e rm11_fits s m args below meth c s.heap [] 0 0 (MQ below (hw_RI r) args s 0 0 hw_nof) (F0 m 31 ls [])) {x0 : Nat} {l2 : Int32} {l3 : Option Nat} {l4 : Int32} {l5 : Int32} {σ : hw_S} (hm : m11_fits_b63 k31 x0 l2 l3 l4 l5 σ = some r) (hR : hw_R D b σ s.heap) {ls : Array Slot} (hl : hw_L ls 6 255 [(0, hw_vr b (some x0)), (2, .int l2), (3, hw_vr b l3), (4, .int l4), (5, .int l5)]) : W p l e rm11_fits s m args below meth c s.heap [] 0 0 (MQ below (hw_RI r) args s 0 0 hw_nof) (F0 m 63 ls []) := by
  obtain ⟨hx, hb, hml, hr, hown, hts, hlk, hE, hnm⟩ := id C0
  have hown : s.vm.findClass RX11 = some m.cls := hown
  have hK := hE.1
  unfold m11_fits_b63 at hm
  refine hw_iinc (v := (l5 + 1)) (lv' := [(5, .int (l5 + 1)), (0, hw_vr b (some x0)), (2, .int l2), (3, hw_vr b l3), (4, .int l4)]) hx hb dX11_fits_63 hl (k := 4) rfl rfl (by decide) (by decide) rfl (fun ls hl => ?_)
  refine lv_goto (tgt := 31) hx hb dX11_fits_66 (by decide) ?_
  exact hk31 hm hR (hl.sub [1, 2, 3, 4, 0] rfl)
def m11_fits_b31 : Nat → Nat → Int32 → Option Nat → Int32 → Int32 → hw_S → Option Int32
  | 0, _, _, _, _, _, _ => none
  | n + 1, x0, l2, l3, l4, l5, σ =>
  (hw_gP (hw_q 11) 0 (some x0) σ).bind fun v34 =>
  (hw_gI (hw_q 8) 13 v34 σ).bind fun v37 =>
  (if v37 ≤ l5 then
  some l4
  else
  (hw_rv (hw_q 11) (some x0) σ).bind fun a47 =>
  (m11_offFilm x0 l3 l5 σ).bind fun v47 =>
  (if l2 < v47 then
  m11_fits_b63 (m11_fits_b31 n) x0 l2 l3 l4 l5 σ
  else
  m11_fits_b63 (m11_fits_b31 n) x0 l2 l3 (l4 ||| ((1 : Int32) <<< (l5 &&& 31))) l5 σ))
set_option maxRecDepth 100000 in
theorem w11_fits_b31 {p : Program} {l : Launch} {e : Env} {s : State} {m : MethodId} {args : Array Value} {below : List Frame} {meth : Method} {c : Code} {D : hw_D} {b : Nat} {r : Int32} (C0 : hw_C p s m args meth c D yX11_fits cX11_fits 6 (some .int)) : ∀ (n : Nat) {x0 : Nat} {l2 : Int32} {l3 : Option Nat} {l4 : Int32} {l5 : Int32} {σ : hw_S} {ls : Array Slot}, m11_fits_b31 n x0 l2 l3 l4 l5 σ = some r → hw_R D b σ s.heap → hw_L ls 6 255 [(0, hw_vr b (some x0)), (2, .int l2), (3, hw_vr b l3), (4, .int l4), (5, .int l5)] → W p l e rm11_fits s m args below meth c s.heap [] 0 0 (MQ below (hw_RI r) args s 0 0 hw_nof) (F0 m 31 ls []) := by
  obtain ⟨hx, hb, hml, hr, hown, hts, hlk, hE, hnm⟩ := id C0
  have hown : s.vm.findClass RX11 = some m.cls := hown
  have hK := hE.1
  intro n
  induction n with
  | zero => intro _ _ _ _ _ _ _ hm; cases hm
  | succ n ih =>
    intro x0 l2 l3 l4 l5 σ ls hm hR hl
    rw [m11_fits_b31] at hm
    refine lv_iload hx hb dX11_fits_31 (hl.at 4 rfl) ?_
    refine hw_aload_n hx hb dX11_fits_33 rfl (hl.at 0 rfl) ?_
    obtain ⟨v34, e34, hm⟩ := hw_bs hm
    refine hw_getP hx hb hw_cf11 hts hown hK hR e34 (by decide) rfl (hts _ hw_m16) (fun _ h9 => h9) dX11_fits_34 ?_
    obtain ⟨v37, e37, hm⟩ := hw_bs hm
    refine hw_getI hx hb hw_cf8 hts hown hK hR e37 (by decide) rfl (hts _ hw_m809) (fun _ h9 => h9) dX11_fits_37 ?_
    refine lv_icmp_ge (tgt := 69) hx hb dX11_fits_40 (by decide) (fun c40 => ?_) (fun c40 => ?_)
    · have hm := hw_ip hm c40
      refine lv_iload hx hb dX11_fits_69 (hl.at 3 rfl) ?_
      exact hw_rRI hx hb hr hlk hm dX11_fits_71
    · have hm := hw_in hm c40
      refine hw_aload_n hx hb dX11_fits_43 rfl (hl.at 0 rfl) ?_
      refine hw_aload_n hx hb dX11_fits_44 rfl (hl.at 2 rfl) ?_
      refine lv_iload hx hb dX11_fits_45 (hl.at 4 rfl) ?_
      obtain ⟨a47, g47, hm⟩ := hw_bs hm
      obtain ⟨rfl, ht47⟩ := hw_rv_th g47
      obtain ⟨v47, e47, hm⟩ := hw_bs hm
      refine hw_cRI (va_runV (As := [hw_vr b l3, .int l5]) (rest := []) ⟨hx, hb, hml, hown, hts⟩ (c11_offFilm l D b e47) (cwV 2 hts (hw_gV hw_m825 hw_m826 hw_m827 hw_m2 hw_m828) rfl rfl rfl (by decide +kernel) ⟨(Nat.le_of_ble_eq_true rfl), (Nat.le_of_ble_eq_true rfl)⟩) (hw_preV (ci := 11) hE hR rfl (by decide) (hw_q_of ht47)) rfl rfl hl.sz rfl (lv_room (Nat.le_of_ble_eq_true rfl)) dX11_fits_47 ⟨(Nat.le_of_ble_eq_true rfl), (Nat.le_of_ble_eq_true rfl)⟩) ?_
      refine lv_iload_n hx hb dX11_fits_50 rfl (hl.at 1 rfl) ?_
      refine lv_icmp_gt (tgt := 63) hx hb dX11_fits_51 (by decide) (fun c51 => ?_) (fun c51 => ?_)
      · have hm := hw_ip hm c51
        exact w11_fits_b63 C0 ih hm hR (hl.sub [0, 1, 2, 3, 4] rfl)
      · have hm := hw_in hm c51
        refine lv_iload hx hb dX11_fits_54 (hl.at 3 rfl) ?_
        refine lv_iconst (v := 1) hx hb dX11_fits_56 (by decide) ?_
        refine lv_iload hx hb dX11_fits_57 (hl.at 4 rfl) ?_
        refine lv_ishl hx hb dX11_fits_59 ?_
        refine lv_ior hx hb dX11_fits_60 ?_
        refine hw_istore (lv' := [(4, .int (l4 ||| ((1 : Int32) <<< (l5 &&& 31)))), (0, hw_vr b (some x0)), (2, .int l2), (3, hw_vr b l3), (5, .int l5)]) hx hb dX11_fits_61 hl (by decide) (by decide) rfl (fun ls hl => ?_)
        exact w11_fits_b63 C0 ih hm hR (hl.sub [1, 2, 3, 0, 4] rfl)
def m11_fits (x0 : Nat) (l1 : Int32) (l2 : Int32) (σ : hw_S) : Option Int32 :=
  (hw_rv (hw_q 11) (some x0) σ).bind fun a2 =>
  (m11_lawAt x0 l1 σ).bind fun v2 =>
  (if v2 = none then
  some ((-1) : Int32)
  else
  (m11_isWithin l2 (0 : Int32) (99 : Int32)).bind fun v16 =>
  (if v16 = 0 then
  some ((-2) : Int32)
  else
  m11_fits_b31 hw_fu x0 l2 v2 (0 : Int32) (0 : Int32) σ))
set_option maxRecDepth 100000 in
theorem w11_fits_s {p : Program} {l : Launch} {e : Env} {s : State} {m : MethodId} {args : Array Value} {below : List Frame} {meth : Method} {c : Code} {D : hw_D} {b : Nat} {x0 : Nat} {l1 : Int32} {l2 : Int32} {σ : hw_S} {r : Int32} (hm : m11_fits x0 l1 l2 σ = some r) (C0 : hw_C p s m args meth c D yX11_fits cX11_fits 6 (some .int)) (hR : hw_R D b σ s.heap) {ls : Array Slot} (hl : hw_L ls 6 255 [(0, hw_vr b (some x0)), (1, .int l1), (2, .int l2)]) : W p l e rm11_fits s m args below meth c s.heap [] 0 0 (MQ below (hw_RI r) args s 0 0 hw_nof) (F0 m 0 ls []) := by
  obtain ⟨hx, hb, hml, hr, hown, hts, hlk, hE, hnm⟩ := id C0
  have hown : s.vm.findClass RX11 = some m.cls := hown
  have hK := hE.1
  unfold m11_fits at hm
  refine hw_aload_n hx hb dX11_fits_0 rfl (hl.at 0 rfl) ?_
  refine lv_iload_n hx hb dX11_fits_1 rfl (hl.at 1 rfl) ?_
  obtain ⟨a2, g2, hm⟩ := hw_bs hm
  obtain ⟨rfl, ht2⟩ := hw_rv_th g2
  obtain ⟨v2, e2, hm⟩ := hw_bs hm
  refine hw_cRP (va_runV (As := [.int l1]) (rest := []) ⟨hx, hb, hml, hown, hts⟩ (c11_lawAt l D b e2) (cwV 1 hts (hw_gV hw_m426 hw_m427 hw_m428 hw_m2 hw_m429) rfl rfl rfl (by decide +kernel) ⟨(Nat.le_of_ble_eq_true rfl), (Nat.le_of_ble_eq_true rfl)⟩) (hw_preV (ci := 11) hE hR rfl (by decide) (hw_q_of ht2)) rfl rfl hl.sz rfl (lv_room (Nat.le_of_ble_eq_true rfl)) dX11_fits_2 ⟨(Nat.le_of_ble_eq_true rfl), (Nat.le_of_ble_eq_true rfl)⟩) ?_
  refine hw_asto_n (lv' := [(3, hw_vr b v2), (0, hw_vr b (some x0)), (1, .int l1), (2, .int l2)]) hx hb dX11_fits_5 rfl hl (by decide) (by decide) rfl (fun ls hl => ?_)
  refine hw_aload_n hx hb dX11_fits_6 rfl (hl.at 0 rfl) ?_
  refine hw_ifnonnull (tgt := 12) hx hb dX11_fits_7 (by decide) (fun c7 => ?_) (fun c7 => ?_)
  · have hm := hw_in hm c7
    refine lv_iload_n hx hb dX11_fits_12 rfl (hl.at 3 rfl) ?_
    refine lv_iconst (v := 0) hx hb dX11_fits_13 (by decide) ?_
    refine lv_bipush (v := 99) hx hb dX11_fits_14 (by decide) ?_
    obtain ⟨v16, e16, hm⟩ := hw_bs hm
    refine hw_cRI (va_runS (As := [.int l2, .int (0 : Int32), .int (99 : Int32)]) (rest := []) ⟨hx, hb, hml, hown, hts⟩ (c11_isWithin l D e16) (cwS 3 hts (hw_gS hw_m99 hw_m100 hw_m2 hw_m101) rfl rfl rfl (by decide +kernel) ⟨(Nat.le_of_ble_eq_true rfl), (Nat.le_of_ble_eq_true rfl)⟩) (hw_pre0 hE) rfl rfl hl.sz rfl (lv_room (Nat.le_of_ble_eq_true rfl)) dX11_fits_16 ⟨(Nat.le_of_ble_eq_true rfl), (Nat.le_of_ble_eq_true rfl)⟩) ?_
    refine lv_if_ne (tgt := 25) hx hb dX11_fits_19 (by decide) (fun c19 => ?_) (fun c19 => ?_)
    · have hm := hw_in hm c19
      refine lv_iconst (v := 0) hx hb dX11_fits_25 (by decide) ?_
      refine hw_istore (lv' := [(4, .int (0 : Int32)), (3, hw_vr b v2), (0, hw_vr b (some x0)), (1, .int l1), (2, .int l2)]) hx hb dX11_fits_26 hl (by decide) (by decide) rfl (fun ls hl => ?_)
      refine lv_iconst (v := 0) hx hb dX11_fits_28 (by decide) ?_
      refine hw_istore (lv' := [(5, .int (0 : Int32)), (4, .int (0 : Int32)), (3, hw_vr b v2), (0, hw_vr b (some x0)), (1, .int l1), (2, .int l2)]) hx hb dX11_fits_29 hl (by decide) (by decide) rfl (fun ls hl => ?_)
      exact w11_fits_b31 C0 hw_fu hm hR (hl.sub [3, 5, 2, 1, 0] rfl)
    · have hm := hw_ip hm c19
      refine lv_bipush (v := (-2)) hx hb dX11_fits_22 (by decide) ?_
      exact hw_rRI hx hb hr hlk hm dX11_fits_24
  · have hm := hw_ip hm c7
    refine lv_iconst (v := (-1)) hx hb dX11_fits_10 (by decide) ?_
    exact hw_rRI hx hb hr hlk hm dX11_fits_11
set_option maxRecDepth 100000 in
theorem c11_fits (l : Launch) (D : hw_D) (b : Nat) {x0 : Nat} {l1 : Int32} {l2 : Int32} {σ : hw_S} {r : Int32} (hm : m11_fits x0 l1 l2 σ = some r) : Met l yX11_fits (Cond.code yX11_fits cX11_fits 6 (some .int) :: wsL_law) rm11_fits (hw_P1 D b σ [hw_vr b (some x0), .int l1, .int l2]) (hw_RI r) 0 0 hw_nof := by
  refine hw_start1 (by decide +kernel) (by exact Nat.le_of_ble_eq_true rfl) ?_
  intro p e s m below meth c ls C0 hR hS hl
  have hl : lv_has ls 6 [(0, hw_vr b (some x0)), (1, .int l1), (2, .int l2)] := by exact hl
  exact w11_fits_s hm C0 hR ⟨hl, (List.forall_mem_cons.mpr ⟨(fun h => by rw [show (hw_vr b (some x0) : Value).category = 1 from (hw_vr_cat _ _)] at h; cases h), (List.forall_mem_cons.mpr ⟨(fun h => absurd (show (1 : Nat) = 2 from h) (by decide)), (List.forall_mem_cons.mpr ⟨(fun h => absurd (show (1 : Nat) = 2 from h) (by decide)), (fun _ h => absurd h List.not_mem_nil)⟩)⟩)⟩)⟩

abbrev rm12_fits : Room := { frames := 5, cells := 0, slots := 0, locals := 133 }
def m12_fits_b59 (k28 : Nat → Int32 → Int32 → Int32 → Int32 → hw_S → Option (Int32 × hw_S)) (x0 : Nat) (l1 : Int32) (l2 : Int32) (l4 : Int32) (t0 : Int32) (t1 : Int32) (σ : hw_S) : Option (Int32 × hw_S) :=
  k28 x0 l1 l2 (t0 ||| t1) (l4 + 1) σ
set_option maxRecDepth 100000 in
theorem w12_fits_b59 {p : Program} {l : Launch} {e : Env} {s : State} {m : MethodId} {args : Array Value} {below : List Frame} {meth : Method} {c : Code} {D : hw_D} {b : Nat} {k28 : Nat → Int32 → Int32 → Int32 → Int32 → hw_S → Option (Int32 × hw_S)} {r : Int32} {τ : hw_S} (C0 : hw_C p s m args meth c D yX12_fits cX12_fits 5 (some .int)) (hk28 : ∀ {x0 : Nat} {l1 : Int32} {l2 : Int32} {l3 : Int32} {l4 : Int32} {σ : hw_S} {H : Heap} {locs : List Loc} {ls : Array Slot}, k28 x0 l1 l2 l3 l4 σ = some (r, τ) → hw_R D b σ H → va_S (fun q => b ≤ q) s.heap H locs → hw_L ls 5 255 [(0, hw_vr b (some x0)), (1, .int l1), (2, .int l2), (3, .int l3), (4, .int l4)] → W p l e rm12_fits s m args below meth c H locs 0 0 (MQ below (hw_QI D b τ r) args s 0 0 (fun q => b ≤ q)) (F0 m 28 ls [])) {x0 : Nat} {l1 : Int32} {l2 : Int32} {l4 : Int32} {t0 : Int32} {t1 : Int32} {σ : hw_S} {H : Heap} {locs : List Loc} (hm : m12_fits_b59 k28 x0 l1 l2 l4 t0 t1 σ = some (r, τ)) (hR : hw_R D b σ H) (hS : va_S (fun q => b ≤ q) s.heap H locs) {ls : Array Slot} (hl : hw_L ls 5 255 [(0, hw_vr b (some x0)), (1, .int l1), (2, .int l2), (4, .int l4)]) : W p l e rm12_fits s m args below meth c H locs 0 0 (MQ below (hw_QI D b τ r) args s 0 0 (fun q => b ≤ q)) (F0 m 59 ls [.int t1, .int t0]) := by
  obtain ⟨hx, hb, hml, hr, hown, hts, hlk, hE, hnm⟩ := id C0
  have hown : s.vm.findClass RX12 = some m.cls := hown
  have hK := hE.1
  unfold m12_fits_b59 at hm
  refine lv_ior hx hb dX12_fits_59 ?_
  refine hw_istore_n (lv' := [(3, .int (t0 ||| t1)), (0, hw_vr b (some x0)), (1, .int l1), (2, .int l2), (4, .int l4)]) hx hb dX12_fits_60 rfl hl (by decide) (by decide) rfl (fun ls hl => ?_)
  refine hw_iinc (v := (l4 + 1)) (lv' := [(4, .int (l4 + 1)), (3, .int (t0 ||| t1)), (0, hw_vr b (some x0)), (1, .int l1), (2, .int l2)]) hx hb dX12_fits_61 hl (k := 4) rfl rfl (by decide) (by decide) rfl (fun ls hl => ?_)
  refine lv_goto (tgt := 28) hx hb dX12_fits_64 (by decide) ?_
  exact hk28 hm hR hS (hl.sub [2, 3, 4, 1, 0] rfl)
def m12_fits_b28 : Nat → Nat → Int32 → Int32 → Int32 → Int32 → hw_S → Option (Int32 × hw_S)
  | 0, _, _, _, _, _, _ => none
  | n + 1, x0, l1, l2, l3, l4, σ =>
  (hw_gP (hw_q 12) 1 (some x0) σ).bind fun v31 =>
  (hw_aI 0 v31 (2 : Int32) σ).bind fun v35 =>
  (if v35 ≤ l4 then
  some (l3, σ)
  else
  (hw_rv (hw_q 12) (some x0) σ).bind fun a44 =>
  hw_b2 (m12_offOf x0 l1 l4 σ) fun v44 σ44 =>
  (if l2 < v44 then
  m12_fits_b59 (m12_fits_b28 n) x0 l1 l2 l4 l3 (0 : Int32) σ44
  else
  m12_fits_b59 (m12_fits_b28 n) x0 l1 l2 l4 l3 ((1 : Int32) <<< (l4 &&& 31)) σ44))
set_option maxRecDepth 100000 in
theorem w12_fits_b28 {p : Program} {l : Launch} {e : Env} {s : State} {m : MethodId} {args : Array Value} {below : List Frame} {meth : Method} {c : Code} {D : hw_D} {b : Nat} {r : Int32} {τ : hw_S} (C0 : hw_C p s m args meth c D yX12_fits cX12_fits 5 (some .int)) : ∀ (n : Nat) {x0 : Nat} {l1 : Int32} {l2 : Int32} {l3 : Int32} {l4 : Int32} {σ : hw_S} {H : Heap} {locs : List Loc} {ls : Array Slot}, m12_fits_b28 n x0 l1 l2 l3 l4 σ = some (r, τ) → hw_R D b σ H → va_S (fun q => b ≤ q) s.heap H locs → hw_L ls 5 255 [(0, hw_vr b (some x0)), (1, .int l1), (2, .int l2), (3, .int l3), (4, .int l4)] → W p l e rm12_fits s m args below meth c H locs 0 0 (MQ below (hw_QI D b τ r) args s 0 0 (fun q => b ≤ q)) (F0 m 28 ls []) := by
  obtain ⟨hx, hb, hml, hr, hown, hts, hlk, hE, hnm⟩ := id C0
  have hown : s.vm.findClass RX12 = some m.cls := hown
  have hK := hE.1
  intro n
  induction n with
  | zero => intro _ _ _ _ _ _ _ _ _ hm; cases hm
  | succ n ih =>
    intro x0 l1 l2 l3 l4 σ H locs ls hm hR hS hl
    rw [m12_fits_b28] at hm
    refine lv_iload hx hb dX12_fits_28 (hl.at 4 rfl) ?_
    refine hw_aload_n hx hb dX12_fits_30 rfl (hl.at 0 rfl) ?_
    obtain ⟨v31, e31, hm⟩ := hw_bs hm
    refine hw_getP hx hb hw_cf12 hts hown hK hR e31 (by decide) rfl (hts _ hw_m76) (fun _ h9 => h9) dX12_fits_31 ?_
    refine lv_iconst (v := 2) hx hb dX12_fits_34 (by decide) ?_
    obtain ⟨v35, e35, hm⟩ := hw_bs hm
    refine hw_iald hx hb hK hR e35 dX12_fits_35 ?_
    refine lv_icmp_ge (tgt := 67) hx hb dX12_fits_36 (by decide) (fun c36 => ?_) (fun c36 => ?_)
    · have hm := hw_ip hm c36
      refine lv_iload_n hx hb dX12_fits_67 rfl (hl.at 3 rfl) ?_
      exact hw_rWI hx hb hr hlk hR hS hm dX12_fits_68
    · have hm := hw_in hm c36
      refine lv_iload_n hx hb dX12_fits_39 rfl (hl.at 3 rfl) ?_
      refine hw_aload_n hx hb dX12_fits_40 rfl (hl.at 0 rfl) ?_
      refine lv_iload_n hx hb dX12_fits_41 rfl (hl.at 1 rfl) ?_
      refine lv_iload hx hb dX12_fits_42 (hl.at 4 rfl) ?_
      obtain ⟨a44, g44, hm⟩ := hw_bs hm
      obtain ⟨rfl, ht44⟩ := hw_rv_th g44
      obtain ⟨v44, σ44, e44, hm⟩ := hw_bs2 hm
      refine hw_cWI (va_runV (As := [.int l1, .int l4]) (rest := [.int l3]) ⟨hx, hb, hml, hown, hts⟩ (c12_offOf l D b e44) (cwV 2 hts (hw_gV hw_m837 hw_m838 hw_m839 hw_m5 hw_m840) rfl rfl rfl (by decide +kernel) ⟨(Nat.le_of_ble_eq_true rfl), (Nat.le_of_ble_eq_true rfl)⟩) (hw_preV (ci := 12) hE hR rfl (by decide) (hw_q_of ht44)) rfl rfl hl.sz rfl (lv_room (Nat.le_of_ble_eq_true rfl)) dX12_fits_44 ⟨(Nat.le_of_ble_eq_true rfl), (Nat.le_of_ble_eq_true rfl)⟩) hS (fun _ _ hR hS => ?_)
      refine lv_iload_n hx hb dX12_fits_47 rfl (hl.at 2 rfl) ?_
      refine lv_icmp_gt (tgt := 58) hx hb dX12_fits_48 (by decide) (fun c48 => ?_) (fun c48 => ?_)
      · have hm := hw_ip hm c48
        refine lv_iconst (v := 0) hx hb dX12_fits_58 (by decide) ?_
        exact w12_fits_b59 C0 ih hm hR hS (hl.sub [0, 1, 2, 4] rfl)
      · have hm := hw_in hm c48
        refine lv_iconst (v := 1) hx hb dX12_fits_51 (by decide) ?_
        refine lv_iload hx hb dX12_fits_52 (hl.at 4 rfl) ?_
        refine lv_ishl hx hb dX12_fits_54 ?_
        refine lv_goto (tgt := 59) hx hb dX12_fits_55 (by decide) ?_
        exact w12_fits_b59 C0 ih hm hR hS (hl.sub [0, 1, 2, 4] rfl)
def m12_fits (x0 : Nat) (l1 : Int32) (l2 : Int32) (σ : hw_S) : Option (Int32 × hw_S) :=
  (hw_rv (hw_q 12) (some x0) σ).bind fun a2 =>
  (m12_isLaw x0 l1 σ).bind fun v2 =>
  (if v2 = 0 then
  some (((-1) : Int32), σ)
  else
  (m12_in l2 (0 : Int32) (99 : Int32)).bind fun v14 =>
  (if v14 = 0 then
  some (((-2) : Int32), σ)
  else
  m12_fits_b28 hw_fu x0 l1 l2 (0 : Int32) (0 : Int32) σ))
set_option maxRecDepth 100000 in
theorem w12_fits_s {p : Program} {l : Launch} {e : Env} {s : State} {m : MethodId} {args : Array Value} {below : List Frame} {meth : Method} {c : Code} {D : hw_D} {b : Nat} {x0 : Nat} {l1 : Int32} {l2 : Int32} {σ : hw_S} {r : Int32} {τ : hw_S} {H : Heap} {locs : List Loc} (hm : m12_fits x0 l1 l2 σ = some (r, τ)) (C0 : hw_C p s m args meth c D yX12_fits cX12_fits 5 (some .int)) (hR : hw_R D b σ H) (hS : va_S (fun q => b ≤ q) s.heap H locs) {ls : Array Slot} (hl : hw_L ls 5 255 [(0, hw_vr b (some x0)), (1, .int l1), (2, .int l2)]) : W p l e rm12_fits s m args below meth c H locs 0 0 (MQ below (hw_QI D b τ r) args s 0 0 (fun q => b ≤ q)) (F0 m 0 ls []) := by
  obtain ⟨hx, hb, hml, hr, hown, hts, hlk, hE, hnm⟩ := id C0
  have hown : s.vm.findClass RX12 = some m.cls := hown
  have hK := hE.1
  unfold m12_fits at hm
  refine hw_aload_n hx hb dX12_fits_0 rfl (hl.at 0 rfl) ?_
  refine lv_iload_n hx hb dX12_fits_1 rfl (hl.at 1 rfl) ?_
  obtain ⟨a2, g2, hm⟩ := hw_bs hm
  obtain ⟨rfl, ht2⟩ := hw_rv_th g2
  obtain ⟨v2, e2, hm⟩ := hw_bs hm
  refine hw_cRI (va_runV (As := [.int l1]) (rest := []) ⟨hx, hb, hml, hown, hts⟩ (c12_isLaw l D b e2) (cwV 1 hts (hw_gV hw_m434 hw_m435 hw_m436 hw_m5 hw_m437) rfl rfl rfl (by decide +kernel) ⟨(Nat.le_of_ble_eq_true rfl), (Nat.le_of_ble_eq_true rfl)⟩) (hw_preV (ci := 12) hE hR rfl (by decide) (hw_q_of ht2)) rfl rfl hl.sz rfl (lv_room (Nat.le_of_ble_eq_true rfl)) dX12_fits_2 ⟨(Nat.le_of_ble_eq_true rfl), (Nat.le_of_ble_eq_true rfl)⟩) ?_
  refine lv_if_ne (tgt := 10) hx hb dX12_fits_5 (by decide) (fun c5 => ?_) (fun c5 => ?_)
  · have hm := hw_in hm c5
    refine lv_iload_n hx hb dX12_fits_10 rfl (hl.at 2 rfl) ?_
    refine lv_iconst (v := 0) hx hb dX12_fits_11 (by decide) ?_
    refine lv_bipush (v := 99) hx hb dX12_fits_12 (by decide) ?_
    obtain ⟨v14, e14, hm⟩ := hw_bs hm
    refine hw_cRI (va_runS (As := [.int l2, .int (0 : Int32), .int (99 : Int32)]) (rest := []) ⟨hx, hb, hml, hown, hts⟩ (c12_in l D e14) (cwS 3 hts (hw_gS hw_m112 hw_m113 hw_m5 hw_m114) rfl rfl rfl (by decide +kernel) ⟨(Nat.le_of_ble_eq_true rfl), (Nat.le_of_ble_eq_true rfl)⟩) (hw_pre0 hE) rfl rfl hl.sz rfl (lv_room (Nat.le_of_ble_eq_true rfl)) dX12_fits_14 ⟨(Nat.le_of_ble_eq_true rfl), (Nat.le_of_ble_eq_true rfl)⟩) ?_
    refine lv_if_ne (tgt := 23) hx hb dX12_fits_17 (by decide) (fun c17 => ?_) (fun c17 => ?_)
    · have hm := hw_in hm c17
      refine lv_iconst (v := 0) hx hb dX12_fits_23 (by decide) ?_
      refine hw_istore_n (lv' := [(3, .int (0 : Int32)), (0, hw_vr b (some x0)), (1, .int l1), (2, .int l2)]) hx hb dX12_fits_24 rfl hl (by decide) (by decide) rfl (fun ls hl => ?_)
      refine lv_iconst (v := 0) hx hb dX12_fits_25 (by decide) ?_
      refine hw_istore (lv' := [(4, .int (0 : Int32)), (3, .int (0 : Int32)), (0, hw_vr b (some x0)), (1, .int l1), (2, .int l2)]) hx hb dX12_fits_26 hl (by decide) (by decide) rfl (fun ls hl => ?_)
      exact w12_fits_b28 C0 hw_fu hm hR hS (hl.sub [2, 3, 4, 1, 0] rfl)
    · have hm := hw_ip hm c17
      refine lv_bipush (v := (-2)) hx hb dX12_fits_20 (by decide) ?_
      exact hw_rWI hx hb hr hlk hR hS hm dX12_fits_22
  · have hm := hw_ip hm c5
    refine lv_iconst (v := (-1)) hx hb dX12_fits_8 (by decide) ?_
    exact hw_rWI hx hb hr hlk hR hS hm dX12_fits_9
set_option maxRecDepth 100000 in
theorem c12_fits (l : Launch) (D : hw_D) (b : Nat) {x0 : Nat} {l1 : Int32} {l2 : Int32} {σ : hw_S} {r : Int32} {τ : hw_S} (hm : m12_fits x0 l1 l2 σ = some (r, τ)) : Met l yX12_fits (Cond.code yX12_fits cX12_fits 5 (some .int) :: wsL_law) rm12_fits (hw_P1 D b σ [hw_vr b (some x0), .int l1, .int l2]) (hw_QI D b τ r) 0 0 (fun q => b ≤ q) := by
  refine hw_start1 (by decide +kernel) (by exact Nat.le_of_ble_eq_true rfl) ?_
  intro p e s m below meth c ls C0 hR hS hl
  have hl : lv_has ls 5 [(0, hw_vr b (some x0)), (1, .int l1), (2, .int l2)] := by exact hl
  exact w12_fits_s hm C0 hR hS ⟨hl, (List.forall_mem_cons.mpr ⟨(fun h => by rw [show (hw_vr b (some x0) : Value).category = 1 from (hw_vr_cat _ _)] at h; cases h), (List.forall_mem_cons.mpr ⟨(fun h => absurd (show (1 : Nat) = 2 from h) (by decide)), (List.forall_mem_cons.mpr ⟨(fun h => absurd (show (1 : Nat) = 2 from h) (by decide)), (fun _ h => absurd h List.not_mem_nil)⟩)⟩)⟩)⟩

abbrev rm11_read : Room := { frames := 6, cells := 0, slots := 0, locals := 143 }
def m11_read_b34 (x0 : Nat) (σ : hw_S) : Option (Int32 × hw_S) :=
  some (((-1) : Int32), σ)
set_option maxRecDepth 100000 in
theorem w11_read_b34 {p : Program} {l : Launch} {e : Env} {s : State} {m : MethodId} {args : Array Value} {below : List Frame} {meth : Method} {c : Code} {D : hw_D} {b : Nat} {r : Int32} {τ : hw_S} (C0 : hw_C p s m args meth c D yX11_read cX11_read 14 (some .int)) {x0 : Nat} {σ : hw_S} {H : Heap} {locs : List Loc} (hm : m11_read_b34 x0 σ = some (r, τ)) (hR : hw_R D b σ H) (hS : va_S (fun q => b ≤ q) s.heap H locs) {ls : Array Slot} (hl : hw_L ls 14 255 [(0, hw_vr b (some x0))]) : W p l e rm11_read s m args below meth c H locs 0 0 (MQ below (hw_QI D b τ r) args s 0 0 (fun q => b ≤ q)) (F0 m 34 ls []) := by
  obtain ⟨hx, hb, hml, hr, hown, hts, hlk, hE, hnm⟩ := id C0
  have hown : s.vm.findClass RX11 = some m.cls := hown
  have hK := hE.1
  unfold m11_read_b34 at hm
  refine lv_iconst (v := (-1)) hx hb dX11_read_34 (by decide) ?_
  exact hw_rWI hx hb hr hlk hR hS hm dX11_read_35
def m11_read_b63 (x0 : Nat) (σ : hw_S) : Option (Int32 × hw_S) :=
  some (((-2) : Int32), σ)
set_option maxRecDepth 100000 in
theorem w11_read_b63 {p : Program} {l : Launch} {e : Env} {s : State} {m : MethodId} {args : Array Value} {below : List Frame} {meth : Method} {c : Code} {D : hw_D} {b : Nat} {r : Int32} {τ : hw_S} (C0 : hw_C p s m args meth c D yX11_read cX11_read 14 (some .int)) {x0 : Nat} {σ : hw_S} {H : Heap} {locs : List Loc} (hm : m11_read_b63 x0 σ = some (r, τ)) (hR : hw_R D b σ H) (hS : va_S (fun q => b ≤ q) s.heap H locs) {ls : Array Slot} (hl : hw_L ls 14 255 [(0, hw_vr b (some x0))]) : W p l e rm11_read s m args below meth c H locs 0 0 (MQ below (hw_QI D b τ r) args s 0 0 (fun q => b ≤ q)) (F0 m 63 ls []) := by
  obtain ⟨hx, hb, hml, hr, hown, hts, hlk, hE, hnm⟩ := id C0
  have hown : s.vm.findClass RX11 = some m.cls := hown
  have hK := hE.1
  unfold m11_read_b63 at hm
  refine lv_bipush (v := (-2)) hx hb dX11_read_63 (by decide) ?_
  exact hw_rWI hx hb hr hlk hR hS hm dX11_read_65
def m11_read_b165 (k80 : Nat → Int32 → Int32 → Int32 → Int32 → Option Nat → Option Nat → Int32 → Int32 → Int32 → Int32 → hw_S → Option (Int32 × hw_S)) (k104 : Nat → Int32 → Int32 → Int32 → Int32 → Option Nat → Option Nat → Int32 → Int32 → Int32 → Int32 → Int32 → hw_S → Option (Int32 × hw_S)) (x0 : Nat) (l3 : Int32) (l4 : Int32) (l5 : Int32) (l6 : Int32) (l7 : Option Nat) (l8 : Option Nat) (l9 : Int32) (l10 : Int32) (l11 : Int32) (l12 : Int32) (l13 : Int32) (σ : hw_S) : Option (Int32 × hw_S) :=
  k104 x0 l3 l4 l5 l6 l7 l8 l9 l10 l11 l12 (l13 + 1) σ
set_option maxRecDepth 100000 in
theorem w11_read_b165 {p : Program} {l : Launch} {e : Env} {s : State} {m : MethodId} {args : Array Value} {below : List Frame} {meth : Method} {c : Code} {D : hw_D} {b : Nat} {k80 : Nat → Int32 → Int32 → Int32 → Int32 → Option Nat → Option Nat → Int32 → Int32 → Int32 → Int32 → hw_S → Option (Int32 × hw_S)} {k104 : Nat → Int32 → Int32 → Int32 → Int32 → Option Nat → Option Nat → Int32 → Int32 → Int32 → Int32 → Int32 → hw_S → Option (Int32 × hw_S)} {r : Int32} {τ : hw_S} (C0 : hw_C p s m args meth c D yX11_read cX11_read 14 (some .int)) (hk80 : ∀ {x0 : Nat} {l3 : Int32} {l4 : Int32} {l5 : Int32} {l6 : Int32} {l7 : Option Nat} {l8 : Option Nat} {l9 : Int32} {l10 : Int32} {l11 : Int32} {l12 : Int32} {σ : hw_S} {H : Heap} {locs : List Loc} {ls : Array Slot}, k80 x0 l3 l4 l5 l6 l7 l8 l9 l10 l11 l12 σ = some (r, τ) → hw_R D b σ H → va_S (fun q => b ≤ q) s.heap H locs → hw_L ls 14 255 [(0, hw_vr b (some x0)), (3, .int l3), (4, .int l4), (5, .int l5), (6, .int l6), (7, hw_vr b l7), (8, hw_vr b l8), (9, .int l9), (10, .int l10), (11, .int l11), (12, .int l12)] → W p l e rm11_read s m args below meth c H locs 0 0 (MQ below (hw_QI D b τ r) args s 0 0 (fun q => b ≤ q)) (F0 m 80 ls [])) (hk104 : ∀ {x0 : Nat} {l3 : Int32} {l4 : Int32} {l5 : Int32} {l6 : Int32} {l7 : Option Nat} {l8 : Option Nat} {l9 : Int32} {l10 : Int32} {l11 : Int32} {l12 : Int32} {l13 : Int32} {σ : hw_S} {H : Heap} {locs : List Loc} {ls : Array Slot}, k104 x0 l3 l4 l5 l6 l7 l8 l9 l10 l11 l12 l13 σ = some (r, τ) → hw_R D b σ H → va_S (fun q => b ≤ q) s.heap H locs → hw_L ls 14 255 [(0, hw_vr b (some x0)), (3, .int l3), (4, .int l4), (5, .int l5), (6, .int l6), (7, hw_vr b l7), (8, hw_vr b l8), (9, .int l9), (10, .int l10), (11, .int l11), (12, .int l12), (13, .int l13)] → W p l e rm11_read s m args below meth c H locs 0 0 (MQ below (hw_QI D b τ r) args s 0 0 (fun q => b ≤ q)) (F0 m 104 ls [])) {x0 : Nat} {l3 : Int32} {l4 : Int32} {l5 : Int32} {l6 : Int32} {l7 : Option Nat} {l8 : Option Nat} {l9 : Int32} {l10 : Int32} {l11 : Int32} {l12 : Int32} {l13 : Int32} {σ : hw_S} {H : Heap} {locs : List Loc} (hm : m11_read_b165 k80 k104 x0 l3 l4 l5 l6 l7 l8 l9 l10 l11 l12 l13 σ = some (r, τ)) (hR : hw_R D b σ H) (hS : va_S (fun q => b ≤ q) s.heap H locs) {ls : Array Slot} (hl : hw_L ls 14 255 [(0, hw_vr b (some x0)), (3, .int l3), (4, .int l4), (5, .int l5), (6, .int l6), (7, hw_vr b l7), (8, hw_vr b l8), (9, .int l9), (10, .int l10), (11, .int l11), (12, .int l12), (13, .int l13)]) : W p l e rm11_read s m args below meth c H locs 0 0 (MQ below (hw_QI D b τ r) args s 0 0 (fun q => b ≤ q)) (F0 m 165 ls []) := by
  obtain ⟨hx, hb, hml, hr, hown, hts, hlk, hE, hnm⟩ := id C0
  have hown : s.vm.findClass RX11 = some m.cls := hown
  have hK := hE.1
  unfold m11_read_b165 at hm
  refine hw_iinc (v := (l13 + 1)) (lv' := [(13, .int (l13 + 1)), (0, hw_vr b (some x0)), (3, .int l3), (4, .int l4), (5, .int l5), (6, .int l6), (7, hw_vr b l7), (8, hw_vr b l8), (9, .int l9), (10, .int l10), (11, .int l11), (12, .int l12)]) hx hb dX11_read_165 hl (k := 11) rfl rfl (by decide) (by decide) rfl (fun ls hl => ?_)
  refine lv_goto (tgt := 104) hx hb dX11_read_168 (by decide) ?_
  exact hk104 hm hR hS (hl.sub [1, 2, 3, 4, 5, 6, 7, 8, 9, 10, 11, 0] rfl)
def m11_read_b163 (k80 : Nat → Int32 → Int32 → Int32 → Int32 → Option Nat → Option Nat → Int32 → Int32 → Int32 → Int32 → hw_S → Option (Int32 × hw_S)) (k104 : Nat → Int32 → Int32 → Int32 → Int32 → Option Nat → Option Nat → Int32 → Int32 → Int32 → Int32 → Int32 → hw_S → Option (Int32 × hw_S)) (x0 : Nat) (l3 : Int32) (l4 : Int32) (l5 : Int32) (l6 : Int32) (l7 : Option Nat) (l8 : Option Nat) (l9 : Int32) (l11 : Int32) (l12 : Int32) (l13 : Int32) (t0 : Int32) (σ : hw_S) : Option (Int32 × hw_S) :=
  m11_read_b165 k80 k104 x0 l3 l4 l5 l6 l7 l8 l9 t0 l11 l12 l13 σ
set_option maxRecDepth 100000 in
theorem w11_read_b163 {p : Program} {l : Launch} {e : Env} {s : State} {m : MethodId} {args : Array Value} {below : List Frame} {meth : Method} {c : Code} {D : hw_D} {b : Nat} {k80 : Nat → Int32 → Int32 → Int32 → Int32 → Option Nat → Option Nat → Int32 → Int32 → Int32 → Int32 → hw_S → Option (Int32 × hw_S)} {k104 : Nat → Int32 → Int32 → Int32 → Int32 → Option Nat → Option Nat → Int32 → Int32 → Int32 → Int32 → Int32 → hw_S → Option (Int32 × hw_S)} {r : Int32} {τ : hw_S} (C0 : hw_C p s m args meth c D yX11_read cX11_read 14 (some .int)) (hk80 : ∀ {x0 : Nat} {l3 : Int32} {l4 : Int32} {l5 : Int32} {l6 : Int32} {l7 : Option Nat} {l8 : Option Nat} {l9 : Int32} {l10 : Int32} {l11 : Int32} {l12 : Int32} {σ : hw_S} {H : Heap} {locs : List Loc} {ls : Array Slot}, k80 x0 l3 l4 l5 l6 l7 l8 l9 l10 l11 l12 σ = some (r, τ) → hw_R D b σ H → va_S (fun q => b ≤ q) s.heap H locs → hw_L ls 14 255 [(0, hw_vr b (some x0)), (3, .int l3), (4, .int l4), (5, .int l5), (6, .int l6), (7, hw_vr b l7), (8, hw_vr b l8), (9, .int l9), (10, .int l10), (11, .int l11), (12, .int l12)] → W p l e rm11_read s m args below meth c H locs 0 0 (MQ below (hw_QI D b τ r) args s 0 0 (fun q => b ≤ q)) (F0 m 80 ls [])) (hk104 : ∀ {x0 : Nat} {l3 : Int32} {l4 : Int32} {l5 : Int32} {l6 : Int32} {l7 : Option Nat} {l8 : Option Nat} {l9 : Int32} {l10 : Int32} {l11 : Int32} {l12 : Int32} {l13 : Int32} {σ : hw_S} {H : Heap} {locs : List Loc} {ls : Array Slot}, k104 x0 l3 l4 l5 l6 l7 l8 l9 l10 l11 l12 l13 σ = some (r, τ) → hw_R D b σ H → va_S (fun q => b ≤ q) s.heap H locs → hw_L ls 14 255 [(0, hw_vr b (some x0)), (3, .int l3), (4, .int l4), (5, .int l5), (6, .int l6), (7, hw_vr b l7), (8, hw_vr b l8), (9, .int l9), (10, .int l10), (11, .int l11), (12, .int l12), (13, .int l13)] → W p l e rm11_read s m args below meth c H locs 0 0 (MQ below (hw_QI D b τ r) args s 0 0 (fun q => b ≤ q)) (F0 m 104 ls [])) {x0 : Nat} {l3 : Int32} {l4 : Int32} {l5 : Int32} {l6 : Int32} {l7 : Option Nat} {l8 : Option Nat} {l9 : Int32} {l11 : Int32} {l12 : Int32} {l13 : Int32} {t0 : Int32} {σ : hw_S} {H : Heap} {locs : List Loc} (hm : m11_read_b163 k80 k104 x0 l3 l4 l5 l6 l7 l8 l9 l11 l12 l13 t0 σ = some (r, τ)) (hR : hw_R D b σ H) (hS : va_S (fun q => b ≤ q) s.heap H locs) {ls : Array Slot} (hl : hw_L ls 14 255 [(0, hw_vr b (some x0)), (3, .int l3), (4, .int l4), (5, .int l5), (6, .int l6), (7, hw_vr b l7), (8, hw_vr b l8), (9, .int l9), (11, .int l11), (12, .int l12), (13, .int l13)]) : W p l e rm11_read s m args below meth c H locs 0 0 (MQ below (hw_QI D b τ r) args s 0 0 (fun q => b ≤ q)) (F0 m 163 ls [.int t0]) := by
  obtain ⟨hx, hb, hml, hr, hown, hts, hlk, hE, hnm⟩ := id C0
  have hown : s.vm.findClass RX11 = some m.cls := hown
  have hK := hE.1
  unfold m11_read_b163 at hm
  refine hw_istore (lv' := [(10, .int t0), (0, hw_vr b (some x0)), (3, .int l3), (4, .int l4), (5, .int l5), (6, .int l6), (7, hw_vr b l7), (8, hw_vr b l8), (9, .int l9), (11, .int l11), (12, .int l12), (13, .int l13)]) hx hb dX11_read_163 hl (by decide) (by decide) rfl (fun ls hl => ?_)
  exact w11_read_b165 C0 hk80 hk104 hm hR hS (hl.sub [1, 2, 3, 4, 5, 6, 7, 8, 0, 9, 10, 11] rfl)
def m11_read_b104 (k80 : Nat → Int32 → Int32 → Int32 → Int32 → Option Nat → Option Nat → Int32 → Int32 → Int32 → Int32 → hw_S → Option (Int32 × hw_S)) : Nat → Nat → Int32 → Int32 → Int32 → Int32 → Option Nat → Option Nat → Int32 → Int32 → Int32 → Int32 → Int32 → hw_S → Option (Int32 × hw_S)
  | 0, _, _, _, _, _, _, _, _, _, _, _, _, _ => none
  | n + 1, x0, l3, l4, l5, l6, l7, l8, l9, l10, l11, l12, l13, σ =>
  (if (100 : Int32) ≤ l13 then
  k80 x0 l3 l4 l5 l6 l7 l8 l9 l10 l11 (l12 + 1) σ
  else
  (hw_gP (hw_q 11) 10 (some x0) σ).bind fun v112 =>
  (hw_aI 0 v112 l13 σ).bind fun v117 =>
  (if v117 = l4 then
  (hw_rv hw_qL l7 σ).bind fun a129 =>
  (m3_formAt a129 l4 l13 σ).bind fun v129 =>
  (if v129 = l5 then
  (if (l9 + 1) = (1 : Int32) then
  m11_read_b163 k80 (m11_read_b104 k80 n) x0 l3 l4 l5 l6 l7 l8 (l9 + 1) (((100 : Int32) * l12) + l13) l12 l13 (((100 : Int32) * l12) + l13) σ
  else
  m11_read_b163 k80 (m11_read_b104 k80 n) x0 l3 l4 l5 l6 l7 l8 (l9 + 1) (((100 : Int32) * l12) + l13) l12 l13 l10 σ)
  else
  m11_read_b165 k80 (m11_read_b104 k80 n) x0 l3 l4 l5 l6 l7 l8 l9 l10 l11 l12 l13 σ)
  else
  m11_read_b165 k80 (m11_read_b104 k80 n) x0 l3 l4 l5 l6 l7 l8 l9 l10 l11 l12 l13 σ))
set_option maxRecDepth 100000 in
theorem w11_read_b104 {p : Program} {l : Launch} {e : Env} {s : State} {m : MethodId} {args : Array Value} {below : List Frame} {meth : Method} {c : Code} {D : hw_D} {b : Nat} {k80 : Nat → Int32 → Int32 → Int32 → Int32 → Option Nat → Option Nat → Int32 → Int32 → Int32 → Int32 → hw_S → Option (Int32 × hw_S)} {r : Int32} {τ : hw_S} (C0 : hw_C p s m args meth c D yX11_read cX11_read 14 (some .int)) (hk80 : ∀ {x0 : Nat} {l3 : Int32} {l4 : Int32} {l5 : Int32} {l6 : Int32} {l7 : Option Nat} {l8 : Option Nat} {l9 : Int32} {l10 : Int32} {l11 : Int32} {l12 : Int32} {σ : hw_S} {H : Heap} {locs : List Loc} {ls : Array Slot}, k80 x0 l3 l4 l5 l6 l7 l8 l9 l10 l11 l12 σ = some (r, τ) → hw_R D b σ H → va_S (fun q => b ≤ q) s.heap H locs → hw_L ls 14 255 [(0, hw_vr b (some x0)), (3, .int l3), (4, .int l4), (5, .int l5), (6, .int l6), (7, hw_vr b l7), (8, hw_vr b l8), (9, .int l9), (10, .int l10), (11, .int l11), (12, .int l12)] → W p l e rm11_read s m args below meth c H locs 0 0 (MQ below (hw_QI D b τ r) args s 0 0 (fun q => b ≤ q)) (F0 m 80 ls [])) : ∀ (n : Nat) {x0 : Nat} {l3 : Int32} {l4 : Int32} {l5 : Int32} {l6 : Int32} {l7 : Option Nat} {l8 : Option Nat} {l9 : Int32} {l10 : Int32} {l11 : Int32} {l12 : Int32} {l13 : Int32} {σ : hw_S} {H : Heap} {locs : List Loc} {ls : Array Slot}, m11_read_b104 k80 n x0 l3 l4 l5 l6 l7 l8 l9 l10 l11 l12 l13 σ = some (r, τ) → hw_R D b σ H → va_S (fun q => b ≤ q) s.heap H locs → hw_L ls 14 255 [(0, hw_vr b (some x0)), (3, .int l3), (4, .int l4), (5, .int l5), (6, .int l6), (7, hw_vr b l7), (8, hw_vr b l8), (9, .int l9), (10, .int l10), (11, .int l11), (12, .int l12), (13, .int l13)] → W p l e rm11_read s m args below meth c H locs 0 0 (MQ below (hw_QI D b τ r) args s 0 0 (fun q => b ≤ q)) (F0 m 104 ls []) := by
  obtain ⟨hx, hb, hml, hr, hown, hts, hlk, hE, hnm⟩ := id C0
  have hown : s.vm.findClass RX11 = some m.cls := hown
  have hK := hE.1
  intro n
  induction n with
  | zero => intro _ _ _ _ _ _ _ _ _ _ _ _ _ _ _ _ hm; cases hm
  | succ n ih =>
    intro x0 l3 l4 l5 l6 l7 l8 l9 l10 l11 l12 l13 σ H locs ls hm hR hS hl
    rw [m11_read_b104] at hm
    refine lv_iload hx hb dX11_read_104 (hl.at 11 rfl) ?_
    refine lv_bipush (v := 100) hx hb dX11_read_106 (by decide) ?_
    refine lv_icmp_ge (tgt := 171) hx hb dX11_read_108 (by decide) (fun c108 => ?_) (fun c108 => ?_)
    · have hm := hw_ip hm c108
      refine hw_iinc (v := (l12 + 1)) (lv' := [(12, .int (l12 + 1)), (0, hw_vr b (some x0)), (3, .int l3), (4, .int l4), (5, .int l5), (6, .int l6), (7, hw_vr b l7), (8, hw_vr b l8), (9, .int l9), (10, .int l10), (11, .int l11), (13, .int l13)]) hx hb dX11_read_171 hl (k := 10) rfl rfl (by decide) (by decide) rfl (fun ls hl => ?_)
      refine lv_goto (tgt := 80) hx hb dX11_read_174 (by decide) ?_
      exact hk80 hm hR hS (hl.sub [1, 2, 3, 4, 5, 6, 7, 8, 9, 10, 0] rfl)
    · have hm := hw_in hm c108
      refine hw_aload_n hx hb dX11_read_111 rfl (hl.at 0 rfl) ?_
      obtain ⟨v112, e112, hm⟩ := hw_bs hm
      refine hw_getP hx hb hw_cf11 hts hown hK hR e112 (by decide) rfl (hts _ hw_m33) (fun _ h9 => h9) dX11_read_112 ?_
      refine lv_iload hx hb dX11_read_115 (hl.at 11 rfl) ?_
      obtain ⟨v117, e117, hm⟩ := hw_bs hm
      refine hw_iald hx hb hK hR e117 dX11_read_117 ?_
      refine lv_iload hx hb dX11_read_118 (hl.at 2 rfl) ?_
      refine lv_icmp_ne (tgt := 165) hx hb dX11_read_120 (by decide) (fun c120 => ?_) (fun c120 => ?_)
      · have hm := hw_in hm c120
        exact w11_read_b165 C0 hk80 ih hm hR hS (hl.sub [0, 1, 2, 3, 4, 5, 6, 7, 8, 9, 10, 11] rfl)
      · have hm := hw_ip hm c120
        refine hw_aload hx hb dX11_read_123 (hl.at 5 rfl) ?_
        refine lv_iload hx hb dX11_read_125 (hl.at 2 rfl) ?_
        refine lv_iload hx hb dX11_read_127 (hl.at 11 rfl) ?_
        obtain ⟨a129, g129, hm⟩ := hw_bs hm
        obtain ⟨h129, ht129⟩ := hw_rv_of g129
        rw [h129]
        obtain ⟨ci129, C129, f129_1, f129_2, f129_3, f129_4⟩ := hw_sel7 (y := fun _ => yX3_formAt) ht129 hw_m558 hw_m561 hw_m562 hw_m564 hw_m565 hw_m566 hw_m567
        obtain ⟨v129, e129, hm⟩ := hw_bs hm
        refine hw_cRI (va_runU (C := C129) (owner := RX3) (As := [.int l4, .int l13]) (rest := []) ⟨hx, hb, hml, hown, hts⟩ (c3_formAt l D b e129) (va_cwU 2 hts (hw_gU hw_m556 hw_m557 f129_4 hw_m559 hw_m285 hw_m560) rfl rfl rfl rfl (by decide +kernel) ⟨(Nat.le_of_ble_eq_true rfl), (Nat.le_of_ble_eq_true rfl)⟩) (hw_preV hE hR f129_3 f129_2 f129_1) rfl rfl hl.sz rfl (lv_room (Nat.le_of_ble_eq_true rfl)) dX11_read_129 ⟨(Nat.le_of_ble_eq_true rfl), (Nat.le_of_ble_eq_true rfl)⟩) ?_
        refine lv_iload hx hb dX11_read_132 (hl.at 3 rfl) ?_
        refine lv_icmp_ne (tgt := 165) hx hb dX11_read_134 (by decide) (fun c134 => ?_) (fun c134 => ?_)
        · have hm := hw_in hm c134
          exact w11_read_b165 C0 hk80 ih hm hR hS (hl.sub [0, 1, 2, 3, 4, 5, 6, 7, 8, 9, 10, 11] rfl)
        · have hm := hw_ip hm c134
          refine hw_iinc (v := (l9 + 1)) (lv' := [(9, .int (l9 + 1)), (0, hw_vr b (some x0)), (3, .int l3), (4, .int l4), (5, .int l5), (6, .int l6), (7, hw_vr b l7), (8, hw_vr b l8), (10, .int l10), (11, .int l11), (12, .int l12), (13, .int l13)]) hx hb dX11_read_137 hl (k := 7) rfl rfl (by decide) (by decide) rfl (fun ls hl => ?_)
          refine lv_bipush (v := 100) hx hb dX11_read_140 (by decide) ?_
          refine lv_iload hx hb dX11_read_142 (hl.at 10 rfl) ?_
          refine lv_imul hx hb dX11_read_144 ?_
          refine lv_iload hx hb dX11_read_145 (hl.at 11 rfl) ?_
          refine lv_iadd hx hb dX11_read_147 ?_
          refine hw_istore (lv' := [(11, .int (((100 : Int32) * l12) + l13)), (9, .int (l9 + 1)), (0, hw_vr b (some x0)), (3, .int l3), (4, .int l4), (5, .int l5), (6, .int l6), (7, hw_vr b l7), (8, hw_vr b l8), (10, .int l10), (12, .int l12), (13, .int l13)]) hx hb dX11_read_148 hl (by decide) (by decide) rfl (fun ls hl => ?_)
          refine lv_iload hx hb dX11_read_150 (hl.at 1 rfl) ?_
          refine lv_iconst (v := 1) hx hb dX11_read_152 (by decide) ?_
          refine lv_icmp_ne (tgt := 161) hx hb dX11_read_153 (by decide) (fun c153 => ?_) (fun c153 => ?_)
          · have hm := hw_in hm c153
            refine lv_iload hx hb dX11_read_161 (hl.at 9 rfl) ?_
            exact w11_read_b163 C0 hk80 ih hm hR hS (hl.sub [2, 3, 4, 5, 6, 7, 8, 1, 0, 10, 11] rfl)
          · have hm := hw_ip hm c153
            refine lv_iload hx hb dX11_read_156 (hl.at 0 rfl) ?_
            refine lv_goto (tgt := 163) hx hb dX11_read_158 (by decide) ?_
            exact w11_read_b163 C0 hk80 ih hm hR hS (hl.sub [2, 3, 4, 5, 6, 7, 8, 1, 0, 10, 11] rfl)
def m11_read_b80 : Nat → Nat → Int32 → Int32 → Int32 → Int32 → Option Nat → Option Nat → Int32 → Int32 → Int32 → Int32 → hw_S → Option (Int32 × hw_S)
  | 0, _, _, _, _, _, _, _, _, _, _, _, _ => none
  | n + 1, x0, l3, l4, l5, l6, l7, l8, l9, l10, l11, l12, σ =>
  (if (60 : Int32) < l12 then
  (m11_pick l6 l9 l10 l11).bind fun v185 =>
  some (v185, σ)
  else
  (m11_doingOf l12 l3).bind fun v95 =>
  (hw_rv (hw_q 11) (some x0) σ).bind fun a98 =>
  (m11_goThroughPaces x0 l7 l8 v95 σ).bind fun σ98 =>
  m11_read_b104 (m11_read_b80 n) hw_fu x0 l3 l4 l5 l6 l7 l8 l9 l10 l11 l12 (0 : Int32) σ98)
set_option maxRecDepth 100000 in
theorem w11_read_b80 {p : Program} {l : Launch} {e : Env} {s : State} {m : MethodId} {args : Array Value} {below : List Frame} {meth : Method} {c : Code} {D : hw_D} {b : Nat} {r : Int32} {τ : hw_S} (C0 : hw_C p s m args meth c D yX11_read cX11_read 14 (some .int)) : ∀ (n : Nat) {x0 : Nat} {l3 : Int32} {l4 : Int32} {l5 : Int32} {l6 : Int32} {l7 : Option Nat} {l8 : Option Nat} {l9 : Int32} {l10 : Int32} {l11 : Int32} {l12 : Int32} {σ : hw_S} {H : Heap} {locs : List Loc} {ls : Array Slot}, m11_read_b80 n x0 l3 l4 l5 l6 l7 l8 l9 l10 l11 l12 σ = some (r, τ) → hw_R D b σ H → va_S (fun q => b ≤ q) s.heap H locs → hw_L ls 14 255 [(0, hw_vr b (some x0)), (3, .int l3), (4, .int l4), (5, .int l5), (6, .int l6), (7, hw_vr b l7), (8, hw_vr b l8), (9, .int l9), (10, .int l10), (11, .int l11), (12, .int l12)] → W p l e rm11_read s m args below meth c H locs 0 0 (MQ below (hw_QI D b τ r) args s 0 0 (fun q => b ≤ q)) (F0 m 80 ls []) := by
  obtain ⟨hx, hb, hml, hr, hown, hts, hlk, hE, hnm⟩ := id C0
  have hown : s.vm.findClass RX11 = some m.cls := hown
  have hK := hE.1
  intro n
  induction n with
  | zero => intro _ _ _ _ _ _ _ _ _ _ _ _ _ _ _ hm; cases hm
  | succ n ih =>
    intro x0 l3 l4 l5 l6 l7 l8 l9 l10 l11 l12 σ H locs ls hm hR hS hl
    rw [m11_read_b80] at hm
    refine lv_iload hx hb dX11_read_80 (hl.at 10 rfl) ?_
    refine lv_bipush (v := 60) hx hb dX11_read_82 (by decide) ?_
    refine lv_icmp_gt (tgt := 177) hx hb dX11_read_84 (by decide) (fun c84 => ?_) (fun c84 => ?_)
    · have hm := hw_ip hm c84
      refine lv_iload hx hb dX11_read_177 (hl.at 4 rfl) ?_
      refine lv_iload hx hb dX11_read_179 (hl.at 7 rfl) ?_
      refine lv_iload hx hb dX11_read_181 (hl.at 8 rfl) ?_
      refine lv_iload hx hb dX11_read_183 (hl.at 9 rfl) ?_
      obtain ⟨v185, e185, hm⟩ := hw_bs hm
      refine hw_cRI (va_runS (As := [.int l6, .int l9, .int l10, .int l11]) (rest := []) ⟨hx, hb, hml, hown, hts⟩ (c11_pick l D e185) (cwS 4 hts (hw_gS hw_m724 hw_m725 hw_m2 hw_m726) rfl rfl rfl (by decide +kernel) ⟨(Nat.le_of_ble_eq_true rfl), (Nat.le_of_ble_eq_true rfl)⟩) (hw_pre0 hE) rfl rfl hl.sz rfl (lv_room (Nat.le_of_ble_eq_true rfl)) dX11_read_185 ⟨(Nat.le_of_ble_eq_true rfl), (Nat.le_of_ble_eq_true rfl)⟩) ?_
      exact hw_rWI hx hb hr hlk hR hS hm dX11_read_188
    · have hm := hw_in hm c84
      refine hw_aload_n hx hb dX11_read_87 rfl (hl.at 0 rfl) ?_
      refine hw_aload hx hb dX11_read_88 (hl.at 5 rfl) ?_
      refine hw_aload hx hb dX11_read_90 (hl.at 6 rfl) ?_
      refine lv_iload hx hb dX11_read_92 (hl.at 10 rfl) ?_
      refine lv_iload_n hx hb dX11_read_94 rfl (hl.at 1 rfl) ?_
      obtain ⟨v95, e95, hm⟩ := hw_bs hm
      refine hw_cRI (va_runS (As := [.int l12, .int l3]) (rest := [hw_vr b l8, hw_vr b l7, hw_vr b (some x0)]) ⟨hx, hb, hml, hown, hts⟩ (c11_doingOf l D e95) (cwS 2 hts (hw_gS hw_m688 hw_m689 hw_m2 hw_m690) rfl rfl rfl (by decide +kernel) ⟨(Nat.le_of_ble_eq_true rfl), (Nat.le_of_ble_eq_true rfl)⟩) (hw_pre0 hE) rfl rfl hl.sz rfl (lv_room (hw_sm (List.forall_mem_cons.mpr ⟨(hw_vr_cat _ _), (List.forall_mem_cons.mpr ⟨(hw_vr_cat _ _), (List.forall_mem_cons.mpr ⟨(hw_vr_cat _ _), (fun _ h => absurd h List.not_mem_nil)⟩)⟩)⟩) (Nat.le_of_ble_eq_true rfl))) dX11_read_95 ⟨(Nat.le_of_ble_eq_true rfl), (Nat.le_of_ble_eq_true rfl)⟩) ?_
      obtain ⟨a98, g98, hm⟩ := hw_bs hm
      obtain ⟨rfl, ht98⟩ := hw_rv_th g98
      obtain ⟨σ98, e98, hm⟩ := hw_bs hm
      refine hw_cWV (va_runV (As := [hw_vr b l7, hw_vr b l8, .int v95]) (rest := []) ⟨hx, hb, hml, hown, hts⟩ (c11_goThroughPaces l D b e98) (cwV 3 hts (hw_gV hw_m738 hw_m739 hw_m740 hw_m2 hw_m741) rfl rfl rfl (by decide +kernel) ⟨(Nat.le_of_ble_eq_true rfl), (Nat.le_of_ble_eq_true rfl)⟩) (hw_preV (ci := 11) hE hR rfl (by decide) (hw_q_of ht98)) rfl rfl hl.sz rfl (lv_room (Nat.le_of_ble_eq_true rfl)) dX11_read_98 ⟨(Nat.le_of_ble_eq_true rfl), (Nat.le_of_ble_eq_true rfl)⟩) hS (fun _ _ hR hS => ?_)
      refine lv_iconst (v := 0) hx hb dX11_read_101 (by decide) ?_
      refine hw_istore (lv' := [(13, .int (0 : Int32)), (0, hw_vr b (some x0)), (3, .int l3), (4, .int l4), (5, .int l5), (6, .int l6), (7, hw_vr b l7), (8, hw_vr b l8), (9, .int l9), (10, .int l10), (11, .int l11), (12, .int l12)]) hx hb dX11_read_102 hl (by decide) (by decide) rfl (fun ls hl => ?_)
      exact w11_read_b104 C0 ih hw_fu hm hR hS (hl.sub [1, 2, 3, 4, 5, 6, 7, 8, 9, 10, 11, 0] rfl)
def m11_read (x0 : Nat) (l1 : Int32) (l2 : Int32) (l3 : Int32) (l4 : Int32) (l5 : Int32) (l6 : Int32) (σ : hw_S) : Option (Int32 × hw_S) :=
  (hw_rv (hw_q 11) (some x0) σ).bind fun a2 =>
  (m11_lawAt x0 l1 σ).bind fun v2 =>
  (hw_rv (hw_q 11) (some x0) σ).bind fun a9 =>
  (m11_stuffAt x0 l2 σ).bind fun v9 =>
  (if v2 = none then
  m11_read_b34 x0 σ
  else
  (if v9 = none then
  m11_read_b34 x0 σ
  else
  (m11_isWithin l6 (0 : Int32) (2 : Int32)).bind fun v28 =>
  (if v28 = 0 then
  m11_read_b34 x0 σ
  else
  (m11_isFlow l3).bind fun v37 =>
  (if v37 = 0 then
  m11_read_b63 x0 σ
  else
  (m11_isWithin l4 (0 : Int32) (999 : Int32)).bind fun v49 =>
  (if v49 = 0 then
  m11_read_b63 x0 σ
  else
  (m11_isForm l5).bind fun v57 =>
  (if v57 = 0 then
  m11_read_b63 x0 σ
  else
  m11_read_b80 hw_fu x0 l3 l4 l5 l6 v2 v9 (0 : Int32) ((-5) : Int32) ((-5) : Int32) (1 : Int32) σ))))))
set_option maxRecDepth 100000 in
theorem w11_read_s {p : Program} {l : Launch} {e : Env} {s : State} {m : MethodId} {args : Array Value} {below : List Frame} {meth : Method} {c : Code} {D : hw_D} {b : Nat} {x0 : Nat} {l1 : Int32} {l2 : Int32} {l3 : Int32} {l4 : Int32} {l5 : Int32} {l6 : Int32} {σ : hw_S} {r : Int32} {τ : hw_S} {H : Heap} {locs : List Loc} (hm : m11_read x0 l1 l2 l3 l4 l5 l6 σ = some (r, τ)) (C0 : hw_C p s m args meth c D yX11_read cX11_read 14 (some .int)) (hR : hw_R D b σ H) (hS : va_S (fun q => b ≤ q) s.heap H locs) {ls : Array Slot} (hl : hw_L ls 14 255 [(0, hw_vr b (some x0)), (1, .int l1), (2, .int l2), (3, .int l3), (4, .int l4), (5, .int l5), (6, .int l6)]) : W p l e rm11_read s m args below meth c H locs 0 0 (MQ below (hw_QI D b τ r) args s 0 0 (fun q => b ≤ q)) (F0 m 0 ls []) := by
  obtain ⟨hx, hb, hml, hr, hown, hts, hlk, hE, hnm⟩ := id C0
  have hown : s.vm.findClass RX11 = some m.cls := hown
  have hK := hE.1
  unfold m11_read at hm
  refine hw_aload_n hx hb dX11_read_0 rfl (hl.at 0 rfl) ?_
  refine lv_iload_n hx hb dX11_read_1 rfl (hl.at 1 rfl) ?_
  obtain ⟨a2, g2, hm⟩ := hw_bs hm
  obtain ⟨rfl, ht2⟩ := hw_rv_th g2
  obtain ⟨v2, e2, hm⟩ := hw_bs hm
  refine hw_cRP (va_runV (As := [.int l1]) (rest := []) ⟨hx, hb, hml, hown, hts⟩ (c11_lawAt l D b e2) (cwV 1 hts (hw_gV hw_m426 hw_m427 hw_m428 hw_m2 hw_m429) rfl rfl rfl (by decide +kernel) ⟨(Nat.le_of_ble_eq_true rfl), (Nat.le_of_ble_eq_true rfl)⟩) (hw_preV (ci := 11) hE hR rfl (by decide) (hw_q_of ht2)) rfl rfl hl.sz rfl (lv_room (Nat.le_of_ble_eq_true rfl)) dX11_read_2 ⟨(Nat.le_of_ble_eq_true rfl), (Nat.le_of_ble_eq_true rfl)⟩) ?_
  refine hw_asto (lv' := [(7, hw_vr b v2), (0, hw_vr b (some x0)), (1, .int l1), (2, .int l2), (3, .int l3), (4, .int l4), (5, .int l5), (6, .int l6)]) hx hb dX11_read_5 hl (by decide) (by decide) rfl (fun ls hl => ?_)
  refine hw_aload_n hx hb dX11_read_7 rfl (hl.at 1 rfl) ?_
  refine lv_iload_n hx hb dX11_read_8 rfl (hl.at 3 rfl) ?_
  obtain ⟨a9, g9, hm⟩ := hw_bs hm
  obtain ⟨rfl, ht9⟩ := hw_rv_th g9
  obtain ⟨v9, e9, hm⟩ := hw_bs hm
  refine hw_cRP (va_runV (As := [.int l2]) (rest := []) ⟨hx, hb, hml, hown, hts⟩ (c11_stuffAt l D b e9) (cwV 1 hts (hw_gV hw_m121 hw_m122 hw_m123 hw_m2 hw_m124) rfl rfl rfl (by decide +kernel) ⟨(Nat.le_of_ble_eq_true rfl), (Nat.le_of_ble_eq_true rfl)⟩) (hw_preV (ci := 11) hE hR rfl (by decide) (hw_q_of ht9)) rfl rfl hl.sz rfl (lv_room (Nat.le_of_ble_eq_true rfl)) dX11_read_9 ⟨(Nat.le_of_ble_eq_true rfl), (Nat.le_of_ble_eq_true rfl)⟩) ?_
  refine hw_asto (lv' := [(8, hw_vr b v9), (7, hw_vr b v2), (0, hw_vr b (some x0)), (1, .int l1), (2, .int l2), (3, .int l3), (4, .int l4), (5, .int l5), (6, .int l6)]) hx hb dX11_read_12 hl (by decide) (by decide) rfl (fun ls hl => ?_)
  refine hw_aload hx hb dX11_read_14 (hl.at 1 rfl) ?_
  refine hw_ifnull (tgt := 34) hx hb dX11_read_16 (by decide) (fun c16 => ?_) (fun c16 => ?_)
  · have hm := hw_ip hm c16
    exact w11_read_b34 C0 hm hR hS (hl.sub [2] rfl)
  · have hm := hw_in hm c16
    refine hw_aload hx hb dX11_read_19 (hl.at 0 rfl) ?_
    refine hw_ifnull (tgt := 34) hx hb dX11_read_21 (by decide) (fun c21 => ?_) (fun c21 => ?_)
    · have hm := hw_ip hm c21
      exact w11_read_b34 C0 hm hR hS (hl.sub [2] rfl)
    · have hm := hw_in hm c21
      refine lv_iload hx hb dX11_read_24 (hl.at 8 rfl) ?_
      refine lv_iconst (v := 0) hx hb dX11_read_26 (by decide) ?_
      refine lv_iconst (v := 2) hx hb dX11_read_27 (by decide) ?_
      obtain ⟨v28, e28, hm⟩ := hw_bs hm
      refine hw_cRI (va_runS (As := [.int l6, .int (0 : Int32), .int (2 : Int32)]) (rest := []) ⟨hx, hb, hml, hown, hts⟩ (c11_isWithin l D e28) (cwS 3 hts (hw_gS hw_m99 hw_m100 hw_m2 hw_m101) rfl rfl rfl (by decide +kernel) ⟨(Nat.le_of_ble_eq_true rfl), (Nat.le_of_ble_eq_true rfl)⟩) (hw_pre0 hE) rfl rfl hl.sz rfl (lv_room (Nat.le_of_ble_eq_true rfl)) dX11_read_28 ⟨(Nat.le_of_ble_eq_true rfl), (Nat.le_of_ble_eq_true rfl)⟩) ?_
      refine lv_if_ne (tgt := 36) hx hb dX11_read_31 (by decide) (fun c31 => ?_) (fun c31 => ?_)
      · have hm := hw_in hm c31
        refine lv_iload_n hx hb dX11_read_36 rfl (hl.at 5 rfl) ?_
        obtain ⟨v37, e37, hm⟩ := hw_bs hm
        refine hw_cRI (va_runS (As := [.int l3]) (rest := []) ⟨hx, hb, hml, hown, hts⟩ (c11_isFlow l D e37) (cwS 1 hts (hw_gS hw_m454 hw_m455 hw_m2 hw_m456) rfl rfl rfl (by decide +kernel) ⟨(Nat.le_of_ble_eq_true rfl), (Nat.le_of_ble_eq_true rfl)⟩) (hw_pre0 hE) rfl rfl hl.sz rfl (lv_room (Nat.le_of_ble_eq_true rfl)) dX11_read_37 ⟨(Nat.le_of_ble_eq_true rfl), (Nat.le_of_ble_eq_true rfl)⟩) ?_
        refine lv_if_eq (tgt := 63) hx hb dX11_read_40 (by decide) (fun c40 => ?_) (fun c40 => ?_)
        · have hm := hw_ip hm c40
          exact w11_read_b63 C0 hm hR hS (hl.sub [2] rfl)
        · have hm := hw_in hm c40
          refine lv_iload hx hb dX11_read_43 (hl.at 6 rfl) ?_
          refine lv_iconst (v := 0) hx hb dX11_read_45 (by decide) ?_
          refine lv_sipush (v := 999) hx hb dX11_read_46 (by decide) ?_
          obtain ⟨v49, e49, hm⟩ := hw_bs hm
          refine hw_cRI (va_runS (As := [.int l4, .int (0 : Int32), .int (999 : Int32)]) (rest := []) ⟨hx, hb, hml, hown, hts⟩ (c11_isWithin l D e49) (cwS 3 hts (hw_gS hw_m99 hw_m100 hw_m2 hw_m101) rfl rfl rfl (by decide +kernel) ⟨(Nat.le_of_ble_eq_true rfl), (Nat.le_of_ble_eq_true rfl)⟩) (hw_pre0 hE) rfl rfl hl.sz rfl (lv_room (Nat.le_of_ble_eq_true rfl)) dX11_read_49 ⟨(Nat.le_of_ble_eq_true rfl), (Nat.le_of_ble_eq_true rfl)⟩) ?_
          refine lv_if_eq (tgt := 63) hx hb dX11_read_52 (by decide) (fun c52 => ?_) (fun c52 => ?_)
          · have hm := hw_ip hm c52
            exact w11_read_b63 C0 hm hR hS (hl.sub [2] rfl)
          · have hm := hw_in hm c52
            refine lv_iload hx hb dX11_read_55 (hl.at 7 rfl) ?_
            obtain ⟨v57, e57, hm⟩ := hw_bs hm
            refine hw_cRI (va_runS (As := [.int l5]) (rest := []) ⟨hx, hb, hml, hown, hts⟩ (c11_isForm l D e57) (cwS 1 hts (hw_gS hw_m735 hw_m736 hw_m2 hw_m737) rfl rfl rfl (by decide +kernel) ⟨(Nat.le_of_ble_eq_true rfl), (Nat.le_of_ble_eq_true rfl)⟩) (hw_pre0 hE) rfl rfl hl.sz rfl (lv_room (Nat.le_of_ble_eq_true rfl)) dX11_read_57 ⟨(Nat.le_of_ble_eq_true rfl), (Nat.le_of_ble_eq_true rfl)⟩) ?_
            refine lv_if_ne (tgt := 66) hx hb dX11_read_60 (by decide) (fun c60 => ?_) (fun c60 => ?_)
            · have hm := hw_in hm c60
              refine lv_iconst (v := 0) hx hb dX11_read_66 (by decide) ?_
              refine hw_istore (lv' := [(9, .int (0 : Int32)), (8, hw_vr b v9), (7, hw_vr b v2), (0, hw_vr b (some x0)), (1, .int l1), (2, .int l2), (3, .int l3), (4, .int l4), (5, .int l5), (6, .int l6)]) hx hb dX11_read_67 hl (by decide) (by decide) rfl (fun ls hl => ?_)
              refine lv_bipush (v := (-5)) hx hb dX11_read_69 (by decide) ?_
              refine hw_istore (lv' := [(10, .int ((-5) : Int32)), (9, .int (0 : Int32)), (8, hw_vr b v9), (7, hw_vr b v2), (0, hw_vr b (some x0)), (1, .int l1), (2, .int l2), (3, .int l3), (4, .int l4), (5, .int l5), (6, .int l6)]) hx hb dX11_read_71 hl (by decide) (by decide) rfl (fun ls hl => ?_)
              refine lv_bipush (v := (-5)) hx hb dX11_read_73 (by decide) ?_
              refine hw_istore (lv' := [(11, .int ((-5) : Int32)), (10, .int ((-5) : Int32)), (9, .int (0 : Int32)), (8, hw_vr b v9), (7, hw_vr b v2), (0, hw_vr b (some x0)), (1, .int l1), (2, .int l2), (3, .int l3), (4, .int l4), (5, .int l5), (6, .int l6)]) hx hb dX11_read_75 hl (by decide) (by decide) rfl (fun ls hl => ?_)
              refine lv_iconst (v := 1) hx hb dX11_read_77 (by decide) ?_
              refine hw_istore (lv' := [(12, .int (1 : Int32)), (11, .int ((-5) : Int32)), (10, .int ((-5) : Int32)), (9, .int (0 : Int32)), (8, hw_vr b v9), (7, hw_vr b v2), (0, hw_vr b (some x0)), (1, .int l1), (2, .int l2), (3, .int l3), (4, .int l4), (5, .int l5), (6, .int l6)]) hx hb dX11_read_78 hl (by decide) (by decide) rfl (fun ls hl => ?_)
              exact w11_read_b80 C0 hw_fu hm hR hS (hl.sub [6, 9, 10, 11, 12, 5, 4, 3, 2, 1, 0] rfl)
            · have hm := hw_ip hm c60
              exact w11_read_b63 C0 hm hR hS (hl.sub [2] rfl)
      · have hm := hw_ip hm c31
        exact w11_read_b34 C0 hm hR hS (hl.sub [2] rfl)
set_option maxRecDepth 100000 in
theorem c11_read (l : Launch) (D : hw_D) (b : Nat) {x0 : Nat} {l1 : Int32} {l2 : Int32} {l3 : Int32} {l4 : Int32} {l5 : Int32} {l6 : Int32} {σ : hw_S} {r : Int32} {τ : hw_S} (hm : m11_read x0 l1 l2 l3 l4 l5 l6 σ = some (r, τ)) : Met l yX11_read (Cond.code yX11_read cX11_read 14 (some .int) :: wsL_law) rm11_read (hw_P1 D b σ [hw_vr b (some x0), .int l1, .int l2, .int l3, .int l4, .int l5, .int l6]) (hw_QI D b τ r) 0 0 (fun q => b ≤ q) := by
  refine hw_start1 (by decide +kernel) (by exact Nat.le_of_ble_eq_true rfl) ?_
  intro p e s m below meth c ls C0 hR hS hl
  have hl : lv_has ls 14 [(0, hw_vr b (some x0)), (1, .int l1), (2, .int l2), (3, .int l3), (4, .int l4), (5, .int l5), (6, .int l6)] := by exact hl
  exact w11_read_s hm C0 hR hS ⟨hl, (List.forall_mem_cons.mpr ⟨(fun h => by rw [show (hw_vr b (some x0) : Value).category = 1 from (hw_vr_cat _ _)] at h; cases h), (List.forall_mem_cons.mpr ⟨(fun h => absurd (show (1 : Nat) = 2 from h) (by decide)), (List.forall_mem_cons.mpr ⟨(fun h => absurd (show (1 : Nat) = 2 from h) (by decide)), (List.forall_mem_cons.mpr ⟨(fun h => absurd (show (1 : Nat) = 2 from h) (by decide)), (List.forall_mem_cons.mpr ⟨(fun h => absurd (show (1 : Nat) = 2 from h) (by decide)), (List.forall_mem_cons.mpr ⟨(fun h => absurd (show (1 : Nat) = 2 from h) (by decide)), (List.forall_mem_cons.mpr ⟨(fun h => absurd (show (1 : Nat) = 2 from h) (by decide)), (fun _ h => absurd h List.not_mem_nil)⟩)⟩)⟩)⟩)⟩)⟩)⟩)⟩

abbrev rm12_read : Room := { frames := 4, cells := 0, slots := 0, locals := 110 }
def m12_read_b26 (x0 : Nat) (σ : hw_S) : Option (Int32 × hw_S) :=
  some (((-1) : Int32), σ)
set_option maxRecDepth 100000 in
theorem w12_read_b26 {p : Program} {l : Launch} {e : Env} {s : State} {m : MethodId} {args : Array Value} {below : List Frame} {meth : Method} {c : Code} {D : hw_D} {b : Nat} {r : Int32} {τ : hw_S} (C0 : hw_C p s m args meth c D yX12_read cX12_read 14 (some .int)) {x0 : Nat} {σ : hw_S} {H : Heap} {locs : List Loc} (hm : m12_read_b26 x0 σ = some (r, τ)) (hR : hw_R D b σ H) (hS : va_S (fun q => b ≤ q) s.heap H locs) {ls : Array Slot} (hl : hw_L ls 14 255 [(0, hw_vr b (some x0))]) : W p l e rm12_read s m args below meth c H locs 0 0 (MQ below (hw_QI D b τ r) args s 0 0 (fun q => b ≤ q)) (F0 m 26 ls []) := by
  obtain ⟨hx, hb, hml, hr, hown, hts, hlk, hE, hnm⟩ := id C0
  have hown : s.vm.findClass RX12 = some m.cls := hown
  have hK := hE.1
  unfold m12_read_b26 at hm
  refine lv_iconst (v := (-1)) hx hb dX12_read_26 (by decide) ?_
  exact hw_rWI hx hb hr hlk hR hS hm dX12_read_27
def m12_read_b57 (x0 : Nat) (σ : hw_S) : Option (Int32 × hw_S) :=
  some (((-2) : Int32), σ)
set_option maxRecDepth 100000 in
theorem w12_read_b57 {p : Program} {l : Launch} {e : Env} {s : State} {m : MethodId} {args : Array Value} {below : List Frame} {meth : Method} {c : Code} {D : hw_D} {b : Nat} {r : Int32} {τ : hw_S} (C0 : hw_C p s m args meth c D yX12_read cX12_read 14 (some .int)) {x0 : Nat} {σ : hw_S} {H : Heap} {locs : List Loc} (hm : m12_read_b57 x0 σ = some (r, τ)) (hR : hw_R D b σ H) (hS : va_S (fun q => b ≤ q) s.heap H locs) {ls : Array Slot} (hl : hw_L ls 14 255 [(0, hw_vr b (some x0))]) : W p l e rm12_read s m args below meth c H locs 0 0 (MQ below (hw_QI D b τ r) args s 0 0 (fun q => b ≤ q)) (F0 m 57 ls []) := by
  obtain ⟨hx, hb, hml, hr, hown, hts, hlk, hE, hnm⟩ := id C0
  have hown : s.vm.findClass RX12 = some m.cls := hown
  have hK := hE.1
  unfold m12_read_b57 at hm
  refine lv_bipush (v := (-2)) hx hb dX12_read_57 (by decide) ?_
  exact hw_rWI hx hb hr hlk hR hS hm dX12_read_59
def m12_read_b229 (x0 : Nat) (t0 : Int32) (σ : hw_S) : Option (Int32 × hw_S) :=
  some (t0, σ)
set_option maxRecDepth 100000 in
theorem w12_read_b229 {p : Program} {l : Launch} {e : Env} {s : State} {m : MethodId} {args : Array Value} {below : List Frame} {meth : Method} {c : Code} {D : hw_D} {b : Nat} {r : Int32} {τ : hw_S} (C0 : hw_C p s m args meth c D yX12_read cX12_read 14 (some .int)) {x0 : Nat} {t0 : Int32} {σ : hw_S} {H : Heap} {locs : List Loc} (hm : m12_read_b229 x0 t0 σ = some (r, τ)) (hR : hw_R D b σ H) (hS : va_S (fun q => b ≤ q) s.heap H locs) {ls : Array Slot} (hl : hw_L ls 14 255 [(0, hw_vr b (some x0))]) : W p l e rm12_read s m args below meth c H locs 0 0 (MQ below (hw_QI D b τ r) args s 0 0 (fun q => b ≤ q)) (F0 m 229 ls [.int t0]) := by
  obtain ⟨hx, hb, hml, hr, hown, hts, hlk, hE, hnm⟩ := id C0
  have hown : s.vm.findClass RX12 = some m.cls := hown
  have hK := hE.1
  unfold m12_read_b229 at hm
  exact hw_rWI hx hb hr hlk hR hS hm dX12_read_229
def m12_read_b192 (k74 : Nat → Int32 → Int32 → Int32 → Int32 → Int32 → Int32 → Int32 → Int32 → Int32 → Int32 → hw_S → Option (Int32 × hw_S)) (k84 : Nat → Int32 → Int32 → Int32 → Int32 → Int32 → Int32 → Int32 → Int32 → Int32 → Int32 → Int32 → hw_S → Option (Int32 × hw_S)) (x0 : Nat) (l1 : Int32) (l2 : Int32) (l3 : Int32) (l4 : Int32) (l5 : Int32) (l6 : Int32) (l7 : Int32) (l8 : Int32) (l10 : Int32) (l11 : Int32) (t0 : Int32) (σ : hw_S) : Option (Int32 × hw_S) :=
  k84 x0 l1 l2 l3 l4 l5 l6 l7 l8 t0 l10 (l11 + 1) σ
set_option maxRecDepth 100000 in
theorem w12_read_b192 {p : Program} {l : Launch} {e : Env} {s : State} {m : MethodId} {args : Array Value} {below : List Frame} {meth : Method} {c : Code} {D : hw_D} {b : Nat} {k74 : Nat → Int32 → Int32 → Int32 → Int32 → Int32 → Int32 → Int32 → Int32 → Int32 → Int32 → hw_S → Option (Int32 × hw_S)} {k84 : Nat → Int32 → Int32 → Int32 → Int32 → Int32 → Int32 → Int32 → Int32 → Int32 → Int32 → Int32 → hw_S → Option (Int32 × hw_S)} {r : Int32} {τ : hw_S} (C0 : hw_C p s m args meth c D yX12_read cX12_read 14 (some .int)) (hk74 : ∀ {x0 : Nat} {l1 : Int32} {l2 : Int32} {l3 : Int32} {l4 : Int32} {l5 : Int32} {l6 : Int32} {l7 : Int32} {l8 : Int32} {l9 : Int32} {l10 : Int32} {σ : hw_S} {H : Heap} {locs : List Loc} {ls : Array Slot}, k74 x0 l1 l2 l3 l4 l5 l6 l7 l8 l9 l10 σ = some (r, τ) → hw_R D b σ H → va_S (fun q => b ≤ q) s.heap H locs → hw_L ls 14 255 [(0, hw_vr b (some x0)), (1, .int l1), (2, .int l2), (3, .int l3), (4, .int l4), (5, .int l5), (6, .int l6), (7, .int l7), (8, .int l8), (9, .int l9), (10, .int l10)] → W p l e rm12_read s m args below meth c H locs 0 0 (MQ below (hw_QI D b τ r) args s 0 0 (fun q => b ≤ q)) (F0 m 74 ls [])) (hk84 : ∀ {x0 : Nat} {l1 : Int32} {l2 : Int32} {l3 : Int32} {l4 : Int32} {l5 : Int32} {l6 : Int32} {l7 : Int32} {l8 : Int32} {l9 : Int32} {l10 : Int32} {l11 : Int32} {σ : hw_S} {H : Heap} {locs : List Loc} {ls : Array Slot}, k84 x0 l1 l2 l3 l4 l5 l6 l7 l8 l9 l10 l11 σ = some (r, τ) → hw_R D b σ H → va_S (fun q => b ≤ q) s.heap H locs → hw_L ls 14 255 [(0, hw_vr b (some x0)), (1, .int l1), (2, .int l2), (3, .int l3), (4, .int l4), (5, .int l5), (6, .int l6), (7, .int l7), (8, .int l8), (9, .int l9), (10, .int l10), (11, .int l11)] → W p l e rm12_read s m args below meth c H locs 0 0 (MQ below (hw_QI D b τ r) args s 0 0 (fun q => b ≤ q)) (F0 m 84 ls [])) {x0 : Nat} {l1 : Int32} {l2 : Int32} {l3 : Int32} {l4 : Int32} {l5 : Int32} {l6 : Int32} {l7 : Int32} {l8 : Int32} {l10 : Int32} {l11 : Int32} {t0 : Int32} {σ : hw_S} {H : Heap} {locs : List Loc} (hm : m12_read_b192 k74 k84 x0 l1 l2 l3 l4 l5 l6 l7 l8 l10 l11 t0 σ = some (r, τ)) (hR : hw_R D b σ H) (hS : va_S (fun q => b ≤ q) s.heap H locs) {ls : Array Slot} (hl : hw_L ls 14 255 [(0, hw_vr b (some x0)), (1, .int l1), (2, .int l2), (3, .int l3), (4, .int l4), (5, .int l5), (6, .int l6), (7, .int l7), (8, .int l8), (10, .int l10), (11, .int l11)]) : W p l e rm12_read s m args below meth c H locs 0 0 (MQ below (hw_QI D b τ r) args s 0 0 (fun q => b ≤ q)) (F0 m 192 ls [.int t0]) := by
  obtain ⟨hx, hb, hml, hr, hown, hts, hlk, hE, hnm⟩ := id C0
  have hown : s.vm.findClass RX12 = some m.cls := hown
  have hK := hE.1
  unfold m12_read_b192 at hm
  refine hw_istore (lv' := [(9, .int t0), (0, hw_vr b (some x0)), (1, .int l1), (2, .int l2), (3, .int l3), (4, .int l4), (5, .int l5), (6, .int l6), (7, .int l7), (8, .int l8), (10, .int l10), (11, .int l11)]) hx hb dX12_read_192 hl (by decide) (by decide) rfl (fun ls hl => ?_)
  refine hw_iinc (v := (l11 + 1)) (lv' := [(11, .int (l11 + 1)), (9, .int t0), (0, hw_vr b (some x0)), (1, .int l1), (2, .int l2), (3, .int l3), (4, .int l4), (5, .int l5), (6, .int l6), (7, .int l7), (8, .int l8), (10, .int l10)]) hx hb dX12_read_194 hl (k := 11) rfl rfl (by decide) (by decide) rfl (fun ls hl => ?_)
  refine lv_goto (tgt := 84) hx hb dX12_read_197 (by decide) ?_
  exact hk84 hm hR hS (hl.sub [2, 3, 4, 5, 6, 7, 8, 9, 10, 1, 11, 0] rfl)
def m12_read_b172 (k74 : Nat → Int32 → Int32 → Int32 → Int32 → Int32 → Int32 → Int32 → Int32 → Int32 → Int32 → hw_S → Option (Int32 × hw_S)) (k84 : Nat → Int32 → Int32 → Int32 → Int32 → Int32 → Int32 → Int32 → Int32 → Int32 → Int32 → Int32 → hw_S → Option (Int32 × hw_S)) (x0 : Nat) (l1 : Int32) (l2 : Int32) (l3 : Int32) (l4 : Int32) (l5 : Int32) (l6 : Int32) (l7 : Int32) (l9 : Int32) (l10 : Int32) (l11 : Int32) (l13 : Int32) (t0 : Int32) (σ : hw_S) : Option (Int32 × hw_S) :=
  (if l13 = 0 then
  m12_read_b192 k74 k84 x0 l1 l2 l3 l4 l5 l6 l7 t0 l10 l11 l9 σ
  else
  m12_read_b192 k74 k84 x0 l1 l2 l3 l4 l5 l6 l7 t0 l10 l11 (((100 : Int32) * l10) + l11) σ)
set_option maxRecDepth 100000 in
theorem w12_read_b172 {p : Program} {l : Launch} {e : Env} {s : State} {m : MethodId} {args : Array Value} {below : List Frame} {meth : Method} {c : Code} {D : hw_D} {b : Nat} {k74 : Nat → Int32 → Int32 → Int32 → Int32 → Int32 → Int32 → Int32 → Int32 → Int32 → Int32 → hw_S → Option (Int32 × hw_S)} {k84 : Nat → Int32 → Int32 → Int32 → Int32 → Int32 → Int32 → Int32 → Int32 → Int32 → Int32 → Int32 → hw_S → Option (Int32 × hw_S)} {r : Int32} {τ : hw_S} (C0 : hw_C p s m args meth c D yX12_read cX12_read 14 (some .int)) (hk74 : ∀ {x0 : Nat} {l1 : Int32} {l2 : Int32} {l3 : Int32} {l4 : Int32} {l5 : Int32} {l6 : Int32} {l7 : Int32} {l8 : Int32} {l9 : Int32} {l10 : Int32} {σ : hw_S} {H : Heap} {locs : List Loc} {ls : Array Slot}, k74 x0 l1 l2 l3 l4 l5 l6 l7 l8 l9 l10 σ = some (r, τ) → hw_R D b σ H → va_S (fun q => b ≤ q) s.heap H locs → hw_L ls 14 255 [(0, hw_vr b (some x0)), (1, .int l1), (2, .int l2), (3, .int l3), (4, .int l4), (5, .int l5), (6, .int l6), (7, .int l7), (8, .int l8), (9, .int l9), (10, .int l10)] → W p l e rm12_read s m args below meth c H locs 0 0 (MQ below (hw_QI D b τ r) args s 0 0 (fun q => b ≤ q)) (F0 m 74 ls [])) (hk84 : ∀ {x0 : Nat} {l1 : Int32} {l2 : Int32} {l3 : Int32} {l4 : Int32} {l5 : Int32} {l6 : Int32} {l7 : Int32} {l8 : Int32} {l9 : Int32} {l10 : Int32} {l11 : Int32} {σ : hw_S} {H : Heap} {locs : List Loc} {ls : Array Slot}, k84 x0 l1 l2 l3 l4 l5 l6 l7 l8 l9 l10 l11 σ = some (r, τ) → hw_R D b σ H → va_S (fun q => b ≤ q) s.heap H locs → hw_L ls 14 255 [(0, hw_vr b (some x0)), (1, .int l1), (2, .int l2), (3, .int l3), (4, .int l4), (5, .int l5), (6, .int l6), (7, .int l7), (8, .int l8), (9, .int l9), (10, .int l10), (11, .int l11)] → W p l e rm12_read s m args below meth c H locs 0 0 (MQ below (hw_QI D b τ r) args s 0 0 (fun q => b ≤ q)) (F0 m 84 ls [])) {x0 : Nat} {l1 : Int32} {l2 : Int32} {l3 : Int32} {l4 : Int32} {l5 : Int32} {l6 : Int32} {l7 : Int32} {l9 : Int32} {l10 : Int32} {l11 : Int32} {l13 : Int32} {t0 : Int32} {σ : hw_S} {H : Heap} {locs : List Loc} (hm : m12_read_b172 k74 k84 x0 l1 l2 l3 l4 l5 l6 l7 l9 l10 l11 l13 t0 σ = some (r, τ)) (hR : hw_R D b σ H) (hS : va_S (fun q => b ≤ q) s.heap H locs) {ls : Array Slot} (hl : hw_L ls 14 255 [(0, hw_vr b (some x0)), (1, .int l1), (2, .int l2), (3, .int l3), (4, .int l4), (5, .int l5), (6, .int l6), (7, .int l7), (9, .int l9), (10, .int l10), (11, .int l11), (13, .int l13)]) : W p l e rm12_read s m args below meth c H locs 0 0 (MQ below (hw_QI D b τ r) args s 0 0 (fun q => b ≤ q)) (F0 m 172 ls [.int t0]) := by
  obtain ⟨hx, hb, hml, hr, hown, hts, hlk, hE, hnm⟩ := id C0
  have hown : s.vm.findClass RX12 = some m.cls := hown
  have hK := hE.1
  unfold m12_read_b172 at hm
  refine hw_istore (lv' := [(8, .int t0), (0, hw_vr b (some x0)), (1, .int l1), (2, .int l2), (3, .int l3), (4, .int l4), (5, .int l5), (6, .int l6), (7, .int l7), (9, .int l9), (10, .int l10), (11, .int l11), (13, .int l13)]) hx hb dX12_read_172 hl (by decide) (by decide) rfl (fun ls hl => ?_)
  refine lv_iload hx hb dX12_read_174 (hl.at 12 rfl) ?_
  refine lv_if_eq (tgt := 190) hx hb dX12_read_176 (by decide) (fun c176 => ?_) (fun c176 => ?_)
  · have hm := hw_ip hm c176
    refine lv_iload hx hb dX12_read_190 (hl.at 9 rfl) ?_
    exact w12_read_b192 C0 hk74 hk84 hm hR hS (hl.sub [1, 2, 3, 4, 5, 6, 7, 8, 0, 10, 11] rfl)
  · have hm := hw_in hm c176
    refine lv_bipush (v := 100) hx hb dX12_read_179 (by decide) ?_
    refine lv_iload hx hb dX12_read_181 (hl.at 10 rfl) ?_
    refine lv_imul hx hb dX12_read_183 ?_
    refine lv_iload hx hb dX12_read_184 (hl.at 11 rfl) ?_
    refine lv_iadd hx hb dX12_read_186 ?_
    refine lv_goto (tgt := 192) hx hb dX12_read_187 (by decide) ?_
    exact w12_read_b192 C0 hk74 hk84 hm hR hS (hl.sub [1, 2, 3, 4, 5, 6, 7, 8, 0, 10, 11] rfl)
def m12_read_b170 (k74 : Nat → Int32 → Int32 → Int32 → Int32 → Int32 → Int32 → Int32 → Int32 → Int32 → Int32 → hw_S → Option (Int32 × hw_S)) (k84 : Nat → Int32 → Int32 → Int32 → Int32 → Int32 → Int32 → Int32 → Int32 → Int32 → Int32 → Int32 → hw_S → Option (Int32 × hw_S)) (x0 : Nat) (l1 : Int32) (l2 : Int32) (l3 : Int32) (l4 : Int32) (l5 : Int32) (l6 : Int32) (l7 : Int32) (l8 : Int32) (l9 : Int32) (l10 : Int32) (l11 : Int32) (l13 : Int32) (σ : hw_S) : Option (Int32 × hw_S) :=
  m12_read_b172 k74 k84 x0 l1 l2 l3 l4 l5 l6 l7 l9 l10 l11 l13 l8 σ
set_option maxRecDepth 100000 in
theorem w12_read_b170 {p : Program} {l : Launch} {e : Env} {s : State} {m : MethodId} {args : Array Value} {below : List Frame} {meth : Method} {c : Code} {D : hw_D} {b : Nat} {k74 : Nat → Int32 → Int32 → Int32 → Int32 → Int32 → Int32 → Int32 → Int32 → Int32 → Int32 → hw_S → Option (Int32 × hw_S)} {k84 : Nat → Int32 → Int32 → Int32 → Int32 → Int32 → Int32 → Int32 → Int32 → Int32 → Int32 → Int32 → hw_S → Option (Int32 × hw_S)} {r : Int32} {τ : hw_S} (C0 : hw_C p s m args meth c D yX12_read cX12_read 14 (some .int)) (hk74 : ∀ {x0 : Nat} {l1 : Int32} {l2 : Int32} {l3 : Int32} {l4 : Int32} {l5 : Int32} {l6 : Int32} {l7 : Int32} {l8 : Int32} {l9 : Int32} {l10 : Int32} {σ : hw_S} {H : Heap} {locs : List Loc} {ls : Array Slot}, k74 x0 l1 l2 l3 l4 l5 l6 l7 l8 l9 l10 σ = some (r, τ) → hw_R D b σ H → va_S (fun q => b ≤ q) s.heap H locs → hw_L ls 14 255 [(0, hw_vr b (some x0)), (1, .int l1), (2, .int l2), (3, .int l3), (4, .int l4), (5, .int l5), (6, .int l6), (7, .int l7), (8, .int l8), (9, .int l9), (10, .int l10)] → W p l e rm12_read s m args below meth c H locs 0 0 (MQ below (hw_QI D b τ r) args s 0 0 (fun q => b ≤ q)) (F0 m 74 ls [])) (hk84 : ∀ {x0 : Nat} {l1 : Int32} {l2 : Int32} {l3 : Int32} {l4 : Int32} {l5 : Int32} {l6 : Int32} {l7 : Int32} {l8 : Int32} {l9 : Int32} {l10 : Int32} {l11 : Int32} {σ : hw_S} {H : Heap} {locs : List Loc} {ls : Array Slot}, k84 x0 l1 l2 l3 l4 l5 l6 l7 l8 l9 l10 l11 σ = some (r, τ) → hw_R D b σ H → va_S (fun q => b ≤ q) s.heap H locs → hw_L ls 14 255 [(0, hw_vr b (some x0)), (1, .int l1), (2, .int l2), (3, .int l3), (4, .int l4), (5, .int l5), (6, .int l6), (7, .int l7), (8, .int l8), (9, .int l9), (10, .int l10), (11, .int l11)] → W p l e rm12_read s m args below meth c H locs 0 0 (MQ below (hw_QI D b τ r) args s 0 0 (fun q => b ≤ q)) (F0 m 84 ls [])) {x0 : Nat} {l1 : Int32} {l2 : Int32} {l3 : Int32} {l4 : Int32} {l5 : Int32} {l6 : Int32} {l7 : Int32} {l8 : Int32} {l9 : Int32} {l10 : Int32} {l11 : Int32} {l13 : Int32} {σ : hw_S} {H : Heap} {locs : List Loc} (hm : m12_read_b170 k74 k84 x0 l1 l2 l3 l4 l5 l6 l7 l8 l9 l10 l11 l13 σ = some (r, τ)) (hR : hw_R D b σ H) (hS : va_S (fun q => b ≤ q) s.heap H locs) {ls : Array Slot} (hl : hw_L ls 14 255 [(0, hw_vr b (some x0)), (1, .int l1), (2, .int l2), (3, .int l3), (4, .int l4), (5, .int l5), (6, .int l6), (7, .int l7), (8, .int l8), (9, .int l9), (10, .int l10), (11, .int l11), (13, .int l13)]) : W p l e rm12_read s m args below meth c H locs 0 0 (MQ below (hw_QI D b τ r) args s 0 0 (fun q => b ≤ q)) (F0 m 170 ls []) := by
  obtain ⟨hx, hb, hml, hr, hown, hts, hlk, hE, hnm⟩ := id C0
  have hown : s.vm.findClass RX12 = some m.cls := hown
  have hK := hE.1
  unfold m12_read_b170 at hm
  refine lv_iload hx hb dX12_read_170 (hl.at 8 rfl) ?_
  exact w12_read_b172 C0 hk74 hk84 hm hR hS (hl.sub [0, 1, 2, 3, 4, 5, 6, 7, 9, 10, 11, 12] rfl)
def m12_read_b144 (k74 : Nat → Int32 → Int32 → Int32 → Int32 → Int32 → Int32 → Int32 → Int32 → Int32 → Int32 → hw_S → Option (Int32 × hw_S)) (k84 : Nat → Int32 → Int32 → Int32 → Int32 → Int32 → Int32 → Int32 → Int32 → Int32 → Int32 → Int32 → hw_S → Option (Int32 × hw_S)) (x0 : Nat) (l1 : Int32) (l2 : Int32) (l3 : Int32) (l4 : Int32) (l5 : Int32) (l6 : Int32) (l8 : Int32) (l9 : Int32) (l10 : Int32) (l11 : Int32) (l13 : Int32) (t0 : Int32) (t1 : Int32) (σ : hw_S) : Option (Int32 × hw_S) :=
  (if l13 = 0 then
  m12_read_b170 k74 k84 x0 l1 l2 l3 l4 l5 l6 (t0 + t1) l8 l9 l10 l11 l13 σ
  else
  (if l8 = ((-5) : Int32) then
  m12_read_b172 k74 k84 x0 l1 l2 l3 l4 l5 l6 (t0 + t1) l9 l10 l11 l13 (((100 : Int32) * l10) + l11) σ
  else
  m12_read_b170 k74 k84 x0 l1 l2 l3 l4 l5 l6 (t0 + t1) l8 l9 l10 l11 l13 σ))
set_option maxRecDepth 100000 in
theorem w12_read_b144 {p : Program} {l : Launch} {e : Env} {s : State} {m : MethodId} {args : Array Value} {below : List Frame} {meth : Method} {c : Code} {D : hw_D} {b : Nat} {k74 : Nat → Int32 → Int32 → Int32 → Int32 → Int32 → Int32 → Int32 → Int32 → Int32 → Int32 → hw_S → Option (Int32 × hw_S)} {k84 : Nat → Int32 → Int32 → Int32 → Int32 → Int32 → Int32 → Int32 → Int32 → Int32 → Int32 → Int32 → hw_S → Option (Int32 × hw_S)} {r : Int32} {τ : hw_S} (C0 : hw_C p s m args meth c D yX12_read cX12_read 14 (some .int)) (hk74 : ∀ {x0 : Nat} {l1 : Int32} {l2 : Int32} {l3 : Int32} {l4 : Int32} {l5 : Int32} {l6 : Int32} {l7 : Int32} {l8 : Int32} {l9 : Int32} {l10 : Int32} {σ : hw_S} {H : Heap} {locs : List Loc} {ls : Array Slot}, k74 x0 l1 l2 l3 l4 l5 l6 l7 l8 l9 l10 σ = some (r, τ) → hw_R D b σ H → va_S (fun q => b ≤ q) s.heap H locs → hw_L ls 14 255 [(0, hw_vr b (some x0)), (1, .int l1), (2, .int l2), (3, .int l3), (4, .int l4), (5, .int l5), (6, .int l6), (7, .int l7), (8, .int l8), (9, .int l9), (10, .int l10)] → W p l e rm12_read s m args below meth c H locs 0 0 (MQ below (hw_QI D b τ r) args s 0 0 (fun q => b ≤ q)) (F0 m 74 ls [])) (hk84 : ∀ {x0 : Nat} {l1 : Int32} {l2 : Int32} {l3 : Int32} {l4 : Int32} {l5 : Int32} {l6 : Int32} {l7 : Int32} {l8 : Int32} {l9 : Int32} {l10 : Int32} {l11 : Int32} {σ : hw_S} {H : Heap} {locs : List Loc} {ls : Array Slot}, k84 x0 l1 l2 l3 l4 l5 l6 l7 l8 l9 l10 l11 σ = some (r, τ) → hw_R D b σ H → va_S (fun q => b ≤ q) s.heap H locs → hw_L ls 14 255 [(0, hw_vr b (some x0)), (1, .int l1), (2, .int l2), (3, .int l3), (4, .int l4), (5, .int l5), (6, .int l6), (7, .int l7), (8, .int l8), (9, .int l9), (10, .int l10), (11, .int l11)] → W p l e rm12_read s m args below meth c H locs 0 0 (MQ below (hw_QI D b τ r) args s 0 0 (fun q => b ≤ q)) (F0 m 84 ls [])) {x0 : Nat} {l1 : Int32} {l2 : Int32} {l3 : Int32} {l4 : Int32} {l5 : Int32} {l6 : Int32} {l8 : Int32} {l9 : Int32} {l10 : Int32} {l11 : Int32} {l13 : Int32} {t0 : Int32} {t1 : Int32} {σ : hw_S} {H : Heap} {locs : List Loc} (hm : m12_read_b144 k74 k84 x0 l1 l2 l3 l4 l5 l6 l8 l9 l10 l11 l13 t0 t1 σ = some (r, τ)) (hR : hw_R D b σ H) (hS : va_S (fun q => b ≤ q) s.heap H locs) {ls : Array Slot} (hl : hw_L ls 14 255 [(0, hw_vr b (some x0)), (1, .int l1), (2, .int l2), (3, .int l3), (4, .int l4), (5, .int l5), (6, .int l6), (8, .int l8), (9, .int l9), (10, .int l10), (11, .int l11), (13, .int l13)]) : W p l e rm12_read s m args below meth c H locs 0 0 (MQ below (hw_QI D b τ r) args s 0 0 (fun q => b ≤ q)) (F0 m 144 ls [.int t1, .int t0]) := by
  obtain ⟨hx, hb, hml, hr, hown, hts, hlk, hE, hnm⟩ := id C0
  have hown : s.vm.findClass RX12 = some m.cls := hown
  have hK := hE.1
  unfold m12_read_b144 at hm
  refine lv_iadd hx hb dX12_read_144 ?_
  refine hw_istore (lv' := [(7, .int (t0 + t1)), (0, hw_vr b (some x0)), (1, .int l1), (2, .int l2), (3, .int l3), (4, .int l4), (5, .int l5), (6, .int l6), (8, .int l8), (9, .int l9), (10, .int l10), (11, .int l11), (13, .int l13)]) hx hb dX12_read_145 hl (by decide) (by decide) rfl (fun ls hl => ?_)
  refine lv_iload hx hb dX12_read_147 (hl.at 12 rfl) ?_
  refine lv_if_eq (tgt := 170) hx hb dX12_read_149 (by decide) (fun c149 => ?_) (fun c149 => ?_)
  · have hm := hw_ip hm c149
    exact w12_read_b170 C0 hk74 hk84 hm hR hS (hl.sub [1, 2, 3, 4, 5, 6, 7, 0, 8, 9, 10, 11, 12] rfl)
  · have hm := hw_in hm c149
    refine lv_iload hx hb dX12_read_152 (hl.at 8 rfl) ?_
    refine lv_bipush (v := (-5)) hx hb dX12_read_154 (by decide) ?_
    refine lv_icmp_ne (tgt := 170) hx hb dX12_read_156 (by decide) (fun c156 => ?_) (fun c156 => ?_)
    · have hm := hw_in hm c156
      exact w12_read_b170 C0 hk74 hk84 hm hR hS (hl.sub [1, 2, 3, 4, 5, 6, 7, 0, 8, 9, 10, 11, 12] rfl)
    · have hm := hw_ip hm c156
      refine lv_bipush (v := 100) hx hb dX12_read_159 (by decide) ?_
      refine lv_iload hx hb dX12_read_161 (hl.at 10 rfl) ?_
      refine lv_imul hx hb dX12_read_163 ?_
      refine lv_iload hx hb dX12_read_164 (hl.at 11 rfl) ?_
      refine lv_iadd hx hb dX12_read_166 ?_
      refine lv_goto (tgt := 172) hx hb dX12_read_167 (by decide) ?_
      exact w12_read_b172 C0 hk74 hk84 hm hR hS (hl.sub [1, 2, 3, 4, 5, 6, 7, 0, 9, 10, 11, 12] rfl)
def m12_read_b130 (k74 : Nat → Int32 → Int32 → Int32 → Int32 → Int32 → Int32 → Int32 → Int32 → Int32 → Int32 → hw_S → Option (Int32 × hw_S)) (k84 : Nat → Int32 → Int32 → Int32 → Int32 → Int32 → Int32 → Int32 → Int32 → Int32 → Int32 → Int32 → hw_S → Option (Int32 × hw_S)) (x0 : Nat) (l1 : Int32) (l2 : Int32) (l3 : Int32) (l4 : Int32) (l5 : Int32) (l6 : Int32) (l7 : Int32) (l8 : Int32) (l9 : Int32) (l10 : Int32) (l11 : Int32) (t0 : Int32) (σ : hw_S) : Option (Int32 × hw_S) :=
  (if t0 = 0 then
  m12_read_b144 k74 k84 x0 l1 l2 l3 l4 l5 l6 l8 l9 l10 l11 t0 l7 (0 : Int32) σ
  else
  m12_read_b144 k74 k84 x0 l1 l2 l3 l4 l5 l6 l8 l9 l10 l11 t0 l7 (1 : Int32) σ)
set_option maxRecDepth 100000 in
theorem w12_read_b130 {p : Program} {l : Launch} {e : Env} {s : State} {m : MethodId} {args : Array Value} {below : List Frame} {meth : Method} {c : Code} {D : hw_D} {b : Nat} {k74 : Nat → Int32 → Int32 → Int32 → Int32 → Int32 → Int32 → Int32 → Int32 → Int32 → Int32 → hw_S → Option (Int32 × hw_S)} {k84 : Nat → Int32 → Int32 → Int32 → Int32 → Int32 → Int32 → Int32 → Int32 → Int32 → Int32 → Int32 → hw_S → Option (Int32 × hw_S)} {r : Int32} {τ : hw_S} (C0 : hw_C p s m args meth c D yX12_read cX12_read 14 (some .int)) (hk74 : ∀ {x0 : Nat} {l1 : Int32} {l2 : Int32} {l3 : Int32} {l4 : Int32} {l5 : Int32} {l6 : Int32} {l7 : Int32} {l8 : Int32} {l9 : Int32} {l10 : Int32} {σ : hw_S} {H : Heap} {locs : List Loc} {ls : Array Slot}, k74 x0 l1 l2 l3 l4 l5 l6 l7 l8 l9 l10 σ = some (r, τ) → hw_R D b σ H → va_S (fun q => b ≤ q) s.heap H locs → hw_L ls 14 255 [(0, hw_vr b (some x0)), (1, .int l1), (2, .int l2), (3, .int l3), (4, .int l4), (5, .int l5), (6, .int l6), (7, .int l7), (8, .int l8), (9, .int l9), (10, .int l10)] → W p l e rm12_read s m args below meth c H locs 0 0 (MQ below (hw_QI D b τ r) args s 0 0 (fun q => b ≤ q)) (F0 m 74 ls [])) (hk84 : ∀ {x0 : Nat} {l1 : Int32} {l2 : Int32} {l3 : Int32} {l4 : Int32} {l5 : Int32} {l6 : Int32} {l7 : Int32} {l8 : Int32} {l9 : Int32} {l10 : Int32} {l11 : Int32} {σ : hw_S} {H : Heap} {locs : List Loc} {ls : Array Slot}, k84 x0 l1 l2 l3 l4 l5 l6 l7 l8 l9 l10 l11 σ = some (r, τ) → hw_R D b σ H → va_S (fun q => b ≤ q) s.heap H locs → hw_L ls 14 255 [(0, hw_vr b (some x0)), (1, .int l1), (2, .int l2), (3, .int l3), (4, .int l4), (5, .int l5), (6, .int l6), (7, .int l7), (8, .int l8), (9, .int l9), (10, .int l10), (11, .int l11)] → W p l e rm12_read s m args below meth c H locs 0 0 (MQ below (hw_QI D b τ r) args s 0 0 (fun q => b ≤ q)) (F0 m 84 ls [])) {x0 : Nat} {l1 : Int32} {l2 : Int32} {l3 : Int32} {l4 : Int32} {l5 : Int32} {l6 : Int32} {l7 : Int32} {l8 : Int32} {l9 : Int32} {l10 : Int32} {l11 : Int32} {t0 : Int32} {σ : hw_S} {H : Heap} {locs : List Loc} (hm : m12_read_b130 k74 k84 x0 l1 l2 l3 l4 l5 l6 l7 l8 l9 l10 l11 t0 σ = some (r, τ)) (hR : hw_R D b σ H) (hS : va_S (fun q => b ≤ q) s.heap H locs) {ls : Array Slot} (hl : hw_L ls 14 255 [(0, hw_vr b (some x0)), (1, .int l1), (2, .int l2), (3, .int l3), (4, .int l4), (5, .int l5), (6, .int l6), (7, .int l7), (8, .int l8), (9, .int l9), (10, .int l10), (11, .int l11)]) : W p l e rm12_read s m args below meth c H locs 0 0 (MQ below (hw_QI D b τ r) args s 0 0 (fun q => b ≤ q)) (F0 m 130 ls [.int t0]) := by
  obtain ⟨hx, hb, hml, hr, hown, hts, hlk, hE, hnm⟩ := id C0
  have hown : s.vm.findClass RX12 = some m.cls := hown
  have hK := hE.1
  unfold m12_read_b130 at hm
  refine hw_istore (lv' := [(13, .int t0), (0, hw_vr b (some x0)), (1, .int l1), (2, .int l2), (3, .int l3), (4, .int l4), (5, .int l5), (6, .int l6), (7, .int l7), (8, .int l8), (9, .int l9), (10, .int l10), (11, .int l11)]) hx hb dX12_read_130 hl (by decide) (by decide) rfl (fun ls hl => ?_)
  refine lv_iload hx hb dX12_read_132 (hl.at 8 rfl) ?_
  refine lv_iload hx hb dX12_read_134 (hl.at 0 rfl) ?_
  refine lv_if_eq (tgt := 143) hx hb dX12_read_136 (by decide) (fun c136 => ?_) (fun c136 => ?_)
  · have hm := hw_ip hm c136
    refine lv_iconst (v := 0) hx hb dX12_read_143 (by decide) ?_
    exact w12_read_b144 C0 hk74 hk84 hm hR hS (hl.sub [1, 2, 3, 4, 5, 6, 7, 9, 10, 11, 12, 0] rfl)
  · have hm := hw_in hm c136
    refine lv_iconst (v := 1) hx hb dX12_read_139 (by decide) ?_
    refine lv_goto (tgt := 144) hx hb dX12_read_140 (by decide) ?_
    exact w12_read_b144 C0 hk74 hk84 hm hR hS (hl.sub [1, 2, 3, 4, 5, 6, 7, 9, 10, 11, 12, 0] rfl)
def m12_read_b129 (k74 : Nat → Int32 → Int32 → Int32 → Int32 → Int32 → Int32 → Int32 → Int32 → Int32 → Int32 → hw_S → Option (Int32 × hw_S)) (k84 : Nat → Int32 → Int32 → Int32 → Int32 → Int32 → Int32 → Int32 → Int32 → Int32 → Int32 → Int32 → hw_S → Option (Int32 × hw_S)) (x0 : Nat) (l1 : Int32) (l2 : Int32) (l3 : Int32) (l4 : Int32) (l5 : Int32) (l6 : Int32) (l7 : Int32) (l8 : Int32) (l9 : Int32) (l10 : Int32) (l11 : Int32) (σ : hw_S) : Option (Int32 × hw_S) :=
  m12_read_b130 k74 k84 x0 l1 l2 l3 l4 l5 l6 l7 l8 l9 l10 l11 (0 : Int32) σ
set_option maxRecDepth 100000 in
theorem w12_read_b129 {p : Program} {l : Launch} {e : Env} {s : State} {m : MethodId} {args : Array Value} {below : List Frame} {meth : Method} {c : Code} {D : hw_D} {b : Nat} {k74 : Nat → Int32 → Int32 → Int32 → Int32 → Int32 → Int32 → Int32 → Int32 → Int32 → Int32 → hw_S → Option (Int32 × hw_S)} {k84 : Nat → Int32 → Int32 → Int32 → Int32 → Int32 → Int32 → Int32 → Int32 → Int32 → Int32 → Int32 → hw_S → Option (Int32 × hw_S)} {r : Int32} {τ : hw_S} (C0 : hw_C p s m args meth c D yX12_read cX12_read 14 (some .int)) (hk74 : ∀ {x0 : Nat} {l1 : Int32} {l2 : Int32} {l3 : Int32} {l4 : Int32} {l5 : Int32} {l6 : Int32} {l7 : Int32} {l8 : Int32} {l9 : Int32} {l10 : Int32} {σ : hw_S} {H : Heap} {locs : List Loc} {ls : Array Slot}, k74 x0 l1 l2 l3 l4 l5 l6 l7 l8 l9 l10 σ = some (r, τ) → hw_R D b σ H → va_S (fun q => b ≤ q) s.heap H locs → hw_L ls 14 255 [(0, hw_vr b (some x0)), (1, .int l1), (2, .int l2), (3, .int l3), (4, .int l4), (5, .int l5), (6, .int l6), (7, .int l7), (8, .int l8), (9, .int l9), (10, .int l10)] → W p l e rm12_read s m args below meth c H locs 0 0 (MQ below (hw_QI D b τ r) args s 0 0 (fun q => b ≤ q)) (F0 m 74 ls [])) (hk84 : ∀ {x0 : Nat} {l1 : Int32} {l2 : Int32} {l3 : Int32} {l4 : Int32} {l5 : Int32} {l6 : Int32} {l7 : Int32} {l8 : Int32} {l9 : Int32} {l10 : Int32} {l11 : Int32} {σ : hw_S} {H : Heap} {locs : List Loc} {ls : Array Slot}, k84 x0 l1 l2 l3 l4 l5 l6 l7 l8 l9 l10 l11 σ = some (r, τ) → hw_R D b σ H → va_S (fun q => b ≤ q) s.heap H locs → hw_L ls 14 255 [(0, hw_vr b (some x0)), (1, .int l1), (2, .int l2), (3, .int l3), (4, .int l4), (5, .int l5), (6, .int l6), (7, .int l7), (8, .int l8), (9, .int l9), (10, .int l10), (11, .int l11)] → W p l e rm12_read s m args below meth c H locs 0 0 (MQ below (hw_QI D b τ r) args s 0 0 (fun q => b ≤ q)) (F0 m 84 ls [])) {x0 : Nat} {l1 : Int32} {l2 : Int32} {l3 : Int32} {l4 : Int32} {l5 : Int32} {l6 : Int32} {l7 : Int32} {l8 : Int32} {l9 : Int32} {l10 : Int32} {l11 : Int32} {σ : hw_S} {H : Heap} {locs : List Loc} (hm : m12_read_b129 k74 k84 x0 l1 l2 l3 l4 l5 l6 l7 l8 l9 l10 l11 σ = some (r, τ)) (hR : hw_R D b σ H) (hS : va_S (fun q => b ≤ q) s.heap H locs) {ls : Array Slot} (hl : hw_L ls 14 255 [(0, hw_vr b (some x0)), (1, .int l1), (2, .int l2), (3, .int l3), (4, .int l4), (5, .int l5), (6, .int l6), (7, .int l7), (8, .int l8), (9, .int l9), (10, .int l10), (11, .int l11)]) : W p l e rm12_read s m args below meth c H locs 0 0 (MQ below (hw_QI D b τ r) args s 0 0 (fun q => b ≤ q)) (F0 m 129 ls []) := by
  obtain ⟨hx, hb, hml, hr, hown, hts, hlk, hE, hnm⟩ := id C0
  have hown : s.vm.findClass RX12 = some m.cls := hown
  have hK := hE.1
  unfold m12_read_b129 at hm
  refine lv_iconst (v := 0) hx hb dX12_read_129 (by decide) ?_
  exact w12_read_b130 C0 hk74 hk84 hm hR hS (hl.sub [0, 1, 2, 3, 4, 5, 6, 7, 8, 9, 10, 11] rfl)
def m12_read_b84 (k74 : Nat → Int32 → Int32 → Int32 → Int32 → Int32 → Int32 → Int32 → Int32 → Int32 → Int32 → hw_S → Option (Int32 × hw_S)) : Nat → Nat → Int32 → Int32 → Int32 → Int32 → Int32 → Int32 → Int32 → Int32 → Int32 → Int32 → Int32 → hw_S → Option (Int32 × hw_S)
  | 0, _, _, _, _, _, _, _, _, _, _, _, _, _ => none
  | n + 1, x0, l1, l2, l3, l4, l5, l6, l7, l8, l9, l10, l11, σ =>
  (if (100 : Int32) ≤ l11 then
  k74 x0 l1 l2 l3 l4 l5 l6 l7 l8 l9 (l10 + 1) σ
  else
  (hw_rv (hw_q 12) (some x0) σ).bind fun a99 =>
  hw_b2 (m12_turnsOf x0 l1 l2 l10 l3 l11 σ) fun v99 σ99 =>
  (if v99 = l4 then
  (hw_rv (hw_q 12) (some x0) σ99).bind fun a117 =>
  (m12_formBy x0 l1 l11 v99 σ99).bind fun v117 =>
  (if v117 = l5 then
  m12_read_b130 k74 (m12_read_b84 k74 n) x0 l1 l2 l3 l4 l5 l6 l7 l8 l9 l10 l11 (1 : Int32) σ99
  else
  m12_read_b129 k74 (m12_read_b84 k74 n) x0 l1 l2 l3 l4 l5 l6 l7 l8 l9 l10 l11 σ99)
  else
  m12_read_b129 k74 (m12_read_b84 k74 n) x0 l1 l2 l3 l4 l5 l6 l7 l8 l9 l10 l11 σ99))
set_option maxRecDepth 100000 in
theorem w12_read_b84 {p : Program} {l : Launch} {e : Env} {s : State} {m : MethodId} {args : Array Value} {below : List Frame} {meth : Method} {c : Code} {D : hw_D} {b : Nat} {k74 : Nat → Int32 → Int32 → Int32 → Int32 → Int32 → Int32 → Int32 → Int32 → Int32 → Int32 → hw_S → Option (Int32 × hw_S)} {r : Int32} {τ : hw_S} (C0 : hw_C p s m args meth c D yX12_read cX12_read 14 (some .int)) (hk74 : ∀ {x0 : Nat} {l1 : Int32} {l2 : Int32} {l3 : Int32} {l4 : Int32} {l5 : Int32} {l6 : Int32} {l7 : Int32} {l8 : Int32} {l9 : Int32} {l10 : Int32} {σ : hw_S} {H : Heap} {locs : List Loc} {ls : Array Slot}, k74 x0 l1 l2 l3 l4 l5 l6 l7 l8 l9 l10 σ = some (r, τ) → hw_R D b σ H → va_S (fun q => b ≤ q) s.heap H locs → hw_L ls 14 255 [(0, hw_vr b (some x0)), (1, .int l1), (2, .int l2), (3, .int l3), (4, .int l4), (5, .int l5), (6, .int l6), (7, .int l7), (8, .int l8), (9, .int l9), (10, .int l10)] → W p l e rm12_read s m args below meth c H locs 0 0 (MQ below (hw_QI D b τ r) args s 0 0 (fun q => b ≤ q)) (F0 m 74 ls [])) : ∀ (n : Nat) {x0 : Nat} {l1 : Int32} {l2 : Int32} {l3 : Int32} {l4 : Int32} {l5 : Int32} {l6 : Int32} {l7 : Int32} {l8 : Int32} {l9 : Int32} {l10 : Int32} {l11 : Int32} {σ : hw_S} {H : Heap} {locs : List Loc} {ls : Array Slot}, m12_read_b84 k74 n x0 l1 l2 l3 l4 l5 l6 l7 l8 l9 l10 l11 σ = some (r, τ) → hw_R D b σ H → va_S (fun q => b ≤ q) s.heap H locs → hw_L ls 14 255 [(0, hw_vr b (some x0)), (1, .int l1), (2, .int l2), (3, .int l3), (4, .int l4), (5, .int l5), (6, .int l6), (7, .int l7), (8, .int l8), (9, .int l9), (10, .int l10), (11, .int l11)] → W p l e rm12_read s m args below meth c H locs 0 0 (MQ below (hw_QI D b τ r) args s 0 0 (fun q => b ≤ q)) (F0 m 84 ls []) := by
  obtain ⟨hx, hb, hml, hr, hown, hts, hlk, hE, hnm⟩ := id C0
  have hown : s.vm.findClass RX12 = some m.cls := hown
  have hK := hE.1
  intro n
  induction n with
  | zero => intro _ _ _ _ _ _ _ _ _ _ _ _ _ _ _ _ hm; cases hm
  | succ n ih =>
    intro x0 l1 l2 l3 l4 l5 l6 l7 l8 l9 l10 l11 σ H locs ls hm hR hS hl
    rw [m12_read_b84] at hm
    refine lv_iload hx hb dX12_read_84 (hl.at 11 rfl) ?_
    refine lv_bipush (v := 100) hx hb dX12_read_86 (by decide) ?_
    refine lv_icmp_ge (tgt := 200) hx hb dX12_read_88 (by decide) (fun c88 => ?_) (fun c88 => ?_)
    · have hm := hw_ip hm c88
      refine hw_iinc (v := (l10 + 1)) (lv' := [(10, .int (l10 + 1)), (0, hw_vr b (some x0)), (1, .int l1), (2, .int l2), (3, .int l3), (4, .int l4), (5, .int l5), (6, .int l6), (7, .int l7), (8, .int l8), (9, .int l9), (11, .int l11)]) hx hb dX12_read_200 hl (k := 10) rfl rfl (by decide) (by decide) rfl (fun ls hl => ?_)
      refine lv_goto (tgt := 74) hx hb dX12_read_203 (by decide) ?_
      exact hk74 hm hR hS (hl.sub [1, 2, 3, 4, 5, 6, 7, 8, 9, 10, 0] rfl)
    · have hm := hw_in hm c88
      refine hw_aload_n hx hb dX12_read_91 rfl (hl.at 0 rfl) ?_
      refine lv_iload_n hx hb dX12_read_92 rfl (hl.at 1 rfl) ?_
      refine lv_iload_n hx hb dX12_read_93 rfl (hl.at 2 rfl) ?_
      refine lv_iload hx hb dX12_read_94 (hl.at 10 rfl) ?_
      refine lv_iload_n hx hb dX12_read_96 rfl (hl.at 3 rfl) ?_
      refine lv_iload hx hb dX12_read_97 (hl.at 11 rfl) ?_
      obtain ⟨a99, g99, hm⟩ := hw_bs hm
      obtain ⟨rfl, ht99⟩ := hw_rv_th g99
      obtain ⟨v99, σ99, e99, hm⟩ := hw_bs2 hm
      refine hw_cWI (va_runV (As := [.int l1, .int l2, .int l10, .int l3, .int l11]) (rest := []) ⟨hx, hb, hml, hown, hts⟩ (c12_turnsOf l D b e99) (cwV 5 hts (hw_gV hw_m584 hw_m585 hw_m586 hw_m5 hw_m587) rfl rfl rfl (by decide +kernel) ⟨(Nat.le_of_ble_eq_true rfl), (Nat.le_of_ble_eq_true rfl)⟩) (hw_preV (ci := 12) hE hR rfl (by decide) (hw_q_of ht99)) rfl rfl hl.sz rfl (lv_room (Nat.le_of_ble_eq_true rfl)) dX12_read_99 ⟨(Nat.le_of_ble_eq_true rfl), (Nat.le_of_ble_eq_true rfl)⟩) hS (fun _ _ hR hS => ?_)
      refine hw_istore (lv' := [(12, .int v99), (0, hw_vr b (some x0)), (1, .int l1), (2, .int l2), (3, .int l3), (4, .int l4), (5, .int l5), (6, .int l6), (7, .int l7), (8, .int l8), (9, .int l9), (10, .int l10), (11, .int l11)]) hx hb dX12_read_102 hl (by decide) (by decide) rfl (fun ls hl => ?_)
      refine lv_iload hx hb dX12_read_104 (hl.at 0 rfl) ?_
      refine lv_iload hx hb dX12_read_106 (hl.at 5 rfl) ?_
      refine lv_icmp_ne (tgt := 129) hx hb dX12_read_108 (by decide) (fun c108 => ?_) (fun c108 => ?_)
      · have hm := hw_in hm c108
        exact w12_read_b129 C0 hk74 ih hm hR hS (hl.sub [1, 2, 3, 4, 5, 6, 7, 8, 9, 10, 11, 12] rfl)
      · have hm := hw_ip hm c108
        refine hw_aload_n hx hb dX12_read_111 rfl (hl.at 1 rfl) ?_
        refine lv_iload_n hx hb dX12_read_112 rfl (hl.at 2 rfl) ?_
        refine lv_iload hx hb dX12_read_113 (hl.at 12 rfl) ?_
        refine lv_iload hx hb dX12_read_115 (hl.at 0 rfl) ?_
        obtain ⟨a117, g117, hm⟩ := hw_bs hm
        obtain ⟨rfl, ht117⟩ := hw_rv_th g117
        obtain ⟨v117, e117, hm⟩ := hw_bs hm
        refine hw_cRI (va_runV (As := [.int l1, .int l11, .int v99]) (rest := []) ⟨hx, hb, hml, hown, hts⟩ (c12_formBy l D b e117) (cwV 3 hts (hw_gV hw_m596 hw_m597 hw_m598 hw_m5 hw_m599) rfl rfl rfl (by decide +kernel) ⟨(Nat.le_of_ble_eq_true rfl), (Nat.le_of_ble_eq_true rfl)⟩) (hw_preV (ci := 12) hE hR rfl (by decide) (hw_q_of ht117)) rfl rfl hl.sz rfl (lv_room (Nat.le_of_ble_eq_true rfl)) dX12_read_117 ⟨(Nat.le_of_ble_eq_true rfl), (Nat.le_of_ble_eq_true rfl)⟩) ?_
        refine lv_iload hx hb dX12_read_120 (hl.at 6 rfl) ?_
        refine lv_icmp_ne (tgt := 129) hx hb dX12_read_122 (by decide) (fun c122 => ?_) (fun c122 => ?_)
        · have hm := hw_in hm c122
          exact w12_read_b129 C0 hk74 ih hm hR hS (hl.sub [1, 2, 3, 4, 5, 6, 7, 8, 9, 10, 11, 12] rfl)
        · have hm := hw_ip hm c122
          refine lv_iconst (v := 1) hx hb dX12_read_125 (by decide) ?_
          refine lv_goto (tgt := 130) hx hb dX12_read_126 (by decide) ?_
          exact w12_read_b130 C0 hk74 ih hm hR hS (hl.sub [1, 2, 3, 4, 5, 6, 7, 8, 9, 10, 11, 12] rfl)
def m12_read_b74 : Nat → Nat → Int32 → Int32 → Int32 → Int32 → Int32 → Int32 → Int32 → Int32 → Int32 → Int32 → hw_S → Option (Int32 × hw_S)
  | 0, _, _, _, _, _, _, _, _, _, _, _, _ => none
  | n + 1, x0, l1, l2, l3, l4, l5, l6, l7, l8, l9, l10, σ =>
  (if (60 : Int32) < l10 then
  (if l6 = 0 then
  m12_read_b229 x0 l7 σ
  else
  (if l6 = (1 : Int32) then
  m12_read_b229 x0 l8 σ
  else
  m12_read_b229 x0 l9 σ))
  else
  m12_read_b84 (m12_read_b74 n) hw_fu x0 l1 l2 l3 l4 l5 l6 l7 l8 l9 l10 (0 : Int32) σ)
set_option maxRecDepth 100000 in
theorem w12_read_b74 {p : Program} {l : Launch} {e : Env} {s : State} {m : MethodId} {args : Array Value} {below : List Frame} {meth : Method} {c : Code} {D : hw_D} {b : Nat} {r : Int32} {τ : hw_S} (C0 : hw_C p s m args meth c D yX12_read cX12_read 14 (some .int)) : ∀ (n : Nat) {x0 : Nat} {l1 : Int32} {l2 : Int32} {l3 : Int32} {l4 : Int32} {l5 : Int32} {l6 : Int32} {l7 : Int32} {l8 : Int32} {l9 : Int32} {l10 : Int32} {σ : hw_S} {H : Heap} {locs : List Loc} {ls : Array Slot}, m12_read_b74 n x0 l1 l2 l3 l4 l5 l6 l7 l8 l9 l10 σ = some (r, τ) → hw_R D b σ H → va_S (fun q => b ≤ q) s.heap H locs → hw_L ls 14 255 [(0, hw_vr b (some x0)), (1, .int l1), (2, .int l2), (3, .int l3), (4, .int l4), (5, .int l5), (6, .int l6), (7, .int l7), (8, .int l8), (9, .int l9), (10, .int l10)] → W p l e rm12_read s m args below meth c H locs 0 0 (MQ below (hw_QI D b τ r) args s 0 0 (fun q => b ≤ q)) (F0 m 74 ls []) := by
  obtain ⟨hx, hb, hml, hr, hown, hts, hlk, hE, hnm⟩ := id C0
  have hown : s.vm.findClass RX12 = some m.cls := hown
  have hK := hE.1
  intro n
  induction n with
  | zero => intro _ _ _ _ _ _ _ _ _ _ _ _ _ _ _ hm; cases hm
  | succ n ih =>
    intro x0 l1 l2 l3 l4 l5 l6 l7 l8 l9 l10 σ H locs ls hm hR hS hl
    rw [m12_read_b74] at hm
    refine lv_iload hx hb dX12_read_74 (hl.at 10 rfl) ?_
    refine lv_bipush (v := 60) hx hb dX12_read_76 (by decide) ?_
    refine lv_icmp_gt (tgt := 206) hx hb dX12_read_78 (by decide) (fun c78 => ?_) (fun c78 => ?_)
    · have hm := hw_ip hm c78
      refine lv_iload hx hb dX12_read_206 (hl.at 6 rfl) ?_
      refine lv_if_ne (tgt := 216) hx hb dX12_read_208 (by decide) (fun c208 => ?_) (fun c208 => ?_)
      · have hm := hw_in hm c208
        refine lv_iload hx hb dX12_read_216 (hl.at 6 rfl) ?_
        refine lv_iconst (v := 1) hx hb dX12_read_218 (by decide) ?_
        refine lv_icmp_ne (tgt := 227) hx hb dX12_read_219 (by decide) (fun c219 => ?_) (fun c219 => ?_)
        · have hm := hw_in hm c219
          refine lv_iload hx hb dX12_read_227 (hl.at 9 rfl) ?_
          exact w12_read_b229 C0 hm hR hS (hl.sub [0] rfl)
        · have hm := hw_ip hm c219
          refine lv_iload hx hb dX12_read_222 (hl.at 8 rfl) ?_
          refine lv_goto (tgt := 229) hx hb dX12_read_224 (by decide) ?_
          exact w12_read_b229 C0 hm hR hS (hl.sub [0] rfl)
      · have hm := hw_ip hm c208
        refine lv_iload hx hb dX12_read_211 (hl.at 7 rfl) ?_
        refine lv_goto (tgt := 229) hx hb dX12_read_213 (by decide) ?_
        exact w12_read_b229 C0 hm hR hS (hl.sub [0] rfl)
    · have hm := hw_in hm c78
      refine lv_iconst (v := 0) hx hb dX12_read_81 (by decide) ?_
      refine hw_istore (lv' := [(11, .int (0 : Int32)), (0, hw_vr b (some x0)), (1, .int l1), (2, .int l2), (3, .int l3), (4, .int l4), (5, .int l5), (6, .int l6), (7, .int l7), (8, .int l8), (9, .int l9), (10, .int l10)]) hx hb dX12_read_82 hl (by decide) (by decide) rfl (fun ls hl => ?_)
      exact w12_read_b84 C0 ih hw_fu hm hR hS (hl.sub [1, 2, 3, 4, 5, 6, 7, 8, 9, 10, 11, 0] rfl)
def m12_read (x0 : Nat) (l1 : Int32) (l2 : Int32) (l3 : Int32) (l4 : Int32) (l5 : Int32) (l6 : Int32) (σ : hw_S) : Option (Int32 × hw_S) :=
  (hw_rv (hw_q 12) (some x0) σ).bind fun a2 =>
  (m12_isLaw x0 l1 σ).bind fun v2 =>
  (if v2 = 0 then
  m12_read_b26 x0 σ
  else
  (hw_rv (hw_q 12) (some x0) σ).bind fun a10 =>
  (m12_isStuff x0 l2 σ).bind fun v10 =>
  (if v10 = 0 then
  m12_read_b26 x0 σ
  else
  (m12_in l6 (0 : Int32) (2 : Int32)).bind fun v20 =>
  (if v20 = 0 then
  m12_read_b26 x0 σ
  else
  (m12_isFlow l3).bind fun v29 =>
  (if v29 = 0 then
  m12_read_b57 x0 σ
  else
  (m12_in l4 (0 : Int32) (999 : Int32)).bind fun v41 =>
  (if v41 = 0 then
  m12_read_b57 x0 σ
  else
  (m12_in l5 (0 : Int32) (4 : Int32)).bind fun v51 =>
  (if v51 = 0 then
  m12_read_b57 x0 σ
  else
  m12_read_b74 hw_fu x0 l1 l2 l3 l4 l5 l6 (0 : Int32) ((-5) : Int32) ((-5) : Int32) (1 : Int32) σ))))))
set_option maxRecDepth 100000 in
theorem w12_read_s {p : Program} {l : Launch} {e : Env} {s : State} {m : MethodId} {args : Array Value} {below : List Frame} {meth : Method} {c : Code} {D : hw_D} {b : Nat} {x0 : Nat} {l1 : Int32} {l2 : Int32} {l3 : Int32} {l4 : Int32} {l5 : Int32} {l6 : Int32} {σ : hw_S} {r : Int32} {τ : hw_S} {H : Heap} {locs : List Loc} (hm : m12_read x0 l1 l2 l3 l4 l5 l6 σ = some (r, τ)) (C0 : hw_C p s m args meth c D yX12_read cX12_read 14 (some .int)) (hR : hw_R D b σ H) (hS : va_S (fun q => b ≤ q) s.heap H locs) {ls : Array Slot} (hl : hw_L ls 14 255 [(0, hw_vr b (some x0)), (1, .int l1), (2, .int l2), (3, .int l3), (4, .int l4), (5, .int l5), (6, .int l6)]) : W p l e rm12_read s m args below meth c H locs 0 0 (MQ below (hw_QI D b τ r) args s 0 0 (fun q => b ≤ q)) (F0 m 0 ls []) := by
  obtain ⟨hx, hb, hml, hr, hown, hts, hlk, hE, hnm⟩ := id C0
  have hown : s.vm.findClass RX12 = some m.cls := hown
  have hK := hE.1
  unfold m12_read at hm
  refine hw_aload_n hx hb dX12_read_0 rfl (hl.at 0 rfl) ?_
  refine lv_iload_n hx hb dX12_read_1 rfl (hl.at 1 rfl) ?_
  obtain ⟨a2, g2, hm⟩ := hw_bs hm
  obtain ⟨rfl, ht2⟩ := hw_rv_th g2
  obtain ⟨v2, e2, hm⟩ := hw_bs hm
  refine hw_cRI (va_runV (As := [.int l1]) (rest := []) ⟨hx, hb, hml, hown, hts⟩ (c12_isLaw l D b e2) (cwV 1 hts (hw_gV hw_m434 hw_m435 hw_m436 hw_m5 hw_m437) rfl rfl rfl (by decide +kernel) ⟨(Nat.le_of_ble_eq_true rfl), (Nat.le_of_ble_eq_true rfl)⟩) (hw_preV (ci := 12) hE hR rfl (by decide) (hw_q_of ht2)) rfl rfl hl.sz rfl (lv_room (Nat.le_of_ble_eq_true rfl)) dX12_read_2 ⟨(Nat.le_of_ble_eq_true rfl), (Nat.le_of_ble_eq_true rfl)⟩) ?_
  refine lv_if_eq (tgt := 26) hx hb dX12_read_5 (by decide) (fun c5 => ?_) (fun c5 => ?_)
  · have hm := hw_ip hm c5
    exact w12_read_b26 C0 hm hR hS (hl.sub [0] rfl)
  · have hm := hw_in hm c5
    refine hw_aload_n hx hb dX12_read_8 rfl (hl.at 0 rfl) ?_
    refine lv_iload_n hx hb dX12_read_9 rfl (hl.at 2 rfl) ?_
    obtain ⟨a10, g10, hm⟩ := hw_bs hm
    obtain ⟨rfl, ht10⟩ := hw_rv_th g10
    obtain ⟨v10, e10, hm⟩ := hw_bs hm
    refine hw_cRI (va_runV (As := [.int l2]) (rest := []) ⟨hx, hb, hml, hown, hts⟩ (c12_isStuff l D b e10) (cwV 1 hts (hw_gV hw_m129 hw_m130 hw_m131 hw_m5 hw_m132) rfl rfl rfl (by decide +kernel) ⟨(Nat.le_of_ble_eq_true rfl), (Nat.le_of_ble_eq_true rfl)⟩) (hw_preV (ci := 12) hE hR rfl (by decide) (hw_q_of ht10)) rfl rfl hl.sz rfl (lv_room (Nat.le_of_ble_eq_true rfl)) dX12_read_10 ⟨(Nat.le_of_ble_eq_true rfl), (Nat.le_of_ble_eq_true rfl)⟩) ?_
    refine lv_if_eq (tgt := 26) hx hb dX12_read_13 (by decide) (fun c13 => ?_) (fun c13 => ?_)
    · have hm := hw_ip hm c13
      exact w12_read_b26 C0 hm hR hS (hl.sub [0] rfl)
    · have hm := hw_in hm c13
      refine lv_iload hx hb dX12_read_16 (hl.at 6 rfl) ?_
      refine lv_iconst (v := 0) hx hb dX12_read_18 (by decide) ?_
      refine lv_iconst (v := 2) hx hb dX12_read_19 (by decide) ?_
      obtain ⟨v20, e20, hm⟩ := hw_bs hm
      refine hw_cRI (va_runS (As := [.int l6, .int (0 : Int32), .int (2 : Int32)]) (rest := []) ⟨hx, hb, hml, hown, hts⟩ (c12_in l D e20) (cwS 3 hts (hw_gS hw_m112 hw_m113 hw_m5 hw_m114) rfl rfl rfl (by decide +kernel) ⟨(Nat.le_of_ble_eq_true rfl), (Nat.le_of_ble_eq_true rfl)⟩) (hw_pre0 hE) rfl rfl hl.sz rfl (lv_room (Nat.le_of_ble_eq_true rfl)) dX12_read_20 ⟨(Nat.le_of_ble_eq_true rfl), (Nat.le_of_ble_eq_true rfl)⟩) ?_
      refine lv_if_ne (tgt := 28) hx hb dX12_read_23 (by decide) (fun c23 => ?_) (fun c23 => ?_)
      · have hm := hw_in hm c23
        refine lv_iload_n hx hb dX12_read_28 rfl (hl.at 3 rfl) ?_
        obtain ⟨v29, e29, hm⟩ := hw_bs hm
        refine hw_cRI (va_runS (As := [.int l3]) (rest := []) ⟨hx, hb, hml, hown, hts⟩ (c12_isFlow l D e29) (cwS 1 hts (hw_gS hw_m699 hw_m700 hw_m5 hw_m701) rfl rfl rfl (by decide +kernel) ⟨(Nat.le_of_ble_eq_true rfl), (Nat.le_of_ble_eq_true rfl)⟩) (hw_pre0 hE) rfl rfl hl.sz rfl (lv_room (Nat.le_of_ble_eq_true rfl)) dX12_read_29 ⟨(Nat.le_of_ble_eq_true rfl), (Nat.le_of_ble_eq_true rfl)⟩) ?_
        refine lv_if_eq (tgt := 57) hx hb dX12_read_32 (by decide) (fun c32 => ?_) (fun c32 => ?_)
        · have hm := hw_ip hm c32
          exact w12_read_b57 C0 hm hR hS (hl.sub [0] rfl)
        · have hm := hw_in hm c32
          refine lv_iload hx hb dX12_read_35 (hl.at 4 rfl) ?_
          refine lv_iconst (v := 0) hx hb dX12_read_37 (by decide) ?_
          refine lv_sipush (v := 999) hx hb dX12_read_38 (by decide) ?_
          obtain ⟨v41, e41, hm⟩ := hw_bs hm
          refine hw_cRI (va_runS (As := [.int l4, .int (0 : Int32), .int (999 : Int32)]) (rest := []) ⟨hx, hb, hml, hown, hts⟩ (c12_in l D e41) (cwS 3 hts (hw_gS hw_m112 hw_m113 hw_m5 hw_m114) rfl rfl rfl (by decide +kernel) ⟨(Nat.le_of_ble_eq_true rfl), (Nat.le_of_ble_eq_true rfl)⟩) (hw_pre0 hE) rfl rfl hl.sz rfl (lv_room (Nat.le_of_ble_eq_true rfl)) dX12_read_41 ⟨(Nat.le_of_ble_eq_true rfl), (Nat.le_of_ble_eq_true rfl)⟩) ?_
          refine lv_if_eq (tgt := 57) hx hb dX12_read_44 (by decide) (fun c44 => ?_) (fun c44 => ?_)
          · have hm := hw_ip hm c44
            exact w12_read_b57 C0 hm hR hS (hl.sub [0] rfl)
          · have hm := hw_in hm c44
            refine lv_iload hx hb dX12_read_47 (hl.at 5 rfl) ?_
            refine lv_iconst (v := 0) hx hb dX12_read_49 (by decide) ?_
            refine lv_iconst (v := 4) hx hb dX12_read_50 (by decide) ?_
            obtain ⟨v51, e51, hm⟩ := hw_bs hm
            refine hw_cRI (va_runS (As := [.int l5, .int (0 : Int32), .int (4 : Int32)]) (rest := []) ⟨hx, hb, hml, hown, hts⟩ (c12_in l D e51) (cwS 3 hts (hw_gS hw_m112 hw_m113 hw_m5 hw_m114) rfl rfl rfl (by decide +kernel) ⟨(Nat.le_of_ble_eq_true rfl), (Nat.le_of_ble_eq_true rfl)⟩) (hw_pre0 hE) rfl rfl hl.sz rfl (lv_room (Nat.le_of_ble_eq_true rfl)) dX12_read_51 ⟨(Nat.le_of_ble_eq_true rfl), (Nat.le_of_ble_eq_true rfl)⟩) ?_
            refine lv_if_ne (tgt := 60) hx hb dX12_read_54 (by decide) (fun c54 => ?_) (fun c54 => ?_)
            · have hm := hw_in hm c54
              refine lv_iconst (v := 0) hx hb dX12_read_60 (by decide) ?_
              refine hw_istore (lv' := [(7, .int (0 : Int32)), (0, hw_vr b (some x0)), (1, .int l1), (2, .int l2), (3, .int l3), (4, .int l4), (5, .int l5), (6, .int l6)]) hx hb dX12_read_61 hl (by decide) (by decide) rfl (fun ls hl => ?_)
              refine lv_bipush (v := (-5)) hx hb dX12_read_63 (by decide) ?_
              refine hw_istore (lv' := [(8, .int ((-5) : Int32)), (7, .int (0 : Int32)), (0, hw_vr b (some x0)), (1, .int l1), (2, .int l2), (3, .int l3), (4, .int l4), (5, .int l5), (6, .int l6)]) hx hb dX12_read_65 hl (by decide) (by decide) rfl (fun ls hl => ?_)
              refine lv_bipush (v := (-5)) hx hb dX12_read_67 (by decide) ?_
              refine hw_istore (lv' := [(9, .int ((-5) : Int32)), (8, .int ((-5) : Int32)), (7, .int (0 : Int32)), (0, hw_vr b (some x0)), (1, .int l1), (2, .int l2), (3, .int l3), (4, .int l4), (5, .int l5), (6, .int l6)]) hx hb dX12_read_69 hl (by decide) (by decide) rfl (fun ls hl => ?_)
              refine lv_iconst (v := 1) hx hb dX12_read_71 (by decide) ?_
              refine hw_istore (lv' := [(10, .int (1 : Int32)), (9, .int ((-5) : Int32)), (8, .int ((-5) : Int32)), (7, .int (0 : Int32)), (0, hw_vr b (some x0)), (1, .int l1), (2, .int l2), (3, .int l3), (4, .int l4), (5, .int l5), (6, .int l6)]) hx hb dX12_read_72 hl (by decide) (by decide) rfl (fun ls hl => ?_)
              exact w12_read_b74 C0 hw_fu hm hR hS (hl.sub [4, 5, 6, 7, 8, 9, 10, 3, 2, 1, 0] rfl)
            · have hm := hw_ip hm c54
              exact w12_read_b57 C0 hm hR hS (hl.sub [0] rfl)
      · have hm := hw_ip hm c23
        exact w12_read_b26 C0 hm hR hS (hl.sub [0] rfl)
set_option maxRecDepth 100000 in
theorem c12_read (l : Launch) (D : hw_D) (b : Nat) {x0 : Nat} {l1 : Int32} {l2 : Int32} {l3 : Int32} {l4 : Int32} {l5 : Int32} {l6 : Int32} {σ : hw_S} {r : Int32} {τ : hw_S} (hm : m12_read x0 l1 l2 l3 l4 l5 l6 σ = some (r, τ)) : Met l yX12_read (Cond.code yX12_read cX12_read 14 (some .int) :: wsL_law) rm12_read (hw_P1 D b σ [hw_vr b (some x0), .int l1, .int l2, .int l3, .int l4, .int l5, .int l6]) (hw_QI D b τ r) 0 0 (fun q => b ≤ q) := by
  refine hw_start1 (by decide +kernel) (by exact Nat.le_of_ble_eq_true rfl) ?_
  intro p e s m below meth c ls C0 hR hS hl
  have hl : lv_has ls 14 [(0, hw_vr b (some x0)), (1, .int l1), (2, .int l2), (3, .int l3), (4, .int l4), (5, .int l5), (6, .int l6)] := by exact hl
  exact w12_read_s hm C0 hR hS ⟨hl, (List.forall_mem_cons.mpr ⟨(fun h => by rw [show (hw_vr b (some x0) : Value).category = 1 from (hw_vr_cat _ _)] at h; cases h), (List.forall_mem_cons.mpr ⟨(fun h => absurd (show (1 : Nat) = 2 from h) (by decide)), (List.forall_mem_cons.mpr ⟨(fun h => absurd (show (1 : Nat) = 2 from h) (by decide)), (List.forall_mem_cons.mpr ⟨(fun h => absurd (show (1 : Nat) = 2 from h) (by decide)), (List.forall_mem_cons.mpr ⟨(fun h => absurd (show (1 : Nat) = 2 from h) (by decide)), (List.forall_mem_cons.mpr ⟨(fun h => absurd (show (1 : Nat) = 2 from h) (by decide)), (List.forall_mem_cons.mpr ⟨(fun h => absurd (show (1 : Nat) = 2 from h) (by decide)), (fun _ h => absurd h List.not_mem_nil)⟩)⟩)⟩)⟩)⟩)⟩)⟩)⟩

abbrev rm11_lawsApart : Room := { frames := 5, cells := 0, slots := 0, locals := 117 }
def m11_lawsApart_b60 (k10 : Nat → Option Nat → Int32 → Int32 → Int32 → Int32 → hw_S → Option Int32) (x0 : Nat) (l1 : Option Nat) (l2 : Int32) (l3 : Int32) (l4 : Int32) (l5 : Int32) (σ : hw_S) : Option Int32 :=
  k10 x0 l1 l2 l3 l4 (l5 + 1) σ
set_option maxRecDepth 100000 in
theorem w11_lawsApart_b60 {p : Program} {l : Launch} {e : Env} {s : State} {m : MethodId} {args : Array Value} {below : List Frame} {meth : Method} {c : Code} {D : hw_D} {b : Nat} {k10 : Nat → Option Nat → Int32 → Int32 → Int32 → Int32 → hw_S → Option Int32} {r : Int32} (C0 : hw_C p s m args meth c D yX11_lawsApart cX11_lawsApart 8 (some .int)) (hk10 : ∀ {x0 : Nat} {l1 : Option Nat} {l2 : Int32} {l3 : Int32} {l4 : Int32} {l5 : Int32} {σ : hw_S} {ls : Array Slot}, k10 x0 l1 l2 l3 l4 l5 σ = some r → hw_R D b σ s.heap → hw_L ls 8 255 [(0, hw_vr b (some x0)), (1, hw_vr b l1), (2, .int l2), (3, .int l3), (4, .int l4), (5, .int l5)] → W p l e rm11_lawsApart s m args below meth c s.heap [] 0 0 (MQ below (hw_RI r) args s 0 0 hw_nof) (F0 m 10 ls [])) {x0 : Nat} {l1 : Option Nat} {l2 : Int32} {l3 : Int32} {l4 : Int32} {l5 : Int32} {σ : hw_S} (hm : m11_lawsApart_b60 k10 x0 l1 l2 l3 l4 l5 σ = some r) (hR : hw_R D b σ s.heap) {ls : Array Slot} (hl : hw_L ls 8 255 [(0, hw_vr b (some x0)), (1, hw_vr b l1), (2, .int l2), (3, .int l3), (4, .int l4), (5, .int l5)]) : W p l e rm11_lawsApart s m args below meth c s.heap [] 0 0 (MQ below (hw_RI r) args s 0 0 hw_nof) (F0 m 60 ls []) := by
  obtain ⟨hx, hb, hml, hr, hown, hts, hlk, hE, hnm⟩ := id C0
  have hown : s.vm.findClass RX11 = some m.cls := hown
  have hK := hE.1
  unfold m11_lawsApart_b60 at hm
  refine hw_iinc (v := (l5 + 1)) (lv' := [(5, .int (l5 + 1)), (0, hw_vr b (some x0)), (1, hw_vr b l1), (2, .int l2), (3, .int l3), (4, .int l4)]) hx hb dX11_lawsApart_60 hl (k := 5) rfl rfl (by decide) (by decide) rfl (fun ls hl => ?_)
  refine lv_goto (tgt := 10) hx hb dX11_lawsApart_63 (by decide) ?_
  exact hk10 hm hR (hl.sub [1, 2, 3, 4, 5, 0] rfl)
def m11_lawsApart_b10 : Nat → Nat → Option Nat → Int32 → Int32 → Int32 → Int32 → hw_S → Option Int32
  | 0, _, _, _, _, _, _, _ => none
  | n + 1, x0, l1, l2, l3, l4, l5, σ =>
  (hw_gP (hw_q 11) 0 (some x0) σ).bind fun v13 =>
  (hw_gI (hw_q 8) 3 v13 σ).bind fun v16 =>
  (if v16 ≤ l5 then
  some (l4 - l3)
  else
  (hw_rv (hw_q 11) (some x0) σ).bind fun a25 =>
  (m11_lawAt x0 l5 σ).bind fun v25 =>
  (if v25 = none then
  m11_lawsApart_b60 (m11_lawsApart_b10 n) x0 l1 l2 l3 l4 l5 σ
  else
  (m11_turnsIn v25 l1 l2 σ).bind fun v39 =>
  m11_lawsApart_b60 (m11_lawsApart_b10 n) x0 l1 l2 (hw_min l3 v39) (hw_max l4 v39) l5 σ))
set_option maxRecDepth 100000 in
theorem w11_lawsApart_b10 {p : Program} {l : Launch} {e : Env} {s : State} {m : MethodId} {args : Array Value} {below : List Frame} {meth : Method} {c : Code} {D : hw_D} {b : Nat} {r : Int32} (C0 : hw_C p s m args meth c D yX11_lawsApart cX11_lawsApart 8 (some .int)) : ∀ (n : Nat) {x0 : Nat} {l1 : Option Nat} {l2 : Int32} {l3 : Int32} {l4 : Int32} {l5 : Int32} {σ : hw_S} {ls : Array Slot}, m11_lawsApart_b10 n x0 l1 l2 l3 l4 l5 σ = some r → hw_R D b σ s.heap → hw_L ls 8 255 [(0, hw_vr b (some x0)), (1, hw_vr b l1), (2, .int l2), (3, .int l3), (4, .int l4), (5, .int l5)] → W p l e rm11_lawsApart s m args below meth c s.heap [] 0 0 (MQ below (hw_RI r) args s 0 0 hw_nof) (F0 m 10 ls []) := by
  obtain ⟨hx, hb, hml, hr, hown, hts, hlk, hE, hnm⟩ := id C0
  have hown : s.vm.findClass RX11 = some m.cls := hown
  have hK := hE.1
  intro n
  induction n with
  | zero => intro _ _ _ _ _ _ _ _ hm; cases hm
  | succ n ih =>
    intro x0 l1 l2 l3 l4 l5 σ ls hm hR hl
    rw [m11_lawsApart_b10] at hm
    refine lv_iload hx hb dX11_lawsApart_10 (hl.at 5 rfl) ?_
    refine hw_aload_n hx hb dX11_lawsApart_12 rfl (hl.at 0 rfl) ?_
    obtain ⟨v13, e13, hm⟩ := hw_bs hm
    refine hw_getP hx hb hw_cf11 hts hown hK hR e13 (by decide) rfl (hts _ hw_m16) (fun _ h9 => h9) dX11_lawsApart_13 ?_
    obtain ⟨v16, e16, hm⟩ := hw_bs hm
    refine hw_getI hx hb hw_cf8 hts hown hK hR e16 (by decide) rfl (hts _ hw_m148) (fun _ h9 => h9) dX11_lawsApart_16 ?_
    refine lv_icmp_ge (tgt := 66) hx hb dX11_lawsApart_19 (by decide) (fun c19 => ?_) (fun c19 => ?_)
    · have hm := hw_ip hm c19
      refine lv_iload hx hb dX11_lawsApart_66 (hl.at 4 rfl) ?_
      refine lv_iload_n hx hb dX11_lawsApart_68 rfl (hl.at 3 rfl) ?_
      refine lv_isub hx hb dX11_lawsApart_69 ?_
      exact hw_rRI hx hb hr hlk hm dX11_lawsApart_70
    · have hm := hw_in hm c19
      refine hw_aload_n hx hb dX11_lawsApart_22 rfl (hl.at 0 rfl) ?_
      refine lv_iload hx hb dX11_lawsApart_23 (hl.at 5 rfl) ?_
      obtain ⟨a25, g25, hm⟩ := hw_bs hm
      obtain ⟨rfl, ht25⟩ := hw_rv_th g25
      obtain ⟨v25, e25, hm⟩ := hw_bs hm
      refine hw_cRP (va_runV (As := [.int l5]) (rest := []) ⟨hx, hb, hml, hown, hts⟩ (c11_lawAt l D b e25) (cwV 1 hts (hw_gV hw_m426 hw_m427 hw_m428 hw_m2 hw_m429) rfl rfl rfl (by decide +kernel) ⟨(Nat.le_of_ble_eq_true rfl), (Nat.le_of_ble_eq_true rfl)⟩) (hw_preV (ci := 11) hE hR rfl (by decide) (hw_q_of ht25)) rfl rfl hl.sz rfl (lv_room (Nat.le_of_ble_eq_true rfl)) dX11_lawsApart_25 ⟨(Nat.le_of_ble_eq_true rfl), (Nat.le_of_ble_eq_true rfl)⟩) ?_
      refine hw_asto (lv' := [(6, hw_vr b v25), (0, hw_vr b (some x0)), (1, hw_vr b l1), (2, .int l2), (3, .int l3), (4, .int l4), (5, .int l5)]) hx hb dX11_lawsApart_28 hl (by decide) (by decide) rfl (fun ls hl => ?_)
      refine hw_aload hx hb dX11_lawsApart_30 (hl.at 0 rfl) ?_
      refine hw_ifnull (tgt := 60) hx hb dX11_lawsApart_32 (by decide) (fun c32 => ?_) (fun c32 => ?_)
      · have hm := hw_ip hm c32
        exact w11_lawsApart_b60 C0 ih hm hR (hl.sub [1, 2, 3, 4, 5, 6] rfl)
      · have hm := hw_in hm c32
        refine hw_aload hx hb dX11_lawsApart_35 (hl.at 0 rfl) ?_
        refine hw_aload_n hx hb dX11_lawsApart_37 rfl (hl.at 2 rfl) ?_
        refine lv_iload_n hx hb dX11_lawsApart_38 rfl (hl.at 3 rfl) ?_
        obtain ⟨v39, e39, hm⟩ := hw_bs hm
        refine hw_cRI (va_runS (As := [hw_vr b v25, hw_vr b l1, .int l2]) (rest := []) ⟨hx, hb, hml, hown, hts⟩ (c11_turnsIn l D b e39) (cwS 3 hts (hw_gS hw_m482 hw_m483 hw_m2 hw_m484) rfl rfl rfl (by decide +kernel) ⟨(Nat.le_of_ble_eq_true rfl), (Nat.le_of_ble_eq_true rfl)⟩) (hw_pre1 hE hR) rfl rfl hl.sz rfl (lv_room (Nat.le_of_ble_eq_true rfl)) dX11_lawsApart_39 ⟨(Nat.le_of_ble_eq_true rfl), (Nat.le_of_ble_eq_true rfl)⟩) ?_
        refine hw_istore (lv' := [(7, .int v39), (6, hw_vr b v25), (0, hw_vr b (some x0)), (1, hw_vr b l1), (2, .int l2), (3, .int l3), (4, .int l4), (5, .int l5)]) hx hb dX11_lawsApart_42 hl (by decide) (by decide) rfl (fun ls hl => ?_)
        refine lv_iload_n hx hb dX11_lawsApart_44 rfl (hl.at 5 rfl) ?_
        refine lv_iload hx hb dX11_lawsApart_45 (hl.at 0 rfl) ?_
        refine hw_mmin hx hb hml hl hown (hts _ hw_m769) (hts _ hw_m156) (hts _ hw_m157) (hts _ hw_m158) (Nat.le_of_ble_eq_true rfl) ⟨Nat.le_of_ble_eq_true rfl, (Nat.le_of_ble_eq_true rfl)⟩ (Nat.le_of_ble_eq_true rfl) (Nat.le_of_ble_eq_true rfl) dX11_lawsApart_47 ?_
        refine hw_istore_n (lv' := [(3, .int (hw_min l3 v39)), (7, .int v39), (6, hw_vr b v25), (0, hw_vr b (some x0)), (1, hw_vr b l1), (2, .int l2), (4, .int l4), (5, .int l5)]) hx hb dX11_lawsApart_50 rfl hl (by decide) (by decide) rfl (fun ls hl => ?_)
        refine lv_iload hx hb dX11_lawsApart_51 (hl.at 6 rfl) ?_
        refine lv_iload hx hb dX11_lawsApart_53 (hl.at 1 rfl) ?_
        refine hw_mmax hx hb hml hl hown (hts _ hw_m781) (hts _ hw_m463) (hts _ hw_m157) (hts _ hw_m464) (Nat.le_of_ble_eq_true rfl) ⟨Nat.le_of_ble_eq_true rfl, (Nat.le_of_ble_eq_true rfl)⟩ (Nat.le_of_ble_eq_true rfl) (Nat.le_of_ble_eq_true rfl) dX11_lawsApart_55 ?_
        refine hw_istore (lv' := [(4, .int (hw_max l4 v39)), (3, .int (hw_min l3 v39)), (7, .int v39), (6, hw_vr b v25), (0, hw_vr b (some x0)), (1, hw_vr b l1), (2, .int l2), (5, .int l5)]) hx hb dX11_lawsApart_58 hl (by decide) (by decide) rfl (fun ls hl => ?_)
        exact w11_lawsApart_b60 C0 ih hm hR (hl.sub [4, 5, 6, 1, 0, 7] rfl)
def m11_lawsApart (x0 : Nat) (l1 : Option Nat) (l2 : Int32) (σ : hw_S) : Option Int32 :=
  m11_lawsApart_b10 hw_fu x0 l1 l2 (999 : Int32) (0 : Int32) (0 : Int32) σ
set_option maxRecDepth 100000 in
theorem w11_lawsApart_s {p : Program} {l : Launch} {e : Env} {s : State} {m : MethodId} {args : Array Value} {below : List Frame} {meth : Method} {c : Code} {D : hw_D} {b : Nat} {x0 : Nat} {l1 : Option Nat} {l2 : Int32} {σ : hw_S} {r : Int32} (hm : m11_lawsApart x0 l1 l2 σ = some r) (C0 : hw_C p s m args meth c D yX11_lawsApart cX11_lawsApart 8 (some .int)) (hR : hw_R D b σ s.heap) {ls : Array Slot} (hl : hw_L ls 8 255 [(0, hw_vr b (some x0)), (1, hw_vr b l1), (2, .int l2)]) : W p l e rm11_lawsApart s m args below meth c s.heap [] 0 0 (MQ below (hw_RI r) args s 0 0 hw_nof) (F0 m 0 ls []) := by
  obtain ⟨hx, hb, hml, hr, hown, hts, hlk, hE, hnm⟩ := id C0
  have hown : s.vm.findClass RX11 = some m.cls := hown
  have hK := hE.1
  unfold m11_lawsApart at hm
  refine lv_sipush (v := 999) hx hb dX11_lawsApart_0 (by decide) ?_
  refine hw_istore_n (lv' := [(3, .int (999 : Int32)), (0, hw_vr b (some x0)), (1, hw_vr b l1), (2, .int l2)]) hx hb dX11_lawsApart_3 rfl hl (by decide) (by decide) rfl (fun ls hl => ?_)
  refine lv_iconst (v := 0) hx hb dX11_lawsApart_4 (by decide) ?_
  refine hw_istore (lv' := [(4, .int (0 : Int32)), (3, .int (999 : Int32)), (0, hw_vr b (some x0)), (1, hw_vr b l1), (2, .int l2)]) hx hb dX11_lawsApart_5 hl (by decide) (by decide) rfl (fun ls hl => ?_)
  refine lv_iconst (v := 0) hx hb dX11_lawsApart_7 (by decide) ?_
  refine hw_istore (lv' := [(5, .int (0 : Int32)), (4, .int (0 : Int32)), (3, .int (999 : Int32)), (0, hw_vr b (some x0)), (1, hw_vr b l1), (2, .int l2)]) hx hb dX11_lawsApart_8 hl (by decide) (by decide) rfl (fun ls hl => ?_)
  exact w11_lawsApart_b10 C0 hw_fu hm hR (hl.sub [3, 4, 5, 2, 1, 0] rfl)
set_option maxRecDepth 100000 in
theorem c11_lawsApart (l : Launch) (D : hw_D) (b : Nat) {x0 : Nat} {l1 : Option Nat} {l2 : Int32} {σ : hw_S} {r : Int32} (hm : m11_lawsApart x0 l1 l2 σ = some r) : Met l yX11_lawsApart (Cond.code yX11_lawsApart cX11_lawsApart 8 (some .int) :: wsL_law) rm11_lawsApart (hw_P1 D b σ [hw_vr b (some x0), hw_vr b l1, .int l2]) (hw_RI r) 0 0 hw_nof := by
  refine hw_start1 (by decide +kernel) (by cases l1 <;> exact Nat.le_of_ble_eq_true rfl) ?_
  intro p e s m below meth c ls C0 hR hS hl
  have hl : lv_has ls 8 [(0, hw_vr b (some x0)), (1, hw_vr b l1), (2, .int l2)] := by cases l1 <;> exact hl
  exact w11_lawsApart_s hm C0 hR ⟨hl, (List.forall_mem_cons.mpr ⟨(fun h => by rw [show (hw_vr b (some x0) : Value).category = 1 from (hw_vr_cat _ _)] at h; cases h), (List.forall_mem_cons.mpr ⟨(fun h => by rw [show (hw_vr b l1 : Value).category = 1 from (hw_vr_cat _ _)] at h; cases h), (List.forall_mem_cons.mpr ⟨(fun h => absurd (show (1 : Nat) = 2 from h) (by decide)), (fun _ h => absurd h List.not_mem_nil)⟩)⟩)⟩)⟩

abbrev rm11_next : Room := { frames := 6, cells := 0, slots := 0, locals := 144 }
def m11_next_b79 (k44 : Nat → Int32 → Option Nat → Int32 → Int32 → Int32 → hw_S → Option Int32) (x0 : Nat) (l2 : Int32) (l3 : Option Nat) (l4 : Int32) (l5 : Int32) (l6 : Int32) (σ : hw_S) : Option Int32 :=
  k44 x0 l2 l3 l4 l5 (l6 + 1) σ
set_option maxRecDepth 100000 in
theorem w11_next_b79 {p : Program} {l : Launch} {e : Env} {s : State} {m : MethodId} {args : Array Value} {below : List Frame} {meth : Method} {c : Code} {D : hw_D} {b : Nat} {k44 : Nat → Int32 → Option Nat → Int32 → Int32 → Int32 → hw_S → Option Int32} {r : Int32} (C0 : hw_C p s m args meth c D yX11_next cX11_next 8 (some .int)) (hk44 : ∀ {x0 : Nat} {l2 : Int32} {l3 : Option Nat} {l4 : Int32} {l5 : Int32} {l6 : Int32} {σ : hw_S} {ls : Array Slot}, k44 x0 l2 l3 l4 l5 l6 σ = some r → hw_R D b σ s.heap → hw_L ls 8 255 [(0, hw_vr b (some x0)), (2, .int l2), (3, hw_vr b l3), (4, .int l4), (5, .int l5), (6, .int l6)] → W p l e rm11_next s m args below meth c s.heap [] 0 0 (MQ below (hw_RI r) args s 0 0 hw_nof) (F0 m 44 ls [])) {x0 : Nat} {l2 : Int32} {l3 : Option Nat} {l4 : Int32} {l5 : Int32} {l6 : Int32} {σ : hw_S} (hm : m11_next_b79 k44 x0 l2 l3 l4 l5 l6 σ = some r) (hR : hw_R D b σ s.heap) {ls : Array Slot} (hl : hw_L ls 8 255 [(0, hw_vr b (some x0)), (2, .int l2), (3, hw_vr b l3), (4, .int l4), (5, .int l5), (6, .int l6)]) : W p l e rm11_next s m args below meth c s.heap [] 0 0 (MQ below (hw_RI r) args s 0 0 hw_nof) (F0 m 79 ls []) := by
  obtain ⟨hx, hb, hml, hr, hown, hts, hlk, hE, hnm⟩ := id C0
  have hown : s.vm.findClass RX11 = some m.cls := hown
  have hK := hE.1
  unfold m11_next_b79 at hm
  refine hw_iinc (v := (l6 + 1)) (lv' := [(6, .int (l6 + 1)), (0, hw_vr b (some x0)), (2, .int l2), (3, hw_vr b l3), (4, .int l4), (5, .int l5)]) hx hb dX11_next_79 hl (k := 5) rfl rfl (by decide) (by decide) rfl (fun ls hl => ?_)
  refine lv_goto (tgt := 44) hx hb dX11_next_82 (by decide) ?_
  exact hk44 hm hR (hl.sub [1, 2, 3, 4, 5, 0] rfl)
def m11_next_b44 : Nat → Nat → Int32 → Option Nat → Int32 → Int32 → Int32 → hw_S → Option Int32
  | 0, _, _, _, _, _, _, _ => none
  | n + 1, x0, l2, l3, l4, l5, l6, σ =>
  (if (60 : Int32) < l6 then
  some l4
  else
  (m11_doingOf l6 l2).bind fun v56 =>
  (hw_rv (hw_q 11) (some x0) σ).bind fun a59 =>
  (m11_lawsApart x0 l3 v56 σ).bind fun v59 =>
  (if v59 ≤ l5 then
  m11_next_b79 (m11_next_b44 n) x0 l2 l3 l4 l5 l6 σ
  else
  m11_next_b79 (m11_next_b44 n) x0 l2 l3 l6 v59 l6 σ))
set_option maxRecDepth 100000 in
theorem w11_next_b44 {p : Program} {l : Launch} {e : Env} {s : State} {m : MethodId} {args : Array Value} {below : List Frame} {meth : Method} {c : Code} {D : hw_D} {b : Nat} {r : Int32} (C0 : hw_C p s m args meth c D yX11_next cX11_next 8 (some .int)) : ∀ (n : Nat) {x0 : Nat} {l2 : Int32} {l3 : Option Nat} {l4 : Int32} {l5 : Int32} {l6 : Int32} {σ : hw_S} {ls : Array Slot}, m11_next_b44 n x0 l2 l3 l4 l5 l6 σ = some r → hw_R D b σ s.heap → hw_L ls 8 255 [(0, hw_vr b (some x0)), (2, .int l2), (3, hw_vr b l3), (4, .int l4), (5, .int l5), (6, .int l6)] → W p l e rm11_next s m args below meth c s.heap [] 0 0 (MQ below (hw_RI r) args s 0 0 hw_nof) (F0 m 44 ls []) := by
  obtain ⟨hx, hb, hml, hr, hown, hts, hlk, hE, hnm⟩ := id C0
  have hown : s.vm.findClass RX11 = some m.cls := hown
  have hK := hE.1
  intro n
  induction n with
  | zero => intro _ _ _ _ _ _ _ _ hm; cases hm
  | succ n ih =>
    intro x0 l2 l3 l4 l5 l6 σ ls hm hR hl
    rw [m11_next_b44] at hm
    refine lv_iload hx hb dX11_next_44 (hl.at 5 rfl) ?_
    refine lv_bipush (v := 60) hx hb dX11_next_46 (by decide) ?_
    refine lv_icmp_gt (tgt := 85) hx hb dX11_next_48 (by decide) (fun c48 => ?_) (fun c48 => ?_)
    · have hm := hw_ip hm c48
      refine lv_iload hx hb dX11_next_85 (hl.at 3 rfl) ?_
      exact hw_rRI hx hb hr hlk hm dX11_next_87
    · have hm := hw_in hm c48
      refine hw_aload_n hx hb dX11_next_51 rfl (hl.at 0 rfl) ?_
      refine hw_aload_n hx hb dX11_next_52 rfl (hl.at 2 rfl) ?_
      refine lv_iload hx hb dX11_next_53 (hl.at 5 rfl) ?_
      refine lv_iload_n hx hb dX11_next_55 rfl (hl.at 1 rfl) ?_
      obtain ⟨v56, e56, hm⟩ := hw_bs hm
      refine hw_cRI (va_runS (As := [.int l6, .int l2]) (rest := [hw_vr b l3, hw_vr b (some x0)]) ⟨hx, hb, hml, hown, hts⟩ (c11_doingOf l D e56) (cwS 2 hts (hw_gS hw_m688 hw_m689 hw_m2 hw_m690) rfl rfl rfl (by decide +kernel) ⟨(Nat.le_of_ble_eq_true rfl), (Nat.le_of_ble_eq_true rfl)⟩) (hw_pre0 hE) rfl rfl hl.sz rfl (lv_room (hw_sm (List.forall_mem_cons.mpr ⟨(hw_vr_cat _ _), (List.forall_mem_cons.mpr ⟨(hw_vr_cat _ _), (fun _ h => absurd h List.not_mem_nil)⟩)⟩) (Nat.le_of_ble_eq_true rfl))) dX11_next_56 ⟨(Nat.le_of_ble_eq_true rfl), (Nat.le_of_ble_eq_true rfl)⟩) ?_
      obtain ⟨a59, g59, hm⟩ := hw_bs hm
      obtain ⟨rfl, ht59⟩ := hw_rv_th g59
      obtain ⟨v59, e59, hm⟩ := hw_bs hm
      refine hw_cRI (va_runV (As := [hw_vr b l3, .int v56]) (rest := []) ⟨hx, hb, hml, hown, hts⟩ (c11_lawsApart l D b e59) (cwV 2 hts (hw_gV hw_m869 hw_m870 hw_m871 hw_m2 hw_m872) rfl rfl rfl (by decide +kernel) ⟨(Nat.le_of_ble_eq_true rfl), (Nat.le_of_ble_eq_true rfl)⟩) (hw_preV (ci := 11) hE hR rfl (by decide) (hw_q_of ht59)) rfl rfl hl.sz rfl (lv_room (Nat.le_of_ble_eq_true rfl)) dX11_next_59 ⟨(Nat.le_of_ble_eq_true rfl), (Nat.le_of_ble_eq_true rfl)⟩) ?_
      refine hw_istore (lv' := [(7, .int v59), (0, hw_vr b (some x0)), (2, .int l2), (3, hw_vr b l3), (4, .int l4), (5, .int l5), (6, .int l6)]) hx hb dX11_next_62 hl (by decide) (by decide) rfl (fun ls hl => ?_)
      refine lv_iload hx hb dX11_next_64 (hl.at 0 rfl) ?_
      refine lv_iload hx hb dX11_next_66 (hl.at 5 rfl) ?_
      refine lv_icmp_le (tgt := 79) hx hb dX11_next_68 (by decide) (fun c68 => ?_) (fun c68 => ?_)
      · have hm := hw_ip hm c68
        exact w11_next_b79 C0 ih hm hR (hl.sub [1, 2, 3, 4, 5, 6] rfl)
      · have hm := hw_in hm c68
        refine lv_iload hx hb dX11_next_71 (hl.at 0 rfl) ?_
        refine hw_istore (lv' := [(5, .int v59), (7, .int v59), (0, hw_vr b (some x0)), (2, .int l2), (3, hw_vr b l3), (4, .int l4), (6, .int l6)]) hx hb dX11_next_73 hl (by decide) (by decide) rfl (fun ls hl => ?_)
        refine lv_iload hx hb dX11_next_75 (hl.at 6 rfl) ?_
        refine hw_istore (lv' := [(4, .int l6), (5, .int v59), (7, .int v59), (0, hw_vr b (some x0)), (2, .int l2), (3, hw_vr b l3), (6, .int l6)]) hx hb dX11_next_77 hl (by decide) (by decide) rfl (fun ls hl => ?_)
        exact w11_next_b79 C0 ih hm hR (hl.sub [3, 4, 5, 0, 1, 6] rfl)
def m11_next (x0 : Nat) (l1 : Int32) (l2 : Int32) (σ : hw_S) : Option Int32 :=
  (hw_rv (hw_q 11) (some x0) σ).bind fun a2 =>
  (m11_stuffAt x0 l1 σ).bind fun v2 =>
  (if v2 = none then
  some ((-1) : Int32)
  else
  (m11_isFlow l2).bind fun v13 =>
  (if v13 = 0 then
  some ((-2) : Int32)
  else
  (hw_gP (hw_q 11) 0 (some x0) σ).bind fun v23 =>
  (hw_gI (hw_q 8) 3 v23 σ).bind fun v26 =>
  (if v26 = 0 then
  some ((-5) : Int32)
  else
  m11_next_b44 hw_fu x0 l2 v2 (1 : Int32) (0 : Int32) (1 : Int32) σ)))
set_option maxRecDepth 100000 in
theorem w11_next_s {p : Program} {l : Launch} {e : Env} {s : State} {m : MethodId} {args : Array Value} {below : List Frame} {meth : Method} {c : Code} {D : hw_D} {b : Nat} {x0 : Nat} {l1 : Int32} {l2 : Int32} {σ : hw_S} {r : Int32} (hm : m11_next x0 l1 l2 σ = some r) (C0 : hw_C p s m args meth c D yX11_next cX11_next 8 (some .int)) (hR : hw_R D b σ s.heap) {ls : Array Slot} (hl : hw_L ls 8 255 [(0, hw_vr b (some x0)), (1, .int l1), (2, .int l2)]) : W p l e rm11_next s m args below meth c s.heap [] 0 0 (MQ below (hw_RI r) args s 0 0 hw_nof) (F0 m 0 ls []) := by
  obtain ⟨hx, hb, hml, hr, hown, hts, hlk, hE, hnm⟩ := id C0
  have hown : s.vm.findClass RX11 = some m.cls := hown
  have hK := hE.1
  unfold m11_next at hm
  refine hw_aload_n hx hb dX11_next_0 rfl (hl.at 0 rfl) ?_
  refine lv_iload_n hx hb dX11_next_1 rfl (hl.at 1 rfl) ?_
  obtain ⟨a2, g2, hm⟩ := hw_bs hm
  obtain ⟨rfl, ht2⟩ := hw_rv_th g2
  obtain ⟨v2, e2, hm⟩ := hw_bs hm
  refine hw_cRP (va_runV (As := [.int l1]) (rest := []) ⟨hx, hb, hml, hown, hts⟩ (c11_stuffAt l D b e2) (cwV 1 hts (hw_gV hw_m121 hw_m122 hw_m123 hw_m2 hw_m124) rfl rfl rfl (by decide +kernel) ⟨(Nat.le_of_ble_eq_true rfl), (Nat.le_of_ble_eq_true rfl)⟩) (hw_preV (ci := 11) hE hR rfl (by decide) (hw_q_of ht2)) rfl rfl hl.sz rfl (lv_room (Nat.le_of_ble_eq_true rfl)) dX11_next_2 ⟨(Nat.le_of_ble_eq_true rfl), (Nat.le_of_ble_eq_true rfl)⟩) ?_
  refine hw_asto_n (lv' := [(3, hw_vr b v2), (0, hw_vr b (some x0)), (1, .int l1), (2, .int l2)]) hx hb dX11_next_5 rfl hl (by decide) (by decide) rfl (fun ls hl => ?_)
  refine hw_aload_n hx hb dX11_next_6 rfl (hl.at 0 rfl) ?_
  refine hw_ifnonnull (tgt := 12) hx hb dX11_next_7 (by decide) (fun c7 => ?_) (fun c7 => ?_)
  · have hm := hw_in hm c7
    refine lv_iload_n hx hb dX11_next_12 rfl (hl.at 3 rfl) ?_
    obtain ⟨v13, e13, hm⟩ := hw_bs hm
    refine hw_cRI (va_runS (As := [.int l2]) (rest := []) ⟨hx, hb, hml, hown, hts⟩ (c11_isFlow l D e13) (cwS 1 hts (hw_gS hw_m454 hw_m455 hw_m2 hw_m456) rfl rfl rfl (by decide +kernel) ⟨(Nat.le_of_ble_eq_true rfl), (Nat.le_of_ble_eq_true rfl)⟩) (hw_pre0 hE) rfl rfl hl.sz rfl (lv_room (Nat.le_of_ble_eq_true rfl)) dX11_next_13 ⟨(Nat.le_of_ble_eq_true rfl), (Nat.le_of_ble_eq_true rfl)⟩) ?_
    refine lv_if_ne (tgt := 22) hx hb dX11_next_16 (by decide) (fun c16 => ?_) (fun c16 => ?_)
    · have hm := hw_in hm c16
      refine hw_aload_n hx hb dX11_next_22 rfl (hl.at 1 rfl) ?_
      obtain ⟨v23, e23, hm⟩ := hw_bs hm
      refine hw_getP hx hb hw_cf11 hts hown hK hR e23 (by decide) rfl (hts _ hw_m16) (fun _ h9 => h9) dX11_next_23 ?_
      obtain ⟨v26, e26, hm⟩ := hw_bs hm
      refine hw_getI hx hb hw_cf8 hts hown hK hR e26 (by decide) rfl (hts _ hw_m148) (fun _ h9 => h9) dX11_next_26 ?_
      refine lv_if_ne (tgt := 35) hx hb dX11_next_29 (by decide) (fun c29 => ?_) (fun c29 => ?_)
      · have hm := hw_in hm c29
        refine lv_iconst (v := 1) hx hb dX11_next_35 (by decide) ?_
        refine hw_istore (lv' := [(4, .int (1 : Int32)), (3, hw_vr b v2), (0, hw_vr b (some x0)), (1, .int l1), (2, .int l2)]) hx hb dX11_next_36 hl (by decide) (by decide) rfl (fun ls hl => ?_)
        refine lv_iconst (v := 0) hx hb dX11_next_38 (by decide) ?_
        refine hw_istore (lv' := [(5, .int (0 : Int32)), (4, .int (1 : Int32)), (3, hw_vr b v2), (0, hw_vr b (some x0)), (1, .int l1), (2, .int l2)]) hx hb dX11_next_39 hl (by decide) (by decide) rfl (fun ls hl => ?_)
        refine lv_iconst (v := 1) hx hb dX11_next_41 (by decide) ?_
        refine hw_istore (lv' := [(6, .int (1 : Int32)), (5, .int (0 : Int32)), (4, .int (1 : Int32)), (3, hw_vr b v2), (0, hw_vr b (some x0)), (1, .int l1), (2, .int l2)]) hx hb dX11_next_42 hl (by decide) (by decide) rfl (fun ls hl => ?_)
        exact w11_next_b44 C0 hw_fu hm hR (hl.sub [4, 6, 3, 2, 1, 0] rfl)
      · have hm := hw_ip hm c29
        refine lv_bipush (v := (-5)) hx hb dX11_next_32 (by decide) ?_
        exact hw_rRI hx hb hr hlk hm dX11_next_34
    · have hm := hw_ip hm c16
      refine lv_bipush (v := (-2)) hx hb dX11_next_19 (by decide) ?_
      exact hw_rRI hx hb hr hlk hm dX11_next_21
  · have hm := hw_ip hm c7
    refine lv_iconst (v := (-1)) hx hb dX11_next_10 (by decide) ?_
    exact hw_rRI hx hb hr hlk hm dX11_next_11
set_option maxRecDepth 100000 in
theorem c11_next (l : Launch) (D : hw_D) (b : Nat) {x0 : Nat} {l1 : Int32} {l2 : Int32} {σ : hw_S} {r : Int32} (hm : m11_next x0 l1 l2 σ = some r) : Met l yX11_next (Cond.code yX11_next cX11_next 8 (some .int) :: wsL_law) rm11_next (hw_P1 D b σ [hw_vr b (some x0), .int l1, .int l2]) (hw_RI r) 0 0 hw_nof := by
  refine hw_start1 (by decide +kernel) (by exact Nat.le_of_ble_eq_true rfl) ?_
  intro p e s m below meth c ls C0 hR hS hl
  have hl : lv_has ls 8 [(0, hw_vr b (some x0)), (1, .int l1), (2, .int l2)] := by exact hl
  exact w11_next_s hm C0 hR ⟨hl, (List.forall_mem_cons.mpr ⟨(fun h => by rw [show (hw_vr b (some x0) : Value).category = 1 from (hw_vr_cat _ _)] at h; cases h), (List.forall_mem_cons.mpr ⟨(fun h => absurd (show (1 : Nat) = 2 from h) (by decide)), (List.forall_mem_cons.mpr ⟨(fun h => absurd (show (1 : Nat) = 2 from h) (by decide)), (fun _ h => absurd h List.not_mem_nil)⟩)⟩)⟩)⟩

abbrev rm12_next : Room := { frames := 4, cells := 0, slots := 0, locals := 110 }
def m12_next_b171 (x0 : Nat) (l3 : Int32) (σ : hw_S) : Option (Int32 × hw_S) :=
  some (l3, σ)
set_option maxRecDepth 100000 in
theorem w12_next_b171 {p : Program} {l : Launch} {e : Env} {s : State} {m : MethodId} {args : Array Value} {below : List Frame} {meth : Method} {c : Code} {D : hw_D} {b : Nat} {r : Int32} {τ : hw_S} (C0 : hw_C p s m args meth c D yX12_next cX12_next 10 (some .int)) {x0 : Nat} {l3 : Int32} {σ : hw_S} {H : Heap} {locs : List Loc} (hm : m12_next_b171 x0 l3 σ = some (r, τ)) (hR : hw_R D b σ H) (hS : va_S (fun q => b ≤ q) s.heap H locs) {ls : Array Slot} (hl : hw_L ls 10 255 [(0, hw_vr b (some x0)), (3, .int l3)]) : W p l e rm12_next s m args below meth c H locs 0 0 (MQ below (hw_QI D b τ r) args s 0 0 (fun q => b ≤ q)) (F0 m 171 ls []) := by
  obtain ⟨hx, hb, hml, hr, hown, hts, hlk, hE, hnm⟩ := id C0
  have hown : s.vm.findClass RX12 = some m.cls := hown
  have hK := hE.1
  unfold m12_next_b171 at hm
  refine lv_iload_n hx hb dX12_next_171 rfl (hl.at 1 rfl) ?_
  exact hw_rWI hx hb hr hlk hR hS hm dX12_next_172
def m12_next_b163 (k29 : Nat → Int32 → Int32 → Int32 → Int32 → Int32 → hw_S → Option (Int32 × hw_S)) (x0 : Nat) (l1 : Int32) (l2 : Int32) (l3 : Int32) (l5 : Int32) (t0 : Int32) (σ : hw_S) : Option (Int32 × hw_S) :=
  k29 x0 l1 l2 l3 t0 (l5 + 1) σ
set_option maxRecDepth 100000 in
theorem w12_next_b163 {p : Program} {l : Launch} {e : Env} {s : State} {m : MethodId} {args : Array Value} {below : List Frame} {meth : Method} {c : Code} {D : hw_D} {b : Nat} {k29 : Nat → Int32 → Int32 → Int32 → Int32 → Int32 → hw_S → Option (Int32 × hw_S)} {r : Int32} {τ : hw_S} (C0 : hw_C p s m args meth c D yX12_next cX12_next 10 (some .int)) (hk29 : ∀ {x0 : Nat} {l1 : Int32} {l2 : Int32} {l3 : Int32} {l4 : Int32} {l5 : Int32} {σ : hw_S} {H : Heap} {locs : List Loc} {ls : Array Slot}, k29 x0 l1 l2 l3 l4 l5 σ = some (r, τ) → hw_R D b σ H → va_S (fun q => b ≤ q) s.heap H locs → hw_L ls 10 255 [(0, hw_vr b (some x0)), (1, .int l1), (2, .int l2), (3, .int l3), (4, .int l4), (5, .int l5)] → W p l e rm12_next s m args below meth c H locs 0 0 (MQ below (hw_QI D b τ r) args s 0 0 (fun q => b ≤ q)) (F0 m 29 ls [])) {x0 : Nat} {l1 : Int32} {l2 : Int32} {l3 : Int32} {l5 : Int32} {t0 : Int32} {σ : hw_S} {H : Heap} {locs : List Loc} (hm : m12_next_b163 k29 x0 l1 l2 l3 l5 t0 σ = some (r, τ)) (hR : hw_R D b σ H) (hS : va_S (fun q => b ≤ q) s.heap H locs) {ls : Array Slot} (hl : hw_L ls 10 255 [(0, hw_vr b (some x0)), (1, .int l1), (2, .int l2), (3, .int l3), (5, .int l5)]) : W p l e rm12_next s m args below meth c H locs 0 0 (MQ below (hw_QI D b τ r) args s 0 0 (fun q => b ≤ q)) (F0 m 163 ls [.int t0]) := by
  obtain ⟨hx, hb, hml, hr, hown, hts, hlk, hE, hnm⟩ := id C0
  have hown : s.vm.findClass RX12 = some m.cls := hown
  have hK := hE.1
  unfold m12_next_b163 at hm
  refine hw_istore (lv' := [(4, .int t0), (0, hw_vr b (some x0)), (1, .int l1), (2, .int l2), (3, .int l3), (5, .int l5)]) hx hb dX12_next_163 hl (by decide) (by decide) rfl (fun ls hl => ?_)
  refine hw_iinc (v := (l5 + 1)) (lv' := [(5, .int (l5 + 1)), (4, .int t0), (0, hw_vr b (some x0)), (1, .int l1), (2, .int l2), (3, .int l3)]) hx hb dX12_next_165 hl (k := 5) rfl rfl (by decide) (by decide) rfl (fun ls hl => ?_)
  refine lv_goto (tgt := 29) hx hb dX12_next_168 (by decide) ?_
  exact hk29 hm hR hS (hl.sub [2, 3, 4, 5, 1, 0] rfl)
def m12_next_b142 (k29 : Nat → Int32 → Int32 → Int32 → Int32 → Int32 → hw_S → Option (Int32 × hw_S)) (x0 : Nat) (l1 : Int32) (l2 : Int32) (l4 : Int32) (l5 : Int32) (l6 : Int32) (l7 : Int32) (t0 : Int32) (σ : hw_S) : Option (Int32 × hw_S) :=
  (if (l7 - l6) ≤ l4 then
  m12_next_b163 k29 x0 l1 l2 t0 l5 l4 σ
  else
  m12_next_b163 k29 x0 l1 l2 t0 l5 (l7 - l6) σ)
set_option maxRecDepth 100000 in
theorem w12_next_b142 {p : Program} {l : Launch} {e : Env} {s : State} {m : MethodId} {args : Array Value} {below : List Frame} {meth : Method} {c : Code} {D : hw_D} {b : Nat} {k29 : Nat → Int32 → Int32 → Int32 → Int32 → Int32 → hw_S → Option (Int32 × hw_S)} {r : Int32} {τ : hw_S} (C0 : hw_C p s m args meth c D yX12_next cX12_next 10 (some .int)) (hk29 : ∀ {x0 : Nat} {l1 : Int32} {l2 : Int32} {l3 : Int32} {l4 : Int32} {l5 : Int32} {σ : hw_S} {H : Heap} {locs : List Loc} {ls : Array Slot}, k29 x0 l1 l2 l3 l4 l5 σ = some (r, τ) → hw_R D b σ H → va_S (fun q => b ≤ q) s.heap H locs → hw_L ls 10 255 [(0, hw_vr b (some x0)), (1, .int l1), (2, .int l2), (3, .int l3), (4, .int l4), (5, .int l5)] → W p l e rm12_next s m args below meth c H locs 0 0 (MQ below (hw_QI D b τ r) args s 0 0 (fun q => b ≤ q)) (F0 m 29 ls [])) {x0 : Nat} {l1 : Int32} {l2 : Int32} {l4 : Int32} {l5 : Int32} {l6 : Int32} {l7 : Int32} {t0 : Int32} {σ : hw_S} {H : Heap} {locs : List Loc} (hm : m12_next_b142 k29 x0 l1 l2 l4 l5 l6 l7 t0 σ = some (r, τ)) (hR : hw_R D b σ H) (hS : va_S (fun q => b ≤ q) s.heap H locs) {ls : Array Slot} (hl : hw_L ls 10 255 [(0, hw_vr b (some x0)), (1, .int l1), (2, .int l2), (4, .int l4), (5, .int l5), (6, .int l6), (7, .int l7)]) : W p l e rm12_next s m args below meth c H locs 0 0 (MQ below (hw_QI D b τ r) args s 0 0 (fun q => b ≤ q)) (F0 m 142 ls [.int t0]) := by
  obtain ⟨hx, hb, hml, hr, hown, hts, hlk, hE, hnm⟩ := id C0
  have hown : s.vm.findClass RX12 = some m.cls := hown
  have hK := hE.1
  unfold m12_next_b142 at hm
  refine hw_istore_n (lv' := [(3, .int t0), (0, hw_vr b (some x0)), (1, .int l1), (2, .int l2), (4, .int l4), (5, .int l5), (6, .int l6), (7, .int l7)]) hx hb dX12_next_142 rfl hl (by decide) (by decide) rfl (fun ls hl => ?_)
  refine lv_iload hx hb dX12_next_143 (hl.at 7 rfl) ?_
  refine lv_iload hx hb dX12_next_145 (hl.at 6 rfl) ?_
  refine lv_isub hx hb dX12_next_147 ?_
  refine lv_iload hx hb dX12_next_148 (hl.at 4 rfl) ?_
  refine lv_icmp_le (tgt := 161) hx hb dX12_next_150 (by decide) (fun c150 => ?_) (fun c150 => ?_)
  · have hm := hw_ip hm c150
    refine lv_iload hx hb dX12_next_161 (hl.at 4 rfl) ?_
    exact w12_next_b163 C0 hk29 hm hR hS (hl.sub [1, 2, 3, 0, 5] rfl)
  · have hm := hw_in hm c150
    refine lv_iload hx hb dX12_next_153 (hl.at 7 rfl) ?_
    refine lv_iload hx hb dX12_next_155 (hl.at 6 rfl) ?_
    refine lv_isub hx hb dX12_next_157 ?_
    refine lv_goto (tgt := 163) hx hb dX12_next_158 (by decide) ?_
    exact w12_next_b163 C0 hk29 hm hR hS (hl.sub [1, 2, 3, 0, 5] rfl)
def m12_next_b118 (k29 : Nat → Int32 → Int32 → Int32 → Int32 → Int32 → hw_S → Option (Int32 × hw_S)) (k64 : Nat → Int32 → Int32 → Int32 → Int32 → Int32 → Int32 → Int32 → Int32 → hw_S → Option (Int32 × hw_S)) (x0 : Nat) (l1 : Int32) (l2 : Int32) (l3 : Int32) (l4 : Int32) (l5 : Int32) (l6 : Int32) (l8 : Int32) (t0 : Int32) (σ : hw_S) : Option (Int32 × hw_S) :=
  k64 x0 l1 l2 l3 l4 l5 l6 t0 (l8 + 1) σ
set_option maxRecDepth 100000 in
theorem w12_next_b118 {p : Program} {l : Launch} {e : Env} {s : State} {m : MethodId} {args : Array Value} {below : List Frame} {meth : Method} {c : Code} {D : hw_D} {b : Nat} {k29 : Nat → Int32 → Int32 → Int32 → Int32 → Int32 → hw_S → Option (Int32 × hw_S)} {k64 : Nat → Int32 → Int32 → Int32 → Int32 → Int32 → Int32 → Int32 → Int32 → hw_S → Option (Int32 × hw_S)} {r : Int32} {τ : hw_S} (C0 : hw_C p s m args meth c D yX12_next cX12_next 10 (some .int)) (hk29 : ∀ {x0 : Nat} {l1 : Int32} {l2 : Int32} {l3 : Int32} {l4 : Int32} {l5 : Int32} {σ : hw_S} {H : Heap} {locs : List Loc} {ls : Array Slot}, k29 x0 l1 l2 l3 l4 l5 σ = some (r, τ) → hw_R D b σ H → va_S (fun q => b ≤ q) s.heap H locs → hw_L ls 10 255 [(0, hw_vr b (some x0)), (1, .int l1), (2, .int l2), (3, .int l3), (4, .int l4), (5, .int l5)] → W p l e rm12_next s m args below meth c H locs 0 0 (MQ below (hw_QI D b τ r) args s 0 0 (fun q => b ≤ q)) (F0 m 29 ls [])) (hk64 : ∀ {x0 : Nat} {l1 : Int32} {l2 : Int32} {l3 : Int32} {l4 : Int32} {l5 : Int32} {l6 : Int32} {l7 : Int32} {l8 : Int32} {σ : hw_S} {H : Heap} {locs : List Loc} {ls : Array Slot}, k64 x0 l1 l2 l3 l4 l5 l6 l7 l8 σ = some (r, τ) → hw_R D b σ H → va_S (fun q => b ≤ q) s.heap H locs → hw_L ls 10 255 [(0, hw_vr b (some x0)), (1, .int l1), (2, .int l2), (3, .int l3), (4, .int l4), (5, .int l5), (6, .int l6), (7, .int l7), (8, .int l8)] → W p l e rm12_next s m args below meth c H locs 0 0 (MQ below (hw_QI D b τ r) args s 0 0 (fun q => b ≤ q)) (F0 m 64 ls [])) {x0 : Nat} {l1 : Int32} {l2 : Int32} {l3 : Int32} {l4 : Int32} {l5 : Int32} {l6 : Int32} {l8 : Int32} {t0 : Int32} {σ : hw_S} {H : Heap} {locs : List Loc} (hm : m12_next_b118 k29 k64 x0 l1 l2 l3 l4 l5 l6 l8 t0 σ = some (r, τ)) (hR : hw_R D b σ H) (hS : va_S (fun q => b ≤ q) s.heap H locs) {ls : Array Slot} (hl : hw_L ls 10 255 [(0, hw_vr b (some x0)), (1, .int l1), (2, .int l2), (3, .int l3), (4, .int l4), (5, .int l5), (6, .int l6), (8, .int l8)]) : W p l e rm12_next s m args below meth c H locs 0 0 (MQ below (hw_QI D b τ r) args s 0 0 (fun q => b ≤ q)) (F0 m 118 ls [.int t0]) := by
  obtain ⟨hx, hb, hml, hr, hown, hts, hlk, hE, hnm⟩ := id C0
  have hown : s.vm.findClass RX12 = some m.cls := hown
  have hK := hE.1
  unfold m12_next_b118 at hm
  refine hw_istore (lv' := [(7, .int t0), (0, hw_vr b (some x0)), (1, .int l1), (2, .int l2), (3, .int l3), (4, .int l4), (5, .int l5), (6, .int l6), (8, .int l8)]) hx hb dX12_next_118 hl (by decide) (by decide) rfl (fun ls hl => ?_)
  refine hw_iinc (v := (l8 + 1)) (lv' := [(8, .int (l8 + 1)), (7, .int t0), (0, hw_vr b (some x0)), (1, .int l1), (2, .int l2), (3, .int l3), (4, .int l4), (5, .int l5), (6, .int l6)]) hx hb dX12_next_120 hl (k := 8) rfl rfl (by decide) (by decide) rfl (fun ls hl => ?_)
  refine lv_goto (tgt := 64) hx hb dX12_next_123 (by decide) ?_
  exact hk64 hm hR hS (hl.sub [2, 3, 4, 5, 6, 7, 8, 1, 0] rfl)
def m12_next_b102 (k29 : Nat → Int32 → Int32 → Int32 → Int32 → Int32 → hw_S → Option (Int32 × hw_S)) (k64 : Nat → Int32 → Int32 → Int32 → Int32 → Int32 → Int32 → Int32 → Int32 → hw_S → Option (Int32 × hw_S)) (x0 : Nat) (l1 : Int32) (l2 : Int32) (l3 : Int32) (l4 : Int32) (l5 : Int32) (l7 : Int32) (l8 : Int32) (l9 : Int32) (t0 : Int32) (σ : hw_S) : Option (Int32 × hw_S) :=
  (if l9 ≤ l7 then
  m12_next_b118 k29 k64 x0 l1 l2 l3 l4 l5 t0 l8 l7 σ
  else
  m12_next_b118 k29 k64 x0 l1 l2 l3 l4 l5 t0 l8 l9 σ)
set_option maxRecDepth 100000 in
theorem w12_next_b102 {p : Program} {l : Launch} {e : Env} {s : State} {m : MethodId} {args : Array Value} {below : List Frame} {meth : Method} {c : Code} {D : hw_D} {b : Nat} {k29 : Nat → Int32 → Int32 → Int32 → Int32 → Int32 → hw_S → Option (Int32 × hw_S)} {k64 : Nat → Int32 → Int32 → Int32 → Int32 → Int32 → Int32 → Int32 → Int32 → hw_S → Option (Int32 × hw_S)} {r : Int32} {τ : hw_S} (C0 : hw_C p s m args meth c D yX12_next cX12_next 10 (some .int)) (hk29 : ∀ {x0 : Nat} {l1 : Int32} {l2 : Int32} {l3 : Int32} {l4 : Int32} {l5 : Int32} {σ : hw_S} {H : Heap} {locs : List Loc} {ls : Array Slot}, k29 x0 l1 l2 l3 l4 l5 σ = some (r, τ) → hw_R D b σ H → va_S (fun q => b ≤ q) s.heap H locs → hw_L ls 10 255 [(0, hw_vr b (some x0)), (1, .int l1), (2, .int l2), (3, .int l3), (4, .int l4), (5, .int l5)] → W p l e rm12_next s m args below meth c H locs 0 0 (MQ below (hw_QI D b τ r) args s 0 0 (fun q => b ≤ q)) (F0 m 29 ls [])) (hk64 : ∀ {x0 : Nat} {l1 : Int32} {l2 : Int32} {l3 : Int32} {l4 : Int32} {l5 : Int32} {l6 : Int32} {l7 : Int32} {l8 : Int32} {σ : hw_S} {H : Heap} {locs : List Loc} {ls : Array Slot}, k64 x0 l1 l2 l3 l4 l5 l6 l7 l8 σ = some (r, τ) → hw_R D b σ H → va_S (fun q => b ≤ q) s.heap H locs → hw_L ls 10 255 [(0, hw_vr b (some x0)), (1, .int l1), (2, .int l2), (3, .int l3), (4, .int l4), (5, .int l5), (6, .int l6), (7, .int l7), (8, .int l8)] → W p l e rm12_next s m args below meth c H locs 0 0 (MQ below (hw_QI D b τ r) args s 0 0 (fun q => b ≤ q)) (F0 m 64 ls [])) {x0 : Nat} {l1 : Int32} {l2 : Int32} {l3 : Int32} {l4 : Int32} {l5 : Int32} {l7 : Int32} {l8 : Int32} {l9 : Int32} {t0 : Int32} {σ : hw_S} {H : Heap} {locs : List Loc} (hm : m12_next_b102 k29 k64 x0 l1 l2 l3 l4 l5 l7 l8 l9 t0 σ = some (r, τ)) (hR : hw_R D b σ H) (hS : va_S (fun q => b ≤ q) s.heap H locs) {ls : Array Slot} (hl : hw_L ls 10 255 [(0, hw_vr b (some x0)), (1, .int l1), (2, .int l2), (3, .int l3), (4, .int l4), (5, .int l5), (7, .int l7), (8, .int l8), (9, .int l9)]) : W p l e rm12_next s m args below meth c H locs 0 0 (MQ below (hw_QI D b τ r) args s 0 0 (fun q => b ≤ q)) (F0 m 102 ls [.int t0]) := by
  obtain ⟨hx, hb, hml, hr, hown, hts, hlk, hE, hnm⟩ := id C0
  have hown : s.vm.findClass RX12 = some m.cls := hown
  have hK := hE.1
  unfold m12_next_b102 at hm
  refine hw_istore (lv' := [(6, .int t0), (0, hw_vr b (some x0)), (1, .int l1), (2, .int l2), (3, .int l3), (4, .int l4), (5, .int l5), (7, .int l7), (8, .int l8), (9, .int l9)]) hx hb dX12_next_102 hl (by decide) (by decide) rfl (fun ls hl => ?_)
  refine lv_iload hx hb dX12_next_104 (hl.at 9 rfl) ?_
  refine lv_iload hx hb dX12_next_106 (hl.at 7 rfl) ?_
  refine lv_icmp_le (tgt := 116) hx hb dX12_next_108 (by decide) (fun c108 => ?_) (fun c108 => ?_)
  · have hm := hw_ip hm c108
    refine lv_iload hx hb dX12_next_116 (hl.at 7 rfl) ?_
    exact w12_next_b118 C0 hk29 hk64 hm hR hS (hl.sub [1, 2, 3, 4, 5, 6, 0, 8] rfl)
  · have hm := hw_in hm c108
    refine lv_iload hx hb dX12_next_111 (hl.at 9 rfl) ?_
    refine lv_goto (tgt := 118) hx hb dX12_next_113 (by decide) ?_
    exact w12_next_b118 C0 hk29 hk64 hm hR hS (hl.sub [1, 2, 3, 4, 5, 6, 0, 8] rfl)
def m12_next_b64 (k29 : Nat → Int32 → Int32 → Int32 → Int32 → Int32 → hw_S → Option (Int32 × hw_S)) : Nat → Nat → Int32 → Int32 → Int32 → Int32 → Int32 → Int32 → Int32 → Int32 → hw_S → Option (Int32 × hw_S)
  | 0, _, _, _, _, _, _, _, _, _, _ => none
  | n + 1, x0, l1, l2, l3, l4, l5, l6, l7, l8, σ =>
  (hw_gP (hw_q 12) 1 (some x0) σ).bind fun v67 =>
  (hw_aI 0 v67 (1 : Int32) σ).bind fun v71 =>
  (if v71 ≤ l8 then
  (if (l7 - l6) ≤ l4 then
  m12_next_b142 k29 x0 l1 l2 l4 l5 l6 l7 l3 σ
  else
  m12_next_b142 k29 x0 l1 l2 l4 l5 l6 l7 l5 σ)
  else
  (hw_rv (hw_q 12) (some x0) σ).bind fun a83 =>
  hw_b2 (m12_turnsOf x0 l8 l1 l5 l2 (0 : Int32) σ) fun v83 σ83 =>
  (if l6 ≤ v83 then
  m12_next_b102 k29 (m12_next_b64 k29 n) x0 l1 l2 l3 l4 l5 l7 l8 v83 l6 σ83
  else
  m12_next_b102 k29 (m12_next_b64 k29 n) x0 l1 l2 l3 l4 l5 l7 l8 v83 v83 σ83))
set_option maxRecDepth 100000 in
theorem w12_next_b64 {p : Program} {l : Launch} {e : Env} {s : State} {m : MethodId} {args : Array Value} {below : List Frame} {meth : Method} {c : Code} {D : hw_D} {b : Nat} {k29 : Nat → Int32 → Int32 → Int32 → Int32 → Int32 → hw_S → Option (Int32 × hw_S)} {r : Int32} {τ : hw_S} (C0 : hw_C p s m args meth c D yX12_next cX12_next 10 (some .int)) (hk29 : ∀ {x0 : Nat} {l1 : Int32} {l2 : Int32} {l3 : Int32} {l4 : Int32} {l5 : Int32} {σ : hw_S} {H : Heap} {locs : List Loc} {ls : Array Slot}, k29 x0 l1 l2 l3 l4 l5 σ = some (r, τ) → hw_R D b σ H → va_S (fun q => b ≤ q) s.heap H locs → hw_L ls 10 255 [(0, hw_vr b (some x0)), (1, .int l1), (2, .int l2), (3, .int l3), (4, .int l4), (5, .int l5)] → W p l e rm12_next s m args below meth c H locs 0 0 (MQ below (hw_QI D b τ r) args s 0 0 (fun q => b ≤ q)) (F0 m 29 ls [])) : ∀ (n : Nat) {x0 : Nat} {l1 : Int32} {l2 : Int32} {l3 : Int32} {l4 : Int32} {l5 : Int32} {l6 : Int32} {l7 : Int32} {l8 : Int32} {σ : hw_S} {H : Heap} {locs : List Loc} {ls : Array Slot}, m12_next_b64 k29 n x0 l1 l2 l3 l4 l5 l6 l7 l8 σ = some (r, τ) → hw_R D b σ H → va_S (fun q => b ≤ q) s.heap H locs → hw_L ls 10 255 [(0, hw_vr b (some x0)), (1, .int l1), (2, .int l2), (3, .int l3), (4, .int l4), (5, .int l5), (6, .int l6), (7, .int l7), (8, .int l8)] → W p l e rm12_next s m args below meth c H locs 0 0 (MQ below (hw_QI D b τ r) args s 0 0 (fun q => b ≤ q)) (F0 m 64 ls []) := by
  obtain ⟨hx, hb, hml, hr, hown, hts, hlk, hE, hnm⟩ := id C0
  have hown : s.vm.findClass RX12 = some m.cls := hown
  have hK := hE.1
  intro n
  induction n with
  | zero => intro _ _ _ _ _ _ _ _ _ _ _ _ _ hm; cases hm
  | succ n ih =>
    intro x0 l1 l2 l3 l4 l5 l6 l7 l8 σ H locs ls hm hR hS hl
    rw [m12_next_b64] at hm
    refine lv_iload hx hb dX12_next_64 (hl.at 8 rfl) ?_
    refine hw_aload_n hx hb dX12_next_66 rfl (hl.at 0 rfl) ?_
    obtain ⟨v67, e67, hm⟩ := hw_bs hm
    refine hw_getP hx hb hw_cf12 hts hown hK hR e67 (by decide) rfl (hts _ hw_m76) (fun _ h9 => h9) dX12_next_67 ?_
    refine lv_iconst (v := 1) hx hb dX12_next_70 (by decide) ?_
    obtain ⟨v71, e71, hm⟩ := hw_bs hm
    refine hw_iald hx hb hK hR e71 dX12_next_71 ?_
    refine lv_icmp_ge (tgt := 126) hx hb dX12_next_72 (by decide) (fun c72 => ?_) (fun c72 => ?_)
    · have hm := hw_ip hm c72
      refine lv_iload hx hb dX12_next_126 (hl.at 7 rfl) ?_
      refine lv_iload hx hb dX12_next_128 (hl.at 6 rfl) ?_
      refine lv_isub hx hb dX12_next_130 ?_
      refine lv_iload hx hb dX12_next_131 (hl.at 4 rfl) ?_
      refine lv_icmp_le (tgt := 141) hx hb dX12_next_133 (by decide) (fun c133 => ?_) (fun c133 => ?_)
      · have hm := hw_ip hm c133
        refine lv_iload_n hx hb dX12_next_141 rfl (hl.at 3 rfl) ?_
        exact w12_next_b142 C0 hk29 hm hR hS (hl.sub [0, 1, 2, 4, 5, 6, 7] rfl)
      · have hm := hw_in hm c133
        refine lv_iload hx hb dX12_next_136 (hl.at 5 rfl) ?_
        refine lv_goto (tgt := 142) hx hb dX12_next_138 (by decide) ?_
        exact w12_next_b142 C0 hk29 hm hR hS (hl.sub [0, 1, 2, 4, 5, 6, 7] rfl)
    · have hm := hw_in hm c72
      refine hw_aload_n hx hb dX12_next_75 rfl (hl.at 0 rfl) ?_
      refine lv_iload hx hb dX12_next_76 (hl.at 8 rfl) ?_
      refine lv_iload_n hx hb dX12_next_78 rfl (hl.at 1 rfl) ?_
      refine lv_iload hx hb dX12_next_79 (hl.at 5 rfl) ?_
      refine lv_iload_n hx hb dX12_next_81 rfl (hl.at 2 rfl) ?_
      refine lv_iconst (v := 0) hx hb dX12_next_82 (by decide) ?_
      obtain ⟨a83, g83, hm⟩ := hw_bs hm
      obtain ⟨rfl, ht83⟩ := hw_rv_th g83
      obtain ⟨v83, σ83, e83, hm⟩ := hw_bs2 hm
      refine hw_cWI (va_runV (As := [.int l8, .int l1, .int l5, .int l2, .int (0 : Int32)]) (rest := []) ⟨hx, hb, hml, hown, hts⟩ (c12_turnsOf l D b e83) (cwV 5 hts (hw_gV hw_m584 hw_m585 hw_m586 hw_m5 hw_m587) rfl rfl rfl (by decide +kernel) ⟨(Nat.le_of_ble_eq_true rfl), (Nat.le_of_ble_eq_true rfl)⟩) (hw_preV (ci := 12) hE hR rfl (by decide) (hw_q_of ht83)) rfl rfl hl.sz rfl (lv_room (Nat.le_of_ble_eq_true rfl)) dX12_next_83 ⟨(Nat.le_of_ble_eq_true rfl), (Nat.le_of_ble_eq_true rfl)⟩) hS (fun _ _ hR hS => ?_)
      refine hw_istore (lv' := [(9, .int v83), (0, hw_vr b (some x0)), (1, .int l1), (2, .int l2), (3, .int l3), (4, .int l4), (5, .int l5), (6, .int l6), (7, .int l7), (8, .int l8)]) hx hb dX12_next_86 hl (by decide) (by decide) rfl (fun ls hl => ?_)
      refine lv_iload hx hb dX12_next_88 (hl.at 0 rfl) ?_
      refine lv_iload hx hb dX12_next_90 (hl.at 7 rfl) ?_
      refine lv_icmp_ge (tgt := 100) hx hb dX12_next_92 (by decide) (fun c92 => ?_) (fun c92 => ?_)
      · have hm := hw_ip hm c92
        refine lv_iload hx hb dX12_next_100 (hl.at 7 rfl) ?_
        exact w12_next_b102 C0 hk29 ih hm hR hS (hl.sub [1, 2, 3, 4, 5, 6, 8, 9, 0] rfl)
      · have hm := hw_in hm c92
        refine lv_iload hx hb dX12_next_95 (hl.at 0 rfl) ?_
        refine lv_goto (tgt := 102) hx hb dX12_next_97 (by decide) ?_
        exact w12_next_b102 C0 hk29 ih hm hR hS (hl.sub [1, 2, 3, 4, 5, 6, 8, 9, 0] rfl)
def m12_next_b29 : Nat → Nat → Int32 → Int32 → Int32 → Int32 → Int32 → hw_S → Option (Int32 × hw_S)
  | 0, _, _, _, _, _, _, _ => none
  | n + 1, x0, l1, l2, l3, l4, l5, σ =>
  (if (60 : Int32) < l5 then
  m12_next_b171 x0 l3 σ
  else
  (hw_gP (hw_q 12) 1 (some x0) σ).bind fun v37 =>
  (hw_aI 0 v37 (1 : Int32) σ).bind fun v41 =>
  (if v41 ≤ 0 then
  m12_next_b171 x0 l3 σ
  else
  (hw_rv (hw_q 12) (some x0) σ).bind fun a52 =>
  hw_b2 (m12_turnsOf x0 (0 : Int32) l1 l5 l2 (0 : Int32) σ) fun v52 σ52 =>
  m12_next_b64 (m12_next_b29 n) hw_fu x0 l1 l2 l3 l4 l5 v52 v52 (1 : Int32) σ52))
set_option maxRecDepth 100000 in
theorem w12_next_b29 {p : Program} {l : Launch} {e : Env} {s : State} {m : MethodId} {args : Array Value} {below : List Frame} {meth : Method} {c : Code} {D : hw_D} {b : Nat} {r : Int32} {τ : hw_S} (C0 : hw_C p s m args meth c D yX12_next cX12_next 10 (some .int)) : ∀ (n : Nat) {x0 : Nat} {l1 : Int32} {l2 : Int32} {l3 : Int32} {l4 : Int32} {l5 : Int32} {σ : hw_S} {H : Heap} {locs : List Loc} {ls : Array Slot}, m12_next_b29 n x0 l1 l2 l3 l4 l5 σ = some (r, τ) → hw_R D b σ H → va_S (fun q => b ≤ q) s.heap H locs → hw_L ls 10 255 [(0, hw_vr b (some x0)), (1, .int l1), (2, .int l2), (3, .int l3), (4, .int l4), (5, .int l5)] → W p l e rm12_next s m args below meth c H locs 0 0 (MQ below (hw_QI D b τ r) args s 0 0 (fun q => b ≤ q)) (F0 m 29 ls []) := by
  obtain ⟨hx, hb, hml, hr, hown, hts, hlk, hE, hnm⟩ := id C0
  have hown : s.vm.findClass RX12 = some m.cls := hown
  have hK := hE.1
  intro n
  induction n with
  | zero => intro _ _ _ _ _ _ _ _ _ _ hm; cases hm
  | succ n ih =>
    intro x0 l1 l2 l3 l4 l5 σ H locs ls hm hR hS hl
    rw [m12_next_b29] at hm
    refine lv_iload hx hb dX12_next_29 (hl.at 5 rfl) ?_
    refine lv_bipush (v := 60) hx hb dX12_next_31 (by decide) ?_
    refine lv_icmp_gt (tgt := 171) hx hb dX12_next_33 (by decide) (fun c33 => ?_) (fun c33 => ?_)
    · have hm := hw_ip hm c33
      exact w12_next_b171 C0 hm hR hS (hl.sub [0, 3] rfl)
    · have hm := hw_in hm c33
      refine hw_aload_n hx hb dX12_next_36 rfl (hl.at 0 rfl) ?_
      obtain ⟨v37, e37, hm⟩ := hw_bs hm
      refine hw_getP hx hb hw_cf12 hts hown hK hR e37 (by decide) rfl (hts _ hw_m76) (fun _ h9 => h9) dX12_next_37 ?_
      refine lv_iconst (v := 1) hx hb dX12_next_40 (by decide) ?_
      obtain ⟨v41, e41, hm⟩ := hw_bs hm
      refine hw_iald hx hb hK hR e41 dX12_next_41 ?_
      refine lv_if_le (tgt := 171) hx hb dX12_next_42 (by decide) (fun c42 => ?_) (fun c42 => ?_)
      · have hm := hw_ip hm c42
        exact w12_next_b171 C0 hm hR hS (hl.sub [0, 3] rfl)
      · have hm := hw_in hm c42
        refine hw_aload_n hx hb dX12_next_45 rfl (hl.at 0 rfl) ?_
        refine lv_iconst (v := 0) hx hb dX12_next_46 (by decide) ?_
        refine lv_iload_n hx hb dX12_next_47 rfl (hl.at 1 rfl) ?_
        refine lv_iload hx hb dX12_next_48 (hl.at 5 rfl) ?_
        refine lv_iload_n hx hb dX12_next_50 rfl (hl.at 2 rfl) ?_
        refine lv_iconst (v := 0) hx hb dX12_next_51 (by decide) ?_
        obtain ⟨a52, g52, hm⟩ := hw_bs hm
        obtain ⟨rfl, ht52⟩ := hw_rv_th g52
        obtain ⟨v52, σ52, e52, hm⟩ := hw_bs2 hm
        refine hw_cWI (va_runV (As := [.int (0 : Int32), .int l1, .int l5, .int l2, .int (0 : Int32)]) (rest := []) ⟨hx, hb, hml, hown, hts⟩ (c12_turnsOf l D b e52) (cwV 5 hts (hw_gV hw_m584 hw_m585 hw_m586 hw_m5 hw_m587) rfl rfl rfl (by decide +kernel) ⟨(Nat.le_of_ble_eq_true rfl), (Nat.le_of_ble_eq_true rfl)⟩) (hw_preV (ci := 12) hE hR rfl (by decide) (hw_q_of ht52)) rfl rfl hl.sz rfl (lv_room (Nat.le_of_ble_eq_true rfl)) dX12_next_52 ⟨(Nat.le_of_ble_eq_true rfl), (Nat.le_of_ble_eq_true rfl)⟩) hS (fun _ _ hR hS => ?_)
        refine hw_istore (lv' := [(6, .int v52), (0, hw_vr b (some x0)), (1, .int l1), (2, .int l2), (3, .int l3), (4, .int l4), (5, .int l5)]) hx hb dX12_next_55 hl (by decide) (by decide) rfl (fun ls hl => ?_)
        refine lv_iload hx hb dX12_next_57 (hl.at 0 rfl) ?_
        refine hw_istore (lv' := [(7, .int v52), (6, .int v52), (0, hw_vr b (some x0)), (1, .int l1), (2, .int l2), (3, .int l3), (4, .int l4), (5, .int l5)]) hx hb dX12_next_59 hl (by decide) (by decide) rfl (fun ls hl => ?_)
        refine lv_iconst (v := 1) hx hb dX12_next_61 (by decide) ?_
        refine hw_istore (lv' := [(8, .int (1 : Int32)), (7, .int v52), (6, .int v52), (0, hw_vr b (some x0)), (1, .int l1), (2, .int l2), (3, .int l3), (4, .int l4), (5, .int l5)]) hx hb dX12_next_62 hl (by decide) (by decide) rfl (fun ls hl => ?_)
        exact w12_next_b64 C0 ih hw_fu hm hR hS (hl.sub [3, 4, 5, 6, 7, 8, 2, 1, 0] rfl)
def m12_next (x0 : Nat) (l1 : Int32) (l2 : Int32) (σ : hw_S) : Option (Int32 × hw_S) :=
  (hw_rv (hw_q 12) (some x0) σ).bind fun a2 =>
  (m12_isStuff x0 l1 σ).bind fun v2 =>
  (if v2 = 0 then
  some (((-1) : Int32), σ)
  else
  (m12_isFlow l2).bind fun v11 =>
  (if v11 = 0 then
  some (((-2) : Int32), σ)
  else
  m12_next_b29 hw_fu x0 l1 l2 ((-5) : Int32) ((-1) : Int32) (1 : Int32) σ))
set_option maxRecDepth 100000 in
theorem w12_next_s {p : Program} {l : Launch} {e : Env} {s : State} {m : MethodId} {args : Array Value} {below : List Frame} {meth : Method} {c : Code} {D : hw_D} {b : Nat} {x0 : Nat} {l1 : Int32} {l2 : Int32} {σ : hw_S} {r : Int32} {τ : hw_S} {H : Heap} {locs : List Loc} (hm : m12_next x0 l1 l2 σ = some (r, τ)) (C0 : hw_C p s m args meth c D yX12_next cX12_next 10 (some .int)) (hR : hw_R D b σ H) (hS : va_S (fun q => b ≤ q) s.heap H locs) {ls : Array Slot} (hl : hw_L ls 10 255 [(0, hw_vr b (some x0)), (1, .int l1), (2, .int l2)]) : W p l e rm12_next s m args below meth c H locs 0 0 (MQ below (hw_QI D b τ r) args s 0 0 (fun q => b ≤ q)) (F0 m 0 ls []) := by
  obtain ⟨hx, hb, hml, hr, hown, hts, hlk, hE, hnm⟩ := id C0
  have hown : s.vm.findClass RX12 = some m.cls := hown
  have hK := hE.1
  unfold m12_next at hm
  refine hw_aload_n hx hb dX12_next_0 rfl (hl.at 0 rfl) ?_
  refine lv_iload_n hx hb dX12_next_1 rfl (hl.at 1 rfl) ?_
  obtain ⟨a2, g2, hm⟩ := hw_bs hm
  obtain ⟨rfl, ht2⟩ := hw_rv_th g2
  obtain ⟨v2, e2, hm⟩ := hw_bs hm
  refine hw_cRI (va_runV (As := [.int l1]) (rest := []) ⟨hx, hb, hml, hown, hts⟩ (c12_isStuff l D b e2) (cwV 1 hts (hw_gV hw_m129 hw_m130 hw_m131 hw_m5 hw_m132) rfl rfl rfl (by decide +kernel) ⟨(Nat.le_of_ble_eq_true rfl), (Nat.le_of_ble_eq_true rfl)⟩) (hw_preV (ci := 12) hE hR rfl (by decide) (hw_q_of ht2)) rfl rfl hl.sz rfl (lv_room (Nat.le_of_ble_eq_true rfl)) dX12_next_2 ⟨(Nat.le_of_ble_eq_true rfl), (Nat.le_of_ble_eq_true rfl)⟩) ?_
  refine lv_if_ne (tgt := 10) hx hb dX12_next_5 (by decide) (fun c5 => ?_) (fun c5 => ?_)
  · have hm := hw_in hm c5
    refine lv_iload_n hx hb dX12_next_10 rfl (hl.at 2 rfl) ?_
    obtain ⟨v11, e11, hm⟩ := hw_bs hm
    refine hw_cRI (va_runS (As := [.int l2]) (rest := []) ⟨hx, hb, hml, hown, hts⟩ (c12_isFlow l D e11) (cwS 1 hts (hw_gS hw_m699 hw_m700 hw_m5 hw_m701) rfl rfl rfl (by decide +kernel) ⟨(Nat.le_of_ble_eq_true rfl), (Nat.le_of_ble_eq_true rfl)⟩) (hw_pre0 hE) rfl rfl hl.sz rfl (lv_room (Nat.le_of_ble_eq_true rfl)) dX12_next_11 ⟨(Nat.le_of_ble_eq_true rfl), (Nat.le_of_ble_eq_true rfl)⟩) ?_
    refine lv_if_ne (tgt := 20) hx hb dX12_next_14 (by decide) (fun c14 => ?_) (fun c14 => ?_)
    · have hm := hw_in hm c14
      refine lv_bipush (v := (-5)) hx hb dX12_next_20 (by decide) ?_
      refine hw_istore_n (lv' := [(3, .int ((-5) : Int32)), (0, hw_vr b (some x0)), (1, .int l1), (2, .int l2)]) hx hb dX12_next_22 rfl hl (by decide) (by decide) rfl (fun ls hl => ?_)
      refine lv_iconst (v := (-1)) hx hb dX12_next_23 (by decide) ?_
      refine hw_istore (lv' := [(4, .int ((-1) : Int32)), (3, .int ((-5) : Int32)), (0, hw_vr b (some x0)), (1, .int l1), (2, .int l2)]) hx hb dX12_next_24 hl (by decide) (by decide) rfl (fun ls hl => ?_)
      refine lv_iconst (v := 1) hx hb dX12_next_26 (by decide) ?_
      refine hw_istore (lv' := [(5, .int (1 : Int32)), (4, .int ((-1) : Int32)), (3, .int ((-5) : Int32)), (0, hw_vr b (some x0)), (1, .int l1), (2, .int l2)]) hx hb dX12_next_27 hl (by decide) (by decide) rfl (fun ls hl => ?_)
      exact w12_next_b29 C0 hw_fu hm hR hS (hl.sub [3, 4, 5, 2, 1, 0] rfl)
    · have hm := hw_ip hm c14
      refine lv_bipush (v := (-2)) hx hb dX12_next_17 (by decide) ?_
      exact hw_rWI hx hb hr hlk hR hS hm dX12_next_19
  · have hm := hw_ip hm c5
    refine lv_iconst (v := (-1)) hx hb dX12_next_8 (by decide) ?_
    exact hw_rWI hx hb hr hlk hR hS hm dX12_next_9
set_option maxRecDepth 100000 in
theorem c12_next (l : Launch) (D : hw_D) (b : Nat) {x0 : Nat} {l1 : Int32} {l2 : Int32} {σ : hw_S} {r : Int32} {τ : hw_S} (hm : m12_next x0 l1 l2 σ = some (r, τ)) : Met l yX12_next (Cond.code yX12_next cX12_next 10 (some .int) :: wsL_law) rm12_next (hw_P1 D b σ [hw_vr b (some x0), .int l1, .int l2]) (hw_QI D b τ r) 0 0 (fun q => b ≤ q) := by
  refine hw_start1 (by decide +kernel) (by exact Nat.le_of_ble_eq_true rfl) ?_
  intro p e s m below meth c ls C0 hR hS hl
  have hl : lv_has ls 10 [(0, hw_vr b (some x0)), (1, .int l1), (2, .int l2)] := by exact hl
  exact w12_next_s hm C0 hR hS ⟨hl, (List.forall_mem_cons.mpr ⟨(fun h => by rw [show (hw_vr b (some x0) : Value).category = 1 from (hw_vr_cat _ _)] at h; cases h), (List.forall_mem_cons.mpr ⟨(fun h => absurd (show (1 : Nat) = 2 from h) (by decide)), (List.forall_mem_cons.mpr ⟨(fun h => absurd (show (1 : Nat) = 2 from h) (by decide)), (fun _ h => absurd h List.not_mem_nil)⟩)⟩)⟩)⟩
