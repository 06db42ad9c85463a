abbrev rm11_isWithin : Room := { frames := 0, cells := 0, slots := 0, locals := 0 }
def m11_isWithin_b15 (t0 : Int32) : Option Int32 :=
  (hw_tf t0).bind fun _ =>
  some t0
set_option maxRecDepth 100000 in
theorem w11_isWithin_b15 {p : Program} {l : Launch} {e : Env} {s : State} {m : MethodId} {args : Array Value} {below : List Frame} {meth : Method} {c : Code} {D : hw_D} {r : Int32} (C0 : hw_C p s m args meth c D yX11_isWithin cX11_isWithin 3 (some .boolean)) {t0 : Int32} (hm : m11_isWithin_b15 t0 = some r) {ls : Array Slot} (hl : hw_L ls 3 255 []) : W p l e rm11_isWithin s m args below meth c s.heap [] 0 0 (MQ below (hw_RI r) args s 0 0 hw_nof) (F0 m 15 ls [.int t0]) := by
  obtain ⟨hx, hb, hml, hr, hown, hts, hlk, hE, hnm⟩ := id C0
  have hown : s.vm.findClass RX11 = some m.cls := hown
  unfold m11_isWithin_b15 at hm
  obtain ⟨_, z15, hm⟩ := hw_bs hm
  exact hw_rRZ hx hb hr hlk z15 hm dX11_isWithin_15
def m11_isWithin_b14 : Option Int32 :=
  m11_isWithin_b15 (0 : Int32)
set_option maxRecDepth 100000 in
theorem w11_isWithin_b14 {p : Program} {l : Launch} {e : Env} {s : State} {m : MethodId} {args : Array Value} {below : List Frame} {meth : Method} {c : Code} {D : hw_D} {r : Int32} (C0 : hw_C p s m args meth c D yX11_isWithin cX11_isWithin 3 (some .boolean)) (hm : m11_isWithin_b14  = some r) {ls : Array Slot} (hl : hw_L ls 3 255 []) : W p l e rm11_isWithin s m args below meth c s.heap [] 0 0 (MQ below (hw_RI r) args s 0 0 hw_nof) (F0 m 14 ls []) := by
  obtain ⟨hx, hb, hml, hr, hown, hts, hlk, hE, hnm⟩ := id C0
  have hown : s.vm.findClass RX11 = some m.cls := hown
  unfold m11_isWithin_b14 at hm
  refine lv_iconst (v := 0) hx hb dX11_isWithin_14 (by decide) ?_
  exact w11_isWithin_b15 C0 hm (hl.sub [] rfl)
def m11_isWithin (l0 : Int32) (l1 : Int32) (l2 : Int32) : Option Int32 :=
  (if l0 < l1 then
  m11_isWithin_b14 
  else
  (if l2 < l0 then
  m11_isWithin_b14 
  else
  m11_isWithin_b15 (1 : Int32)))
set_option maxRecDepth 100000 in
theorem w11_isWithin_s {p : Program} {l : Launch} {e : Env} {s : State} {m : MethodId} {args : Array Value} {below : List Frame} {meth : Method} {c : Code} {D : hw_D} {l0 : Int32} {l1 : Int32} {l2 : Int32} {r : Int32} (hm : m11_isWithin l0 l1 l2 = some r) (C0 : hw_C p s m args meth c D yX11_isWithin cX11_isWithin 3 (some .boolean)) {ls : Array Slot} (hl : hw_L ls 3 255 [(0, .int l0), (1, .int l1), (2, .int l2)]) : W p l e rm11_isWithin s m args below meth c s.heap [] 0 0 (MQ below (hw_RI r) args s 0 0 hw_nof) (F0 m 0 ls []) := by
  obtain ⟨hx, hb, hml, hr, hown, hts, hlk, hE, hnm⟩ := id C0
  have hown : s.vm.findClass RX11 = some m.cls := hown
  unfold m11_isWithin at hm
  refine lv_iload_n hx hb dX11_isWithin_0 rfl (hl.at 0 rfl) ?_
  refine lv_iload_n hx hb dX11_isWithin_1 rfl (hl.at 1 rfl) ?_
  refine lv_icmp_lt (tgt := 14) hx hb dX11_isWithin_2 (by decide) (fun c2 => ?_) (fun c2 => ?_)
  · have hm := hw_ip hm c2
    exact w11_isWithin_b14 C0 hm (hl.sub [] rfl)
  · have hm := hw_in hm c2
    refine lv_iload_n hx hb dX11_isWithin_5 rfl (hl.at 0 rfl) ?_
    refine lv_iload_n hx hb dX11_isWithin_6 rfl (hl.at 2 rfl) ?_
    refine lv_icmp_gt (tgt := 14) hx hb dX11_isWithin_7 (by decide) (fun c7 => ?_) (fun c7 => ?_)
    · have hm := hw_ip hm c7
      exact w11_isWithin_b14 C0 hm (hl.sub [] rfl)
    · have hm := hw_in hm c7
      refine lv_iconst (v := 1) hx hb dX11_isWithin_10 (by decide) ?_
      refine lv_goto (tgt := 15) hx hb dX11_isWithin_11 (by decide) ?_
      exact w11_isWithin_b15 C0 hm (hl.sub [] rfl)
set_option maxRecDepth 100000 in
theorem c11_isWithin (l : Launch) (D : hw_D) {l0 : Int32} {l1 : Int32} {l2 : Int32} {r : Int32} (hm : m11_isWithin l0 l1 l2 = some r) : Met l yX11_isWithin (Cond.code yX11_isWithin cX11_isWithin 3 (some .boolean) :: wsL_law) rm11_isWithin (hw_P0 D [.int l0, .int l1, .int l2]) (hw_RI r) 0 0 hw_nof := by
  refine hw_start0 (by decide +kernel) (by exact Nat.le_of_ble_eq_true rfl) ?_
  intro p e s m below meth c ls C0 hl
  have hl : lv_has ls 3 [(0, .int l0), (1, .int l1), (2, .int l2)] := by exact hl
  exact w11_isWithin_s hm C0 ⟨hl, (List.forall_mem_cons.mpr ⟨(fun h => absurd (show (1 : Nat) = 2 from h) (by decide)), (List.forall_mem_cons.mpr ⟨(fun h => absurd (show (1 : Nat) = 2 from h) (by decide)), (List.forall_mem_cons.mpr ⟨(fun h => absurd (show (1 : Nat) = 2 from h) (by decide)), (fun _ h => absurd h List.not_mem_nil)⟩)⟩)⟩)⟩

abbrev rm12_in : Room := { frames := 0, cells := 0, slots := 0, locals := 0 }
def m12_in_b15 (t0 : Int32) : Option Int32 :=
  (hw_tf t0).bind fun _ =>
  some t0
set_option maxRecDepth 100000 in
theorem w12_in_b15 {p : Program} {l : Launch} {e : Env} {s : State} {m : MethodId} {args : Array Value} {below : List Frame} {meth : Method} {c : Code} {D : hw_D} {r : Int32} (C0 : hw_C p s m args meth c D yX12_in cX12_in 3 (some .boolean)) {t0 : Int32} (hm : m12_in_b15 t0 = some r) {ls : Array Slot} (hl : hw_L ls 3 255 []) : W p l e rm12_in s m args below meth c s.heap [] 0 0 (MQ below (hw_RI r) args s 0 0 hw_nof) (F0 m 15 ls [.int t0]) := by
  obtain ⟨hx, hb, hml, hr, hown, hts, hlk, hE, hnm⟩ := id C0
  have hown : s.vm.findClass RX12 = some m.cls := hown
  unfold m12_in_b15 at hm
  obtain ⟨_, z15, hm⟩ := hw_bs hm
  exact hw_rRZ hx hb hr hlk z15 hm dX12_in_15
def m12_in_b14 : Option Int32 :=
  m12_in_b15 (0 : Int32)
set_option maxRecDepth 100000 in
theorem w12_in_b14 {p : Program} {l : Launch} {e : Env} {s : State} {m : MethodId} {args : Array Value} {below : List Frame} {meth : Method} {c : Code} {D : hw_D} {r : Int32} (C0 : hw_C p s m args meth c D yX12_in cX12_in 3 (some .boolean)) (hm : m12_in_b14  = some r) {ls : Array Slot} (hl : hw_L ls 3 255 []) : W p l e rm12_in s m args below meth c s.heap [] 0 0 (MQ below (hw_RI r) args s 0 0 hw_nof) (F0 m 14 ls []) := by
  obtain ⟨hx, hb, hml, hr, hown, hts, hlk, hE, hnm⟩ := id C0
  have hown : s.vm.findClass RX12 = some m.cls := hown
  unfold m12_in_b14 at hm
  refine lv_iconst (v := 0) hx hb dX12_in_14 (by decide) ?_
  exact w12_in_b15 C0 hm (hl.sub [] rfl)
def m12_in (l0 : Int32) (l1 : Int32) (l2 : Int32) : Option Int32 :=
  (if l0 < l1 then
  m12_in_b14 
  else
  (if l2 < l0 then
  m12_in_b14 
  else
  m12_in_b15 (1 : Int32)))
set_option maxRecDepth 100000 in
theorem w12_in_s {p : Program} {l : Launch} {e : Env} {s : State} {m : MethodId} {args : Array Value} {below : List Frame} {meth : Method} {c : Code} {D : hw_D} {l0 : Int32} {l1 : Int32} {l2 : Int32} {r : Int32} (hm : m12_in l0 l1 l2 = some r) (C0 : hw_C p s m args meth c D yX12_in cX12_in 3 (some .boolean)) {ls : Array Slot} (hl : hw_L ls 3 255 [(0, .int l0), (1, .int l1), (2, .int l2)]) : W p l e rm12_in s m args below meth c s.heap [] 0 0 (MQ below (hw_RI r) args s 0 0 hw_nof) (F0 m 0 ls []) := by
  obtain ⟨hx, hb, hml, hr, hown, hts, hlk, hE, hnm⟩ := id C0
  have hown : s.vm.findClass RX12 = some m.cls := hown
  unfold m12_in at hm
  refine lv_iload_n hx hb dX12_in_0 rfl (hl.at 0 rfl) ?_
  refine lv_iload_n hx hb dX12_in_1 rfl (hl.at 1 rfl) ?_
  refine lv_icmp_lt (tgt := 14) hx hb dX12_in_2 (by decide) (fun c2 => ?_) (fun c2 => ?_)
  · have hm := hw_ip hm c2
    exact w12_in_b14 C0 hm (hl.sub [] rfl)
  · have hm := hw_in hm c2
    refine lv_iload_n hx hb dX12_in_5 rfl (hl.at 0 rfl) ?_
    refine lv_iload_n hx hb dX12_in_6 rfl (hl.at 2 rfl) ?_
    refine lv_icmp_gt (tgt := 14) hx hb dX12_in_7 (by decide) (fun c7 => ?_) (fun c7 => ?_)
    · have hm := hw_ip hm c7
      exact w12_in_b14 C0 hm (hl.sub [] rfl)
    · have hm := hw_in hm c7
      refine lv_iconst (v := 1) hx hb dX12_in_10 (by decide) ?_
      refine lv_goto (tgt := 15) hx hb dX12_in_11 (by decide) ?_
      exact w12_in_b15 C0 hm (hl.sub [] rfl)
set_option maxRecDepth 100000 in
theorem c12_in (l : Launch) (D : hw_D) {l0 : Int32} {l1 : Int32} {l2 : Int32} {r : Int32} (hm : m12_in l0 l1 l2 = some r) : Met l yX12_in (Cond.code yX12_in cX12_in 3 (some .boolean) :: wsL_law) rm12_in (hw_P0 D [.int l0, .int l1, .int l2]) (hw_RI r) 0 0 hw_nof := by
  refine hw_start0 (by decide +kernel) (by exact Nat.le_of_ble_eq_true rfl) ?_
  intro p e s m below meth c ls C0 hl
  have hl : lv_has ls 3 [(0, .int l0), (1, .int l1), (2, .int l2)] := by exact hl
  exact w12_in_s hm C0 ⟨hl, (List.forall_mem_cons.mpr ⟨(fun h => absurd (show (1 : Nat) = 2 from h) (by decide)), (List.forall_mem_cons.mpr ⟨(fun h => absurd (show (1 : Nat) = 2 from h) (by decide)), (List.forall_mem_cons.mpr ⟨(fun h => absurd (show (1 : Nat) = 2 from h) (by decide)), (fun _ h => absurd h List.not_mem_nil)⟩)⟩)⟩)⟩

abbrev rm12_stuff : Room := { frames := 1, cells := 0, slots := 0, locals := 22 }
def m12_stuff_b20 (x0 : Nat) (σ : hw_S) : Option (Int32 × hw_S) :=
  some (((-2) : Int32), σ)
set_option maxRecDepth 100000 in
theorem w12_stuff_b20 {p : Program} {l : Launch} {e : Env} {s : State} {m : MethodId} {args : Array Value} {below : List Frame} {meth : Method} {c : Code} {D : hw_D} {b : Nat} {r : Int32} {τ : hw_S} (C0 : hw_C p s m args meth c D yX12_stuff cX12_stuff 3 (some .int)) {x0 : Nat} {σ : hw_S} {H : Heap} {locs : List Loc} (hm : m12_stuff_b20 x0 σ = some (r, τ)) (hR : hw_R D b σ H) (hS : va_S (fun q => b ≤ q) s.heap H locs) {ls : Array Slot} (hl : hw_L ls 3 255 [(0, hw_vr b (some x0))]) : W p l e rm12_stuff s m args below meth c H locs 0 0 (MQ below (hw_QI D b τ r) args s 0 0 (fun q => b ≤ q)) (F0 m 20 ls []) := by
  obtain ⟨hx, hb, hml, hr, hown, hts, hlk, hE, hnm⟩ := id C0
  have hown : s.vm.findClass RX12 = some m.cls := hown
  have hK := hE.1
  unfold m12_stuff_b20 at hm
  refine lv_bipush (v := (-2)) hx hb dX12_stuff_20 (by decide) ?_
  exact hw_rWI hx hb hr hlk hR hS hm dX12_stuff_22
def m12_stuff (x0 : Nat) (l1 : Int32) (l2 : Int32) (σ : hw_S) : Option (Int32 × hw_S) :=
  (m12_in l1 (1 : Int32) (20 : Int32)).bind fun v4 =>
  (if v4 = 0 then
  m12_stuff_b20 x0 σ
  else
  (m12_in l2 (1 : Int32) (20 : Int32)).bind fun v14 =>
  (if v14 = 0 then
  m12_stuff_b20 x0 σ
  else
  (hw_gP (hw_q 12) 1 (some x0) σ).bind fun v24 =>
  (hw_aI 0 v24 (0 : Int32) σ).bind fun v28 =>
  (if v28 = (5 : Int32) then
  some (((-4) : Int32), σ)
  else
  (hw_gP (hw_q 12) 1 (some x0) σ).bind fun v37 =>
  (hw_gP (hw_q 12) 1 (some x0) σ).bind fun v44 =>
  (hw_aI 0 v44 (0 : Int32) σ).bind fun v48 =>
  (hw_sI v37 ((130 : Int32) + v48) l1 σ).bind fun σ51 =>
  (hw_gP (hw_q 12) 1 (some x0) σ51).bind fun v53 =>
  (hw_gP (hw_q 12) 1 (some x0) σ51).bind fun v60 =>
  (hw_aI 0 v60 (0 : Int32) σ51).bind fun v64 =>
  (hw_sI v53 ((135 : Int32) + v64) l2 σ51).bind fun σ67 =>
  (hw_gP (hw_q 12) 1 (some x0) σ67).bind fun v69 =>
  (hw_aI 0 v69 (0 : Int32) σ67).bind fun v74 =>
  (hw_sI v69 (0 : Int32) (v74 + (1 : Int32)) σ67).bind fun σ77 =>
  (hw_gP (hw_q 12) 1 (some x0) σ77).bind fun v79 =>
  (hw_aI 0 v79 (0 : Int32) σ77).bind fun v83 =>
  some ((v83 - (1 : Int32)), σ77))))
set_option maxRecDepth 100000 in
theorem w12_stuff_s {p : Program} {l : Launch} {e : Env} {s : State} {m : MethodId} {args : Array Value} {below : List Frame} {meth : Method} {c : Code} {D : hw_D} {b : Nat} {x0 : Nat} {l1 : Int32} {l2 : Int32} {σ : hw_S} {r : Int32} {τ : hw_S} {H : Heap} {locs : List Loc} (hm : m12_stuff x0 l1 l2 σ = some (r, τ)) (C0 : hw_C p s m args meth c D yX12_stuff cX12_stuff 3 (some .int)) (hR : hw_R D b σ H) (hS : va_S (fun q => b ≤ q) s.heap H locs) {ls : Array Slot} (hl : hw_L ls 3 255 [(0, hw_vr b (some x0)), (1, .int l1), (2, .int l2)]) : W p l e rm12_stuff s m args below meth c H locs 0 0 (MQ below (hw_QI D b τ r) args s 0 0 (fun q => b ≤ q)) (F0 m 0 ls []) := by
  obtain ⟨hx, hb, hml, hr, hown, hts, hlk, hE, hnm⟩ := id C0
  have hown : s.vm.findClass RX12 = some m.cls := hown
  have hK := hE.1
  unfold m12_stuff at hm
  refine lv_iload_n hx hb dX12_stuff_0 rfl (hl.at 1 rfl) ?_
  refine lv_iconst (v := 1) hx hb dX12_stuff_1 (by decide) ?_
  refine lv_bipush (v := 20) hx hb dX12_stuff_2 (by decide) ?_
  obtain ⟨v4, e4, hm⟩ := hw_bs hm
  refine hw_cRI (va_runS (As := [.int l1, .int (1 : Int32), .int (20 : Int32)]) (rest := []) ⟨hx, hb, hml, hown, hts⟩ (c12_in l D e4) (cwS 3 hts (hw_gS hw_m112 hw_m113 hw_m5 hw_m114) rfl rfl rfl (by decide +kernel) ⟨(Nat.le_of_ble_eq_true rfl), (Nat.le_of_ble_eq_true rfl)⟩) (hw_pre0 hE) rfl rfl hl.sz rfl (lv_room (Nat.le_of_ble_eq_true rfl)) dX12_stuff_4 ⟨(Nat.le_of_ble_eq_true rfl), (Nat.le_of_ble_eq_true rfl)⟩) ?_
  refine lv_if_eq (tgt := 20) hx hb dX12_stuff_7 (by decide) (fun c7 => ?_) (fun c7 => ?_)
  · have hm := hw_ip hm c7
    exact w12_stuff_b20 C0 hm hR hS (hl.sub [0] rfl)
  · have hm := hw_in hm c7
    refine lv_iload_n hx hb dX12_stuff_10 rfl (hl.at 2 rfl) ?_
    refine lv_iconst (v := 1) hx hb dX12_stuff_11 (by decide) ?_
    refine lv_bipush (v := 20) hx hb dX12_stuff_12 (by decide) ?_
    obtain ⟨v14, e14, hm⟩ := hw_bs hm
    refine hw_cRI (va_runS (As := [.int l2, .int (1 : Int32), .int (20 : Int32)]) (rest := []) ⟨hx, hb, hml, hown, hts⟩ (c12_in l D e14) (cwS 3 hts (hw_gS hw_m112 hw_m113 hw_m5 hw_m114) rfl rfl rfl (by decide +kernel) ⟨(Nat.le_of_ble_eq_true rfl), (Nat.le_of_ble_eq_true rfl)⟩) (hw_pre0 hE) rfl rfl hl.sz rfl (lv_room (Nat.le_of_ble_eq_true rfl)) dX12_stuff_14 ⟨(Nat.le_of_ble_eq_true rfl), (Nat.le_of_ble_eq_true rfl)⟩) ?_
    refine lv_if_ne (tgt := 23) hx hb dX12_stuff_17 (by decide) (fun c17 => ?_) (fun c17 => ?_)
    · have hm := hw_in hm c17
      refine hw_aload_n hx hb dX12_stuff_23 rfl (hl.at 0 rfl) ?_
      obtain ⟨v24, e24, hm⟩ := hw_bs hm
      refine hw_getP hx hb hw_cf12 hts hown hK hR e24 (by decide) rfl (hts _ hw_m76) (fun _ h9 => h9) dX12_stuff_24 ?_
      refine lv_iconst (v := 0) hx hb dX12_stuff_27 (by decide) ?_
      obtain ⟨v28, e28, hm⟩ := hw_bs hm
      refine hw_iald hx hb hK hR e28 dX12_stuff_28 ?_
      refine lv_iconst (v := 5) hx hb dX12_stuff_29 (by decide) ?_
      refine lv_icmp_ne (tgt := 36) hx hb dX12_stuff_30 (by decide) (fun c30 => ?_) (fun c30 => ?_)
      · have hm := hw_in hm c30
        refine hw_aload_n hx hb dX12_stuff_36 rfl (hl.at 0 rfl) ?_
        obtain ⟨v37, e37, hm⟩ := hw_bs hm
        refine hw_getP hx hb hw_cf12 hts hown hK hR e37 (by decide) rfl (hts _ hw_m76) (fun _ h9 => h9) dX12_stuff_37 ?_
        refine lv_sipush (v := 130) hx hb dX12_stuff_40 (by decide) ?_
        refine hw_aload_n hx hb dX12_stuff_43 rfl (hl.at 0 rfl) ?_
        obtain ⟨v44, e44, hm⟩ := hw_bs hm
        refine hw_getP hx hb hw_cf12 hts hown hK hR e44 (by decide) rfl (hts _ hw_m76) (fun _ h9 => h9) dX12_stuff_44 ?_
        refine lv_iconst (v := 0) hx hb dX12_stuff_47 (by decide) ?_
        obtain ⟨v48, e48, hm⟩ := hw_bs hm
        refine hw_iald hx hb hK hR e48 dX12_stuff_48 ?_
        refine lv_iadd hx hb dX12_stuff_49 ?_
        refine lv_iload_n hx hb dX12_stuff_50 rfl (hl.at 1 rfl) ?_
        obtain ⟨σ51, e51, hm⟩ := hw_bs hm
        refine hw_iast hx hb hK hR hS e51 dX12_stuff_51 (fun _ _ hR hS => ?_)
        refine hw_aload_n hx hb dX12_stuff_52 rfl (hl.at 0 rfl) ?_
        obtain ⟨v53, e53, hm⟩ := hw_bs hm
        refine hw_getP hx hb hw_cf12 hts hown hK hR e53 (by decide) rfl (hts _ hw_m76) (fun _ h9 => h9) dX12_stuff_53 ?_
        refine lv_sipush (v := 135) hx hb dX12_stuff_56 (by decide) ?_
        refine hw_aload_n hx hb dX12_stuff_59 rfl (hl.at 0 rfl) ?_
        obtain ⟨v60, e60, hm⟩ := hw_bs hm
        refine hw_getP hx hb hw_cf12 hts hown hK hR e60 (by decide) rfl (hts _ hw_m76) (fun _ h9 => h9) dX12_stuff_60 ?_
        refine lv_iconst (v := 0) hx hb dX12_stuff_63 (by decide) ?_
        obtain ⟨v64, e64, hm⟩ := hw_bs hm
        refine hw_iald hx hb hK hR e64 dX12_stuff_64 ?_
        refine lv_iadd hx hb dX12_stuff_65 ?_
        refine lv_iload_n hx hb dX12_stuff_66 rfl (hl.at 2 rfl) ?_
        obtain ⟨σ67, e67, hm⟩ := hw_bs hm
        refine hw_iast hx hb hK hR hS e67 dX12_stuff_67 (fun _ _ hR hS => ?_)
        refine hw_aload_n hx hb dX12_stuff_68 rfl (hl.at 0 rfl) ?_
        obtain ⟨v69, e69, hm⟩ := hw_bs hm
        refine hw_getP hx hb hw_cf12 hts hown hK hR e69 (by decide) rfl (hts _ hw_m76) (fun _ h9 => h9) dX12_stuff_69 ?_
        refine lv_iconst (v := 0) hx hb dX12_stuff_72 (by decide) ?_
        refine lv_dup2_11 hx hb dX12_stuff_73 rfl (hw_vr_cat _ _) ?_
        obtain ⟨v74, e74, hm⟩ := hw_bs hm
        refine hw_iald hx hb hK hR e74 dX12_stuff_74 ?_
        refine lv_iconst (v := 1) hx hb dX12_stuff_75 (by decide) ?_
        refine lv_iadd hx hb dX12_stuff_76 ?_
        obtain ⟨σ77, e77, hm⟩ := hw_bs hm
        refine hw_iast hx hb hK hR hS e77 dX12_stuff_77 (fun _ _ hR hS => ?_)
        refine hw_aload_n hx hb dX12_stuff_78 rfl (hl.at 0 rfl) ?_
        obtain ⟨v79, e79, hm⟩ := hw_bs hm
        refine hw_getP hx hb hw_cf12 hts hown hK hR e79 (by decide) rfl (hts _ hw_m76) (fun _ h9 => h9) dX12_stuff_79 ?_
        refine lv_iconst (v := 0) hx hb dX12_stuff_82 (by decide) ?_
        obtain ⟨v83, e83, hm⟩ := hw_bs hm
        refine hw_iald hx hb hK hR e83 dX12_stuff_83 ?_
        refine lv_iconst (v := 1) hx hb dX12_stuff_84 (by decide) ?_
        refine lv_isub hx hb dX12_stuff_85 ?_
        exact hw_rWI hx hb hr hlk hR hS hm dX12_stuff_86
      · have hm := hw_ip hm c30
        refine lv_bipush (v := (-4)) hx hb dX12_stuff_33 (by decide) ?_
        exact hw_rWI hx hb hr hlk hR hS hm dX12_stuff_35
    · have hm := hw_ip hm c17
      exact w12_stuff_b20 C0 hm hR hS (hl.sub [0] rfl)
set_option maxRecDepth 100000 in
theorem c12_stuff (l : Launch) (D : hw_D) (b : Nat) {x0 : Nat} {l1 : Int32} {l2 : Int32} {σ : hw_S} {r : Int32} {τ : hw_S} (hm : m12_stuff x0 l1 l2 σ = some (r, τ)) : Met l yX12_stuff (Cond.code yX12_stuff cX12_stuff 3 (some .int) :: wsL_law) rm12_stuff (hw_P1 D b σ [hw_vr b (some x0), .int l1, .int l2]) (hw_QI D b τ r) 0 0 (fun q => b ≤ q) := by
  refine hw_start1 (by decide +kernel) (by exact Nat.le_of_ble_eq_true rfl) ?_
  intro p e s m below meth c ls C0 hR hS hl
  have hl : lv_has ls 3 [(0, hw_vr b (some x0)), (1, .int l1), (2, .int l2)] := by exact hl
  exact w12_stuff_s hm C0 hR hS ⟨hl, (List.forall_mem_cons.mpr ⟨(fun h => by rw [show (hw_vr b (some x0) : Value).category = 1 from (hw_vr_cat _ _)] at h; cases h), (List.forall_mem_cons.mpr ⟨(fun h => absurd (show (1 : Nat) = 2 from h) (by decide)), (List.forall_mem_cons.mpr ⟨(fun h => absurd (show (1 : Nat) = 2 from h) (by decide)), (fun _ h => absurd h List.not_mem_nil)⟩)⟩)⟩)⟩

abbrev rm11_stuffAt : Room := { frames := 1, cells := 0, slots := 0, locals := 22 }
def m11_stuffAt_b30 (x0 : Nat) (t0 : Option Nat) (σ : hw_S) : Option (Option Nat) :=
  some t0
set_option maxRecDepth 100000 in
theorem w11_stuffAt_b30 {p : Program} {l : Launch} {e : Env} {s : State} {m : MethodId} {args : Array Value} {below : List Frame} {meth : Method} {c : Code} {D : hw_D} {b : Nat} {r : Option Nat} (C0 : hw_C p s m args meth c D yX11_stuffAt cX11_stuffAt 2 (some (.object "HoneyWinds$Stuff"))) {x0 : Nat} {t0 : Option Nat} {σ : hw_S} (hm : m11_stuffAt_b30 x0 t0 σ = some r) (hR : hw_R D b σ s.heap) {ls : Array Slot} (hl : hw_L ls 2 255 [(0, hw_vr b (some x0))]) : W p l e rm11_stuffAt s m args below meth c s.heap [] 0 0 (MQ below (hw_RP b r) args s 0 0 hw_nof) (F0 m 30 ls [hw_vr b t0]) := by
  obtain ⟨hx, hb, hml, hr, hown, hts, hlk, hE, hnm⟩ := id C0
  have hown : s.vm.findClass RX11 = some m.cls := hown
  have hK := hE.1
  unfold m11_stuffAt_b30 at hm
  exact hw_rRP hx hb hr (Or.inl ⟨_, rfl⟩) hlk hm dX11_stuffAt_30
def m11_stuffAt (x0 : Nat) (l1 : Int32) (σ : hw_S) : Option (Option Nat) :=
  (hw_gP (hw_q 11) 0 (some x0) σ).bind fun v3 =>
  (hw_gI (hw_q 8) 1 v3 σ).bind fun v6 =>
  (m11_isWithin l1 (0 : Int32) (v6 - (1 : Int32))).bind fun v11 =>
  (if v11 = 0 then
  m11_stuffAt_b30 x0 none σ
  else
  (hw_gP (hw_q 11) 0 (some x0) σ).bind fun v18 =>
  (hw_gP (hw_q 8) 0 v18 σ).bind fun v21 =>
  (hw_aP 3 v21 l1 σ).bind fun v25 =>
  m11_stuffAt_b30 x0 v25 σ)
set_option maxRecDepth 100000 in
theorem w11_stuffAt_s {p : Program} {l : Launch} {e : Env} {s : State} {m : MethodId} {args : Array Value} {below : List Frame} {meth : Method} {c : Code} {D : hw_D} {b : Nat} {x0 : Nat} {l1 : Int32} {σ : hw_S} {r : Option Nat} (hm : m11_stuffAt x0 l1 σ = some r) (C0 : hw_C p s m args meth c D yX11_stuffAt cX11_stuffAt 2 (some (.object "HoneyWinds$Stuff"))) (hR : hw_R D b σ s.heap) {ls : Array Slot} (hl : hw_L ls 2 255 [(0, hw_vr b (some x0)), (1, .int l1)]) : W p l e rm11_stuffAt s m args below meth c s.heap [] 0 0 (MQ below (hw_RP b r) args s 0 0 hw_nof) (F0 m 0 ls []) := by
  obtain ⟨hx, hb, hml, hr, hown, hts, hlk, hE, hnm⟩ := id C0
  have hown : s.vm.findClass RX11 = some m.cls := hown
  have hK := hE.1
  unfold m11_stuffAt at hm
  refine lv_iload_n hx hb dX11_stuffAt_0 rfl (hl.at 1 rfl) ?_
  refine lv_iconst (v := 0) hx hb dX11_stuffAt_1 (by decide) ?_
  refine hw_aload_n hx hb dX11_stuffAt_2 rfl (hl.at 0 rfl) ?_
  obtain ⟨v3, e3, hm⟩ := hw_bs hm
  refine hw_getP hx hb hw_cf11 hts hown hK hR e3 (by decide) rfl (hts _ hw_m16) (fun _ h9 => h9) dX11_stuffAt_3 ?_
  obtain ⟨v6, e6, hm⟩ := hw_bs hm
  refine hw_getI hx hb hw_cf8 hts hown hK hR e6 (by decide) rfl (hts _ hw_m94) (fun _ h9 => h9) dX11_stuffAt_6 ?_
  refine lv_iconst (v := 1) hx hb dX11_stuffAt_9 (by decide) ?_
  refine lv_isub hx hb dX11_stuffAt_10 ?_
  obtain ⟨v11, e11, hm⟩ := hw_bs hm
  refine hw_cRI (va_runS (As := [.int l1, .int (0 : Int32), .int (v6 - (1 : Int32))]) (rest := []) ⟨hx, hb, hml, hown, hts⟩ (c11_isWithin l D e11) (cwS 3 hts (hw_gS hw_m99 hw_m100 hw_m2 hw_m101) rfl rfl rfl (by decide +kernel) ⟨(Nat.le_of_ble_eq_true rfl), (Nat.le_of_ble_eq_true rfl)⟩) (hw_pre0 hE) rfl rfl hl.sz rfl (lv_room (Nat.le_of_ble_eq_true rfl)) dX11_stuffAt_11 ⟨(Nat.le_of_ble_eq_true rfl), (Nat.le_of_ble_eq_true rfl)⟩) ?_
  refine lv_if_eq (tgt := 29) hx hb dX11_stuffAt_14 (by decide) (fun c14 => ?_) (fun c14 => ?_)
  · have hm := hw_ip hm c14
    refine hw_null hx hb b dX11_stuffAt_29 ?_
    exact w11_stuffAt_b30 C0 hm hR (hl.sub [0] rfl)
  · have hm := hw_in hm c14
    refine hw_aload_n hx hb dX11_stuffAt_17 rfl (hl.at 0 rfl) ?_
    obtain ⟨v18, e18, hm⟩ := hw_bs hm
    refine hw_getP hx hb hw_cf11 hts hown hK hR e18 (by decide) rfl (hts _ hw_m16) (fun _ h9 => h9) dX11_stuffAt_18 ?_
    obtain ⟨v21, e21, hm⟩ := hw_bs hm
    refine hw_getP hx hb hw_cf8 hts hown hK hR e21 (by decide) rfl (hts _ hw_m95) (fun _ h9 => h9) dX11_stuffAt_21 ?_
    refine lv_iload_n hx hb dX11_stuffAt_24 rfl (hl.at 1 rfl) ?_
    obtain ⟨v25, e25, hm⟩ := hw_bs hm
    refine hw_aald (by decide) (by decide) hx hb hK hR e25 dX11_stuffAt_25 ?_
    refine lv_goto (tgt := 30) hx hb dX11_stuffAt_26 (by decide) ?_
    exact w11_stuffAt_b30 C0 hm hR (hl.sub [0] rfl)
set_option maxRecDepth 100000 in
theorem c11_stuffAt (l : Launch) (D : hw_D) (b : Nat) {x0 : Nat} {l1 : Int32} {σ : hw_S} {r : Option Nat} (hm : m11_stuffAt x0 l1 σ = some r) : Met l yX11_stuffAt (Cond.code yX11_stuffAt cX11_stuffAt 2 (some (.object "HoneyWinds$Stuff")) :: wsL_law) rm11_stuffAt (hw_P1 D b σ [hw_vr b (some x0), .int l1]) (hw_RP b r) 0 0 hw_nof := by
  refine hw_start1 (by decide +kernel) (by exact Nat.le_of_ble_eq_true rfl) ?_
  intro p e s m below meth c ls C0 hR hS hl
  have hl : lv_has ls 2 [(0, hw_vr b (some x0)), (1, .int l1)] := by exact hl
  exact w11_stuffAt_s hm C0 hR ⟨hl, (List.forall_mem_cons.mpr ⟨(fun h => by rw [show (hw_vr b (some x0) : Value).category = 1 from (hw_vr_cat _ _)] at h; cases h), (List.forall_mem_cons.mpr ⟨(fun h => absurd (show (1 : Nat) = 2 from h) (by decide)), (fun _ h => absurd h List.not_mem_nil)⟩)⟩)⟩

abbrev rm11_of : Room := { frames := 2, cells := 0, slots := 0, locals := 43 }
def m11_of_b19 (x0 : Nat) (σ : hw_S) : Option Int32 :=
  some ((-1) : Int32)
set_option maxRecDepth 100000 in
theorem w11_of_b19 {p : Program} {l : Launch} {e : Env} {s : State} {m : MethodId} {args : Array Value} {below : List Frame} {meth : Method} {c : Code} {D : hw_D} {b : Nat} {r : Int32} (C0 : hw_C p s m args meth c D yX11_of cX11_of 4 (some .int)) {x0 : Nat} {σ : hw_S} (hm : m11_of_b19 x0 σ = some r) (hR : hw_R D b σ s.heap) {ls : Array Slot} (hl : hw_L ls 4 255 [(0, hw_vr b (some x0))]) : W p l e rm11_of s m args below meth c s.heap [] 0 0 (MQ below (hw_RI r) args s 0 0 hw_nof) (F0 m 19 ls []) := by
  obtain ⟨hx, hb, hml, hr, hown, hts, hlk, hE, hnm⟩ := id C0
  have hown : s.vm.findClass RX11 = some m.cls := hown
  have hK := hE.1
  unfold m11_of_b19 at hm
  refine lv_iconst (v := (-1)) hx hb dX11_of_19 (by decide) ?_
  exact hw_rRI hx hb hr hlk hm dX11_of_20
def m11_of_b36 (x0 : Nat) (t0 : Int32) (σ : hw_S) : Option Int32 :=
  some t0
set_option maxRecDepth 100000 in
theorem w11_of_b36 {p : Program} {l : Launch} {e : Env} {s : State} {m : MethodId} {args : Array Value} {below : List Frame} {meth : Method} {c : Code} {D : hw_D} {b : Nat} {r : Int32} (C0 : hw_C p s m args meth c D yX11_of cX11_of 4 (some .int)) {x0 : Nat} {t0 : Int32} {σ : hw_S} (hm : m11_of_b36 x0 t0 σ = some r) (hR : hw_R D b σ s.heap) {ls : Array Slot} (hl : hw_L ls 4 255 [(0, hw_vr b (some x0))]) : W p l e rm11_of s m args below meth c s.heap [] 0 0 (MQ below (hw_RI r) args s 0 0 hw_nof) (F0 m 36 ls [.int t0]) := by
  obtain ⟨hx, hb, hml, hr, hown, hts, hlk, hE, hnm⟩ := id C0
  have hown : s.vm.findClass RX11 = some m.cls := hown
  have hK := hE.1
  unfold m11_of_b36 at hm
  exact hw_rRI hx hb hr hlk hm dX11_of_36
def m11_of (x0 : Nat) (l1 : Int32) (l2 : Int32) (σ : hw_S) : Option Int32 :=
  (hw_rv (hw_q 11) (some x0) σ).bind fun a2 =>
  (m11_stuffAt x0 l1 σ).bind fun v2 =>
  (if v2 = none then
  m11_of_b19 x0 σ
  else
  (m11_isWithin l2 (0 : Int32) (1 : Int32)).bind fun v13 =>
  (if v13 = 0 then
  m11_of_b19 x0 σ
  else
  (if l2 = 0 then
  (hw_gI (hw_q 9) 0 v2 σ).bind fun v26 =>
  m11_of_b36 x0 v26 σ
  else
  (hw_gI (hw_q 9) 1 v2 σ).bind fun v33 =>
  m11_of_b36 x0 v33 σ)))
set_option maxRecDepth 100000 in
theorem w11_of_s {p : Program} {l : Launch} {e : Env} {s : State} {m : MethodId} {args : Array Value} {below : List Frame} {meth : Method} {c : Code} {D : hw_D} {b : Nat} {x0 : Nat} {l1 : Int32} {l2 : Int32} {σ : hw_S} {r : Int32} (hm : m11_of x0 l1 l2 σ = some r) (C0 : hw_C p s m args meth c D yX11_of cX11_of 4 (some .int)) (hR : hw_R D b σ s.heap) {ls : Array Slot} (hl : hw_L ls 4 255 [(0, hw_vr b (some x0)), (1, .int l1), (2, .int l2)]) : W p l e rm11_of s m args below meth c s.heap [] 0 0 (MQ below (hw_RI r) args s 0 0 hw_nof) (F0 m 0 ls []) := by
  obtain ⟨hx, hb, hml, hr, hown, hts, hlk, hE, hnm⟩ := id C0
  have hown : s.vm.findClass RX11 = some m.cls := hown
  have hK := hE.1
  unfold m11_of at hm
  refine hw_aload_n hx hb dX11_of_0 rfl (hl.at 0 rfl) ?_
  refine lv_iload_n hx hb dX11_of_1 rfl (hl.at 1 rfl) ?_
  obtain ⟨a2, g2, hm⟩ := hw_bs hm
  obtain ⟨rfl, ht2⟩ := hw_rv_th g2
  obtain ⟨v2, e2, hm⟩ := hw_bs hm
  refine hw_cRP (va_runV (As := [.int l1]) (rest := []) ⟨hx, hb, hml, hown, hts⟩ (c11_stuffAt l D b e2) (cwV 1 hts (hw_gV hw_m121 hw_m122 hw_m123 hw_m2 hw_m124) rfl rfl rfl (by decide +kernel) ⟨(Nat.le_of_ble_eq_true rfl), (Nat.le_of_ble_eq_true rfl)⟩) (hw_preV (ci := 11) hE hR rfl (by decide) (hw_q_of ht2)) rfl rfl hl.sz rfl (lv_room (Nat.le_of_ble_eq_true rfl)) dX11_of_2 ⟨(Nat.le_of_ble_eq_true rfl), (Nat.le_of_ble_eq_true rfl)⟩) ?_
  refine hw_asto_n (lv' := [(3, hw_vr b v2), (0, hw_vr b (some x0)), (1, .int l1), (2, .int l2)]) hx hb dX11_of_5 rfl hl (by decide) (by decide) rfl (fun ls hl => ?_)
  refine hw_aload_n hx hb dX11_of_6 rfl (hl.at 0 rfl) ?_
  refine hw_ifnull (tgt := 19) hx hb dX11_of_7 (by decide) (fun c7 => ?_) (fun c7 => ?_)
  · have hm := hw_ip hm c7
    exact w11_of_b19 C0 hm hR (hl.sub [1] rfl)
  · have hm := hw_in hm c7
    refine lv_iload_n hx hb dX11_of_10 rfl (hl.at 3 rfl) ?_
    refine lv_iconst (v := 0) hx hb dX11_of_11 (by decide) ?_
    refine lv_iconst (v := 1) hx hb dX11_of_12 (by decide) ?_
    obtain ⟨v13, e13, hm⟩ := hw_bs hm
    refine hw_cRI (va_runS (As := [.int l2, .int (0 : Int32), .int (1 : Int32)]) (rest := []) ⟨hx, hb, hml, hown, hts⟩ (c11_isWithin l D e13) (cwS 3 hts (hw_gS hw_m99 hw_m100 hw_m2 hw_m101) rfl rfl rfl (by decide +kernel) ⟨(Nat.le_of_ble_eq_true rfl), (Nat.le_of_ble_eq_true rfl)⟩) (hw_pre0 hE) rfl rfl hl.sz rfl (lv_room (Nat.le_of_ble_eq_true rfl)) dX11_of_13 ⟨(Nat.le_of_ble_eq_true rfl), (Nat.le_of_ble_eq_true rfl)⟩) ?_
    refine lv_if_ne (tgt := 21) hx hb dX11_of_16 (by decide) (fun c16 => ?_) (fun c16 => ?_)
    · have hm := hw_in hm c16
      refine lv_iload_n hx hb dX11_of_21 rfl (hl.at 3 rfl) ?_
      refine lv_if_ne (tgt := 32) hx hb dX11_of_22 (by decide) (fun c22 => ?_) (fun c22 => ?_)
      · have hm := hw_in hm c22
        refine hw_aload_n hx hb dX11_of_32 rfl (hl.at 0 rfl) ?_
        obtain ⟨v33, e33, hm⟩ := hw_bs hm
        refine hw_getI hx hb hw_cf9 hts hown hK hR e33 (by decide) rfl (hts _ hw_m120) (fun _ h9 => h9) dX11_of_33 ?_
        exact w11_of_b36 C0 hm hR (hl.sub [1] rfl)
      · have hm := hw_ip hm c22
        refine hw_aload_n hx hb dX11_of_25 rfl (hl.at 0 rfl) ?_
        obtain ⟨v26, e26, hm⟩ := hw_bs hm
        refine hw_getI hx hb hw_cf9 hts hown hK hR e26 (by decide) rfl (hts _ hw_m119) (fun _ h9 => h9) dX11_of_26 ?_
        refine lv_goto (tgt := 36) hx hb dX11_of_29 (by decide) ?_
        exact w11_of_b36 C0 hm hR (hl.sub [1] rfl)
    · have hm := hw_ip hm c16
      exact w11_of_b19 C0 hm hR (hl.sub [1] rfl)
set_option maxRecDepth 100000 in
theorem c11_of (l : Launch) (D : hw_D) (b : Nat) {x0 : Nat} {l1 : Int32} {l2 : Int32} {σ : hw_S} {r : Int32} (hm : m11_of x0 l1 l2 σ = some r) : Met l yX11_of (Cond.code yX11_of cX11_of 4 (some .int) :: wsL_law) rm11_of (hw_P1 D b σ [hw_vr b (some x0), .int l1, .int l2]) (hw_RI r) 0 0 hw_nof := by
  refine hw_start1 (by decide +kernel) (by exact Nat.le_of_ble_eq_true rfl) ?_
  intro p e s m below meth c ls C0 hR hS hl
  have hl : lv_has ls 4 [(0, hw_vr b (some x0)), (1, .int l1), (2, .int l2)] := by exact hl
  exact w11_of_s hm C0 hR ⟨hl, (List.forall_mem_cons.mpr ⟨(fun h => by rw [show (hw_vr b (some x0) : Value).category = 1 from (hw_vr_cat _ _)] at h; cases h), (List.forall_mem_cons.mpr ⟨(fun h => absurd (show (1 : Nat) = 2 from h) (by decide)), (List.forall_mem_cons.mpr ⟨(fun h => absurd (show (1 : Nat) = 2 from h) (by decide)), (fun _ h => absurd h List.not_mem_nil)⟩)⟩)⟩)⟩

abbrev rm12_isStuff : Room := { frames := 1, cells := 0, slots := 0, locals := 22 }
def m12_isStuff (x0 : Nat) (l1 : Int32) (σ : hw_S) : Option Int32 :=
  (hw_gP (hw_q 12) 1 (some x0) σ).bind fun v3 =>
  (hw_aI 0 v3 (0 : Int32) σ).bind fun v7 =>
  (m12_in l1 (0 : Int32) (v7 - (1 : Int32))).bind fun v10 =>
  (hw_tf v10).bind fun _ =>
  some v10
set_option maxRecDepth 100000 in
theorem w12_isStuff_s {p : Program} {l : Launch} {e : Env} {s : State} {m : MethodId} {args : Array Value} {below : List Frame} {meth : Method} {c : Code} {D : hw_D} {b : Nat} {x0 : Nat} {l1 : Int32} {σ : hw_S} {r : Int32} (hm : m12_isStuff x0 l1 σ = some r) (C0 : hw_C p s m args meth c D yX12_isStuff cX12_isStuff 2 (some .boolean)) (hR : hw_R D b σ s.heap) {ls : Array Slot} (hl : hw_L ls 2 255 [(0, hw_vr b (some x0)), (1, .int l1)]) : W p l e rm12_isStuff s m args below meth c s.heap [] 0 0 (MQ below (hw_RI r) args s 0 0 hw_nof) (F0 m 0 ls []) := by
  obtain ⟨hx, hb, hml, hr, hown, hts, hlk, hE, hnm⟩ := id C0
  have hown : s.vm.findClass RX12 = some m.cls := hown
  have hK := hE.1
  unfold m12_isStuff at hm
  refine lv_iload_n hx hb dX12_isStuff_0 rfl (hl.at 1 rfl) ?_
  refine lv_iconst (v := 0) hx hb dX12_isStuff_1 (by decide) ?_
  refine hw_aload_n hx hb dX12_isStuff_2 rfl (hl.at 0 rfl) ?_
  obtain ⟨v3, e3, hm⟩ := hw_bs hm
  refine hw_getP hx hb hw_cf12 hts hown hK hR e3 (by decide) rfl (hts _ hw_m76) (fun _ h9 => h9) dX12_isStuff_3 ?_
  refine lv_iconst (v := 0) hx hb dX12_isStuff_6 (by decide) ?_
  obtain ⟨v7, e7, hm⟩ := hw_bs hm
  refine hw_iald hx hb hK hR e7 dX12_isStuff_7 ?_
  refine lv_iconst (v := 1) hx hb dX12_isStuff_8 (by decide) ?_
  refine lv_isub hx hb dX12_isStuff_9 ?_
  obtain ⟨v10, e10, hm⟩ := hw_bs hm
  refine hw_cRI (va_runS (As := [.int l1, .int (0 : Int32), .int (v7 - (1 : Int32))]) (rest := []) ⟨hx, hb, hml, hown, hts⟩ (c12_in l D e10) (cwS 3 hts (hw_gS hw_m112 hw_m113 hw_m5 hw_m114) rfl rfl rfl (by decide +kernel) ⟨(Nat.le_of_ble_eq_true rfl), (Nat.le_of_ble_eq_true rfl)⟩) (hw_pre0 hE) rfl rfl hl.sz rfl (lv_room (Nat.le_of_ble_eq_true rfl)) dX12_isStuff_10 ⟨(Nat.le_of_ble_eq_true rfl), (Nat.le_of_ble_eq_true rfl)⟩) ?_
  obtain ⟨_, z13, hm⟩ := hw_bs hm
  exact hw_rRZ hx hb hr hlk z13 hm dX12_isStuff_13
set_option maxRecDepth 100000 in
theorem c12_isStuff (l : Launch) (D : hw_D) (b : Nat) {x0 : Nat} {l1 : Int32} {σ : hw_S} {r : Int32} (hm : m12_isStuff x0 l1 σ = some r) : Met l yX12_isStuff (Cond.code yX12_isStuff cX12_isStuff 2 (some .boolean) :: wsL_law) rm12_isStuff (hw_P1 D b σ [hw_vr b (some x0), .int l1]) (hw_RI r) 0 0 hw_nof := by
  refine hw_start1 (by decide +kernel) (by exact Nat.le_of_ble_eq_true rfl) ?_
  intro p e s m below meth c ls C0 hR hS hl
  have hl : lv_has ls 2 [(0, hw_vr b (some x0)), (1, .int l1)] := by exact hl
  exact w12_isStuff_s hm C0 hR ⟨hl, (List.forall_mem_cons.mpr ⟨(fun h => by rw [show (hw_vr b (some x0) : Value).category = 1 from (hw_vr_cat _ _)] at h; cases h), (List.forall_mem_cons.mpr ⟨(fun h => absurd (show (1 : Nat) = 2 from h) (by decide)), (fun _ h => absurd h List.not_mem_nil)⟩)⟩)⟩

abbrev rm12_of : Room := { frames := 2, cells := 0, slots := 0, locals := 43 }
def m12_of_b35 (x0 : Nat) (t0 : Int32) (σ : hw_S) : Option Int32 :=
  some t0
set_option maxRecDepth 100000 in
theorem w12_of_b35 {p : Program} {l : Launch} {e : Env} {s : State} {m : MethodId} {args : Array Value} {below : List Frame} {meth : Method} {c : Code} {D : hw_D} {b : Nat} {r : Int32} (C0 : hw_C p s m args meth c D yX12_of cX12_of 3 (some .int)) {x0 : Nat} {t0 : Int32} {σ : hw_S} (hm : m12_of_b35 x0 t0 σ = some r) (hR : hw_R D b σ s.heap) {ls : Array Slot} (hl : hw_L ls 3 255 [(0, hw_vr b (some x0))]) : W p l e rm12_of s m args below meth c s.heap [] 0 0 (MQ below (hw_RI r) args s 0 0 hw_nof) (F0 m 35 ls [.int t0]) := by
  obtain ⟨hx, hb, hml, hr, hown, hts, hlk, hE, hnm⟩ := id C0
  have hown : s.vm.findClass RX12 = some m.cls := hown
  have hK := hE.1
  unfold m12_of_b35 at hm
  exact hw_rRI hx hb hr hlk hm dX12_of_35
def m12_of_b34 (x0 : Nat) (σ : hw_S) : Option Int32 :=
  m12_of_b35 x0 ((-1) : Int32) σ
set_option maxRecDepth 100000 in
theorem w12_of_b34 {p : Program} {l : Launch} {e : Env} {s : State} {m : MethodId} {args : Array Value} {below : List Frame} {meth : Method} {c : Code} {D : hw_D} {b : Nat} {r : Int32} (C0 : hw_C p s m args meth c D yX12_of cX12_of 3 (some .int)) {x0 : Nat} {σ : hw_S} (hm : m12_of_b34 x0 σ = some r) (hR : hw_R D b σ s.heap) {ls : Array Slot} (hl : hw_L ls 3 255 [(0, hw_vr b (some x0))]) : W p l e rm12_of s m args below meth c s.heap [] 0 0 (MQ below (hw_RI r) args s 0 0 hw_nof) (F0 m 34 ls []) := by
  obtain ⟨hx, hb, hml, hr, hown, hts, hlk, hE, hnm⟩ := id C0
  have hown : s.vm.findClass RX12 = some m.cls := hown
  have hK := hE.1
  unfold m12_of_b34 at hm
  refine lv_iconst (v := (-1)) hx hb dX12_of_34 (by decide) ?_
  exact w12_of_b35 C0 hm hR (hl.sub [0] rfl)
def m12_of (x0 : Nat) (l1 : Int32) (l2 : Int32) (σ : hw_S) : Option Int32 :=
  (hw_rv (hw_q 12) (some x0) σ).bind fun a2 =>
  (m12_isStuff x0 l1 σ).bind fun v2 =>
  (if v2 = 0 then
  m12_of_b34 x0 σ
  else
  (m12_in l2 (0 : Int32) (1 : Int32)).bind fun v11 =>
  (if v11 = 0 then
  m12_of_b34 x0 σ
  else
  (hw_gP (hw_q 12) 1 (some x0) σ).bind fun v18 =>
  (hw_aI 0 v18 (((130 : Int32) + ((5 : Int32) * l2)) + l1) σ).bind fun v30 =>
  m12_of_b35 x0 v30 σ))
set_option maxRecDepth 100000 in
theorem w12_of_s {p : Program} {l : Launch} {e : Env} {s : State} {m : MethodId} {args : Array Value} {below : List Frame} {meth : Method} {c : Code} {D : hw_D} {b : Nat} {x0 : Nat} {l1 : Int32} {l2 : Int32} {σ : hw_S} {r : Int32} (hm : m12_of x0 l1 l2 σ = some r) (C0 : hw_C p s m args meth c D yX12_of cX12_of 3 (some .int)) (hR : hw_R D b σ s.heap) {ls : Array Slot} (hl : hw_L ls 3 255 [(0, hw_vr b (some x0)), (1, .int l1), (2, .int l2)]) : W p l e rm12_of s m args below meth c s.heap [] 0 0 (MQ below (hw_RI r) args s 0 0 hw_nof) (F0 m 0 ls []) := by
  obtain ⟨hx, hb, hml, hr, hown, hts, hlk, hE, hnm⟩ := id C0
  have hown : s.vm.findClass RX12 = some m.cls := hown
  have hK := hE.1
  unfold m12_of at hm
  refine hw_aload_n hx hb dX12_of_0 rfl (hl.at 0 rfl) ?_
  refine lv_iload_n hx hb dX12_of_1 rfl (hl.at 1 rfl) ?_
  obtain ⟨a2, g2, hm⟩ := hw_bs hm
  obtain ⟨rfl, ht2⟩ := hw_rv_th g2
  obtain ⟨v2, e2, hm⟩ := hw_bs hm
  refine hw_cRI (va_runV (As := [.int l1]) (rest := []) ⟨hx, hb, hml, hown, hts⟩ (c12_isStuff l D b e2) (cwV 1 hts (hw_gV hw_m129 hw_m130 hw_m131 hw_m5 hw_m132) rfl rfl rfl (by decide +kernel) ⟨(Nat.le_of_ble_eq_true rfl), (Nat.le_of_ble_eq_true rfl)⟩) (hw_preV (ci := 12) hE hR rfl (by decide) (hw_q_of ht2)) rfl rfl hl.sz rfl (lv_room (Nat.le_of_ble_eq_true rfl)) dX12_of_2 ⟨(Nat.le_of_ble_eq_true rfl), (Nat.le_of_ble_eq_true rfl)⟩) ?_
  refine lv_if_eq (tgt := 34) hx hb dX12_of_5 (by decide) (fun c5 => ?_) (fun c5 => ?_)
  · have hm := hw_ip hm c5
    exact w12_of_b34 C0 hm hR (hl.sub [0] rfl)
  · have hm := hw_in hm c5
    refine lv_iload_n hx hb dX12_of_8 rfl (hl.at 2 rfl) ?_
    refine lv_iconst (v := 0) hx hb dX12_of_9 (by decide) ?_
    refine lv_iconst (v := 1) hx hb dX12_of_10 (by decide) ?_
    obtain ⟨v11, e11, hm⟩ := hw_bs hm
    refine hw_cRI (va_runS (As := [.int l2, .int (0 : Int32), .int (1 : Int32)]) (rest := []) ⟨hx, hb, hml, hown, hts⟩ (c12_in l D e11) (cwS 3 hts (hw_gS hw_m112 hw_m113 hw_m5 hw_m114) rfl rfl rfl (by decide +kernel) ⟨(Nat.le_of_ble_eq_true rfl), (Nat.le_of_ble_eq_true rfl)⟩) (hw_pre0 hE) rfl rfl hl.sz rfl (lv_room (Nat.le_of_ble_eq_true rfl)) dX12_of_11 ⟨(Nat.le_of_ble_eq_true rfl), (Nat.le_of_ble_eq_true rfl)⟩) ?_
    refine lv_if_eq (tgt := 34) hx hb dX12_of_14 (by decide) (fun c14 => ?_) (fun c14 => ?_)
    · have hm := hw_ip hm c14
      exact w12_of_b34 C0 hm hR (hl.sub [0] rfl)
    · have hm := hw_in hm c14
      refine hw_aload_n hx hb dX12_of_17 rfl (hl.at 0 rfl) ?_
      obtain ⟨v18, e18, hm⟩ := hw_bs hm
      refine hw_getP hx hb hw_cf12 hts hown hK hR e18 (by decide) rfl (hts _ hw_m76) (fun _ h9 => h9) dX12_of_18 ?_
      refine lv_sipush (v := 130) hx hb dX12_of_21 (by decide) ?_
      refine lv_iconst (v := 5) hx hb dX12_of_24 (by decide) ?_
      refine lv_iload_n hx hb dX12_of_25 rfl (hl.at 2 rfl) ?_
      refine lv_imul hx hb dX12_of_26 ?_
      refine lv_iadd hx hb dX12_of_27 ?_
      refine lv_iload_n hx hb dX12_of_28 rfl (hl.at 1 rfl) ?_
      refine lv_iadd hx hb dX12_of_29 ?_
      obtain ⟨v30, e30, hm⟩ := hw_bs hm
      refine hw_iald hx hb hK hR e30 dX12_of_30 ?_
      refine lv_goto (tgt := 35) hx hb dX12_of_31 (by decide) ?_
      exact w12_of_b35 C0 hm hR (hl.sub [0] rfl)
set_option maxRecDepth 100000 in
theorem c12_of (l : Launch) (D : hw_D) (b : Nat) {x0 : Nat} {l1 : Int32} {l2 : Int32} {σ : hw_S} {r : Int32} (hm : m12_of x0 l1 l2 σ = some r) : Met l yX12_of (Cond.code yX12_of cX12_of 3 (some .int) :: wsL_law) rm12_of (hw_P1 D b σ [hw_vr b (some x0), .int l1, .int l2]) (hw_RI r) 0 0 hw_nof := by
  refine hw_start1 (by decide +kernel) (by exact Nat.le_of_ble_eq_true rfl) ?_
  intro p e s m below meth c ls C0 hR hS hl
  have hl : lv_has ls 3 [(0, hw_vr b (some x0)), (1, .int l1), (2, .int l2)] := by exact hl
  exact w12_of_s hm C0 hR ⟨hl, (List.forall_mem_cons.mpr ⟨(fun h => by rw [show (hw_vr b (some x0) : Value).category = 1 from (hw_vr_cat _ _)] at h; cases h), (List.forall_mem_cons.mpr ⟨(fun h => absurd (show (1 : Nat) = 2 from h) (by decide)), (List.forall_mem_cons.mpr ⟨(fun h => absurd (show (1 : Nat) = 2 from h) (by decide)), (fun _ h => absurd h List.not_mem_nil)⟩)⟩)⟩)⟩

abbrev rm11_lawAt : Room := { frames := 1, cells := 0, slots := 0, locals := 22 }
def m11_lawAt_b30 (x0 : Nat) (t0 : Option Nat) (σ : hw_S) : Option (Option Nat) :=
  some t0
set_option maxRecDepth 100000 in
theorem w11_lawAt_b30 {p : Program} {l : Launch} {e : Env} {s : State} {m : MethodId} {args : Array Value} {below : List Frame} {meth : Method} {c : Code} {D : hw_D} {b : Nat} {r : Option Nat} (C0 : hw_C p s m args meth c D yX11_lawAt cX11_lawAt 2 (some (.object "HoneyWinds$Laying"))) {x0 : Nat} {t0 : Option Nat} {σ : hw_S} (hm : m11_lawAt_b30 x0 t0 σ = some r) (hR : hw_R D b σ s.heap) {ls : Array Slot} (hl : hw_L ls 2 255 [(0, hw_vr b (some x0))]) : W p l e rm11_lawAt s m args below meth c s.heap [] 0 0 (MQ below (hw_RP b r) args s 0 0 hw_nof) (F0 m 30 ls [hw_vr b t0]) := by
  obtain ⟨hx, hb, hml, hr, hown, hts, hlk, hE, hnm⟩ := id C0
  have hown : s.vm.findClass RX11 = some m.cls := hown
  have hK := hE.1
  unfold m11_lawAt_b30 at hm
  exact hw_rRP hx hb hr (Or.inl ⟨_, rfl⟩) hlk hm dX11_lawAt_30
def m11_lawAt (x0 : Nat) (l1 : Int32) (σ : hw_S) : Option (Option Nat) :=
  (hw_gP (hw_q 11) 0 (some x0) σ).bind fun v3 =>
  (hw_gI (hw_q 8) 3 v3 σ).bind fun v6 =>
  (m11_isWithin l1 (0 : Int32) (v6 - (1 : Int32))).bind fun v11 =>
  (if v11 = 0 then
  m11_lawAt_b30 x0 none σ
  else
  (hw_gP (hw_q 11) 0 (some x0) σ).bind fun v18 =>
  (hw_gP (hw_q 8) 2 v18 σ).bind fun v21 =>
  (hw_aP 2 v21 l1 σ).bind fun v25 =>
  m11_lawAt_b30 x0 v25 σ)
set_option maxRecDepth 100000 in
theorem w11_lawAt_s {p : Program} {l : Launch} {e : Env} {s : State} {m : MethodId} {args : Array Value} {below : List Frame} {meth : Method} {c : Code} {D : hw_D} {b : Nat} {x0 : Nat} {l1 : Int32} {σ : hw_S} {r : Option Nat} (hm : m11_lawAt x0 l1 σ = some r) (C0 : hw_C p s m args meth c D yX11_lawAt cX11_lawAt 2 (some (.object "HoneyWinds$Laying"))) (hR : hw_R D b σ s.heap) {ls : Array Slot} (hl : hw_L ls 2 255 [(0, hw_vr b (some x0)), (1, .int l1)]) : W p l e rm11_lawAt s m args below meth c s.heap [] 0 0 (MQ below (hw_RP b r) args s 0 0 hw_nof) (F0 m 0 ls []) := by
  obtain ⟨hx, hb, hml, hr, hown, hts, hlk, hE, hnm⟩ := id C0
  have hown : s.vm.findClass RX11 = some m.cls := hown
  have hK := hE.1
  unfold m11_lawAt at hm
  refine lv_iload_n hx hb dX11_lawAt_0 rfl (hl.at 1 rfl) ?_
  refine lv_iconst (v := 0) hx hb dX11_lawAt_1 (by decide) ?_
  refine hw_aload_n hx hb dX11_lawAt_2 rfl (hl.at 0 rfl) ?_
  obtain ⟨v3, e3, hm⟩ := hw_bs hm
  refine hw_getP hx hb hw_cf11 hts hown hK hR e3 (by decide) rfl (hts _ hw_m16) (fun _ h9 => h9) dX11_lawAt_3 ?_
  obtain ⟨v6, e6, hm⟩ := hw_bs hm
  refine hw_getI hx hb hw_cf8 hts hown hK hR e6 (by decide) rfl (hts _ hw_m148) (fun _ h9 => h9) dX11_lawAt_6 ?_
  refine lv_iconst (v := 1) hx hb dX11_lawAt_9 (by decide) ?_
  refine lv_isub hx hb dX11_lawAt_10 ?_
  obtain ⟨v11, e11, hm⟩ := hw_bs hm
  refine hw_cRI (va_runS (As := [.int l1, .int (0 : Int32), .int (v6 - (1 : Int32))]) (rest := []) ⟨hx, hb, hml, hown, hts⟩ (c11_isWithin l D e11) (cwS 3 hts (hw_gS hw_m99 hw_m100 hw_m2 hw_m101) rfl rfl rfl (by decide +kernel) ⟨(Nat.le_of_ble_eq_true rfl), (Nat.le_of_ble_eq_true rfl)⟩) (hw_pre0 hE) rfl rfl hl.sz rfl (lv_room (Nat.le_of_ble_eq_true rfl)) dX11_lawAt_11 ⟨(Nat.le_of_ble_eq_true rfl), (Nat.le_of_ble_eq_true rfl)⟩) ?_
  refine lv_if_eq (tgt := 29) hx hb dX11_lawAt_14 (by decide) (fun c14 => ?_) (fun c14 => ?_)
  · have hm := hw_ip hm c14
    refine hw_null hx hb b dX11_lawAt_29 ?_
    exact w11_lawAt_b30 C0 hm hR (hl.sub [0] rfl)
  · have hm := hw_in hm c14
    refine hw_aload_n hx hb dX11_lawAt_17 rfl (hl.at 0 rfl) ?_
    obtain ⟨v18, e18, hm⟩ := hw_bs hm
    refine hw_getP hx hb hw_cf11 hts hown hK hR e18 (by decide) rfl (hts _ hw_m16) (fun _ h9 => h9) dX11_lawAt_18 ?_
    obtain ⟨v21, e21, hm⟩ := hw_bs hm
    refine hw_getP hx hb hw_cf8 hts hown hK hR e21 (by decide) rfl (hts _ hw_m150) (fun _ h9 => h9) dX11_lawAt_21 ?_
    refine lv_iload_n hx hb dX11_lawAt_24 rfl (hl.at 1 rfl) ?_
    obtain ⟨v25, e25, hm⟩ := hw_bs hm
    refine hw_aald (by decide) (by decide) hx hb hK hR e25 dX11_lawAt_25 ?_
    refine lv_goto (tgt := 30) hx hb dX11_lawAt_26 (by decide) ?_
    exact w11_lawAt_b30 C0 hm hR (hl.sub [0] rfl)
set_option maxRecDepth 100000 in
theorem c11_lawAt (l : Launch) (D : hw_D) (b : Nat) {x0 : Nat} {l1 : Int32} {σ : hw_S} {r : Option Nat} (hm : m11_lawAt x0 l1 σ = some r) : Met l yX11_lawAt (Cond.code yX11_lawAt cX11_lawAt 2 (some (.object "HoneyWinds$Laying")) :: wsL_law) rm11_lawAt (hw_P1 D b σ [hw_vr b (some x0), .int l1]) (hw_RP b r) 0 0 hw_nof := by
  refine hw_start1 (by decide +kernel) (by exact Nat.le_of_ble_eq_true rfl) ?_
  intro p e s m below meth c ls C0 hR hS hl
  have hl : lv_has ls 2 [(0, hw_vr b (some x0)), (1, .int l1)] := by exact hl
  exact w11_lawAt_s hm C0 hR ⟨hl, (List.forall_mem_cons.mpr ⟨(fun h => by rw [show (hw_vr b (some x0) : Value).category = 1 from (hw_vr_cat _ _)] at h; cases h), (List.forall_mem_cons.mpr ⟨(fun h => absurd (show (1 : Nat) = 2 from h) (by decide)), (fun _ h => absurd h List.not_mem_nil)⟩)⟩)⟩

abbrev rm11_heightOf : Room := { frames := 0, cells := 0, slots := 0, locals := 0 }
def m11_heightOf (l0 : Int32) : Option Int32 :=
  (hw_dv l0 (10000 : Int32)).bind fun v4 =>
  some v4
set_option maxRecDepth 100000 in
theorem w11_heightOf_s {p : Program} {l : Launch} {e : Env} {s : State} {m : MethodId} {args : Array Value} {below : List Frame} {meth : Method} {c : Code} {D : hw_D} {l0 : Int32} {r : Int32} (hm : m11_heightOf l0 = some r) (C0 : hw_C p s m args meth c D yX11_heightOf cX11_heightOf 1 (some .int)) {ls : Array Slot} (hl : hw_L ls 1 255 [(0, .int l0)]) : W p l e rm11_heightOf s m args below meth c s.heap [] 0 0 (MQ below (hw_RI r) args s 0 0 hw_nof) (F0 m 0 ls []) := by
  obtain ⟨hx, hb, hml, hr, hown, hts, hlk, hE, hnm⟩ := id C0
  have hown : s.vm.findClass RX11 = some m.cls := hown
  unfold m11_heightOf at hm
  refine lv_iload_n hx hb dX11_heightOf_0 rfl (hl.at 0 rfl) ?_
  refine lv_sipush (v := 10000) hx hb dX11_heightOf_1 (by decide) ?_
  obtain ⟨v4, e4, hm⟩ := hw_bs hm
  refine hw_idiv hx hb e4 dX11_heightOf_4 ?_
  exact hw_rRI hx hb hr hlk hm dX11_heightOf_5
set_option maxRecDepth 100000 in
theorem c11_heightOf (l : Launch) (D : hw_D) {l0 : Int32} {r : Int32} (hm : m11_heightOf l0 = some r) : Met l yX11_heightOf (Cond.code yX11_heightOf cX11_heightOf 1 (some .int) :: wsL_law) rm11_heightOf (hw_P0 D [.int l0]) (hw_RI r) 0 0 hw_nof := by
  refine hw_start0 (by decide +kernel) (by exact Nat.le_of_ble_eq_true rfl) ?_
  intro p e s m below meth c ls C0 hl
  have hl : lv_has ls 1 [(0, .int l0)] := by exact hl
  exact w11_heightOf_s hm C0 ⟨hl, (List.forall_mem_cons.mpr ⟨(fun h => absurd (show (1 : Nat) = 2 from h) (by decide)), (fun _ h => absurd h List.not_mem_nil)⟩)⟩

abbrev rm11_isHeight : Room := { frames := 1, cells := 0, slots := 0, locals := 22 }
def m11_isHeight (l0 : Int32) : Option Int32 :=
  (m11_isWithin l0 (1 : Int32) (60 : Int32)).bind fun v4 =>
  (hw_tf v4).bind fun _ =>
  some v4
set_option maxRecDepth 100000 in
theorem w11_isHeight_s {p : Program} {l : Launch} {e : Env} {s : State} {m : MethodId} {args : Array Value} {below : List Frame} {meth : Method} {c : Code} {D : hw_D} {l0 : Int32} {r : Int32} (hm : m11_isHeight l0 = some r) (C0 : hw_C p s m args meth c D yX11_isHeight cX11_isHeight 1 (some .boolean)) {ls : Array Slot} (hl : hw_L ls 1 255 [(0, .int l0)]) : W p l e rm11_isHeight s m args below meth c s.heap [] 0 0 (MQ below (hw_RI r) args s 0 0 hw_nof) (F0 m 0 ls []) := by
  obtain ⟨hx, hb, hml, hr, hown, hts, hlk, hE, hnm⟩ := id C0
  have hown : s.vm.findClass RX11 = some m.cls := hown
  unfold m11_isHeight at hm
  refine lv_iload_n hx hb dX11_isHeight_0 rfl (hl.at 0 rfl) ?_
  refine lv_iconst (v := 1) hx hb dX11_isHeight_1 (by decide) ?_
  refine lv_bipush (v := 60) hx hb dX11_isHeight_2 (by decide) ?_
  obtain ⟨v4, e4, hm⟩ := hw_bs hm
  refine hw_cRI (va_runS (As := [.int l0, .int (1 : Int32), .int (60 : Int32)]) (rest := []) ⟨hx, hb, hml, hown, hts⟩ (c11_isWithin l D e4) (cwS 3 hts (hw_gS hw_m99 hw_m100 hw_m2 hw_m101) rfl rfl rfl (by decide +kernel) ⟨(Nat.le_of_ble_eq_true rfl), (Nat.le_of_ble_eq_true rfl)⟩) (hw_pre0 hE) rfl rfl hl.sz rfl (lv_room (Nat.le_of_ble_eq_true rfl)) dX11_isHeight_4 ⟨(Nat.le_of_ble_eq_true rfl), (Nat.le_of_ble_eq_true rfl)⟩) ?_
  obtain ⟨_, z7, hm⟩ := hw_bs hm
  exact hw_rRZ hx hb hr hlk z7 hm dX11_isHeight_7
set_option maxRecDepth 100000 in
theorem c11_isHeight (l : Launch) (D : hw_D) {l0 : Int32} {r : Int32} (hm : m11_isHeight l0 = some r) : Met l yX11_isHeight (Cond.code yX11_isHeight cX11_isHeight 1 (some .boolean) :: wsL_law) rm11_isHeight (hw_P0 D [.int l0]) (hw_RI r) 0 0 hw_nof := by
  refine hw_start0 (by decide +kernel) (by exact Nat.le_of_ble_eq_true rfl) ?_
  intro p e s m below meth c ls C0 hl
  have hl : lv_has ls 1 [(0, .int l0)] := by exact hl
  exact w11_isHeight_s hm C0 ⟨hl, (List.forall_mem_cons.mpr ⟨(fun h => absurd (show (1 : Nat) = 2 from h) (by decide)), (fun _ h => absurd h List.not_mem_nil)⟩)⟩

abbrev rm11_flowOf : Room := { frames := 0, cells := 0, slots := 0, locals := 0 }
def m11_flowOf (l0 : Int32) : Option Int32 :=
  (hw_dv l0 (100 : Int32)).bind fun v3 =>
  (hw_rm v3 (100 : Int32)).bind fun v6 =>
  some v6
set_option maxRecDepth 100000 in
theorem w11_flowOf_s {p : Program} {l : Launch} {e : Env} {s : State} {m : MethodId} {args : Array Value} {below : List Frame} {meth : Method} {c : Code} {D : hw_D} {l0 : Int32} {r : Int32} (hm : m11_flowOf l0 = some r) (C0 : hw_C p s m args meth c D yX11_flowOf cX11_flowOf 1 (some .int)) {ls : Array Slot} (hl : hw_L ls 1 255 [(0, .int l0)]) : W p l e rm11_flowOf s m args below meth c s.heap [] 0 0 (MQ below (hw_RI r) args s 0 0 hw_nof) (F0 m 0 ls []) := by
  obtain ⟨hx, hb, hml, hr, hown, hts, hlk, hE, hnm⟩ := id C0
  have hown : s.vm.findClass RX11 = some m.cls := hown
  unfold m11_flowOf at hm
  refine lv_iload_n hx hb dX11_flowOf_0 rfl (hl.at 0 rfl) ?_
  refine lv_bipush (v := 100) hx hb dX11_flowOf_1 (by decide) ?_
  obtain ⟨v3, e3, hm⟩ := hw_bs hm
  refine hw_idiv hx hb e3 dX11_flowOf_3 ?_
  refine lv_bipush (v := 100) hx hb dX11_flowOf_4 (by decide) ?_
  obtain ⟨v6, e6, hm⟩ := hw_bs hm
  refine hw_irem hx hb e6 dX11_flowOf_6 ?_
  exact hw_rRI hx hb hr hlk hm dX11_flowOf_7
set_option maxRecDepth 100000 in
theorem c11_flowOf (l : Launch) (D : hw_D) {l0 : Int32} {r : Int32} (hm : m11_flowOf l0 = some r) : Met l yX11_flowOf (Cond.code yX11_flowOf cX11_flowOf 1 (some .int) :: wsL_law) rm11_flowOf (hw_P0 D [.int l0]) (hw_RI r) 0 0 hw_nof := by
  refine hw_start0 (by decide +kernel) (by exact Nat.le_of_ble_eq_true rfl) ?_
  intro p e s m below meth c ls C0 hl
  have hl : lv_has ls 1 [(0, .int l0)] := by exact hl
  exact w11_flowOf_s hm C0 ⟨hl, (List.forall_mem_cons.mpr ⟨(fun h => absurd (show (1 : Nat) = 2 from h) (by decide)), (fun _ h => absurd h List.not_mem_nil)⟩)⟩

abbrev rm11_isFlow : Room := { frames := 1, cells := 0, slots := 0, locals := 22 }
def m11_isFlow (l0 : Int32) : Option Int32 :=
  (m11_isWithin l0 (1 : Int32) (20 : Int32)).bind fun v4 =>
  (hw_tf v4).bind fun _ =>
  some v4
set_option maxRecDepth 100000 in
theorem w11_isFlow_s {p : Program} {l : Launch} {e : Env} {s : State} {m : MethodId} {args : Array Value} {below : List Frame} {meth : Method} {c : Code} {D : hw_D} {l0 : Int32} {r : Int32} (hm : m11_isFlow l0 = some r) (C0 : hw_C p s m args meth c D yX11_isFlow cX11_isFlow 1 (some .boolean)) {ls : Array Slot} (hl : hw_L ls 1 255 [(0, .int l0)]) : W p l e rm11_isFlow s m args below meth c s.heap [] 0 0 (MQ below (hw_RI r) args s 0 0 hw_nof) (F0 m 0 ls []) := by
  obtain ⟨hx, hb, hml, hr, hown, hts, hlk, hE, hnm⟩ := id C0
  have hown : s.vm.findClass RX11 = some m.cls := hown
  unfold m11_isFlow at hm
  refine lv_iload_n hx hb dX11_isFlow_0 rfl (hl.at 0 rfl) ?_
  refine lv_iconst (v := 1) hx hb dX11_isFlow_1 (by decide) ?_
  refine lv_bipush (v := 20) hx hb dX11_isFlow_2 (by decide) ?_
  obtain ⟨v4, e4, hm⟩ := hw_bs hm
  refine hw_cRI (va_runS (As := [.int l0, .int (1 : Int32), .int (20 : Int32)]) (rest := []) ⟨hx, hb, hml, hown, hts⟩ (c11_isWithin l D e4) (cwS 3 hts (hw_gS hw_m99 hw_m100 hw_m2 hw_m101) rfl rfl rfl (by decide +kernel) ⟨(Nat.le_of_ble_eq_true rfl), (Nat.le_of_ble_eq_true rfl)⟩) (hw_pre0 hE) rfl rfl hl.sz rfl (lv_room (Nat.le_of_ble_eq_true rfl)) dX11_isFlow_4 ⟨(Nat.le_of_ble_eq_true rfl), (Nat.le_of_ble_eq_true rfl)⟩) ?_
  obtain ⟨_, z7, hm⟩ := hw_bs hm
  exact hw_rRZ hx hb hr hlk z7 hm dX11_isFlow_7
set_option maxRecDepth 100000 in
theorem c11_isFlow (l : Launch) (D : hw_D) {l0 : Int32} {r : Int32} (hm : m11_isFlow l0 = some r) : Met l yX11_isFlow (Cond.code yX11_isFlow cX11_isFlow 1 (some .boolean) :: wsL_law) rm11_isFlow (hw_P0 D [.int l0]) (hw_RI r) 0 0 hw_nof := by
  refine hw_start0 (by decide +kernel) (by exact Nat.le_of_ble_eq_true rfl) ?_
  intro p e s m below meth c ls C0 hl
  have hl : lv_has ls 1 [(0, .int l0)] := by exact hl
  exact w11_isFlow_s hm C0 ⟨hl, (List.forall_mem_cons.mpr ⟨(fun h => absurd (show (1 : Nat) = 2 from h) (by decide)), (fun _ h => absurd h List.not_mem_nil)⟩)⟩

abbrev rm11_isDoing : Room := { frames := 2, cells := 0, slots := 0, locals := 42 }
def m11_isDoing_b29 (t0 : Int32) : Option Int32 :=
  (hw_tf t0).bind fun _ =>
  some t0
set_option maxRecDepth 100000 in
theorem w11_isDoing_b29 {p : Program} {l : Launch} {e : Env} {s : State} {m : MethodId} {args : Array Value} {below : List Frame} {meth : Method} {c : Code} {D : hw_D} {r : Int32} (C0 : hw_C p s m args meth c D yX11_isDoing cX11_isDoing 1 (some .boolean)) {t0 : Int32} (hm : m11_isDoing_b29 t0 = some r) {ls : Array Slot} (hl : hw_L ls 1 255 []) : W p l e rm11_isDoing s m args below meth c s.heap [] 0 0 (MQ below (hw_RI r) args s 0 0 hw_nof) (F0 m 29 ls [.int t0]) := by
  obtain ⟨hx, hb, hml, hr, hown, hts, hlk, hE, hnm⟩ := id C0
  have hown : s.vm.findClass RX11 = some m.cls := hown
  unfold m11_isDoing_b29 at hm
  obtain ⟨_, z29, hm⟩ := hw_bs hm
  exact hw_rRZ hx hb hr hlk z29 hm dX11_isDoing_29
def m11_isDoing_b28 : Option Int32 :=
  m11_isDoing_b29 (0 : Int32)
set_option maxRecDepth 100000 in
theorem w11_isDoing_b28 {p : Program} {l : Launch} {e : Env} {s : State} {m : MethodId} {args : Array Value} {below : List Frame} {meth : Method} {c : Code} {D : hw_D} {r : Int32} (C0 : hw_C p s m args meth c D yX11_isDoing cX11_isDoing 1 (some .boolean)) (hm : m11_isDoing_b28  = some r) {ls : Array Slot} (hl : hw_L ls 1 255 []) : W p l e rm11_isDoing s m args below meth c s.heap [] 0 0 (MQ below (hw_RI r) args s 0 0 hw_nof) (F0 m 28 ls []) := by
  obtain ⟨hx, hb, hml, hr, hown, hts, hlk, hE, hnm⟩ := id C0
  have hown : s.vm.findClass RX11 = some m.cls := hown
  unfold m11_isDoing_b28 at hm
  refine lv_iconst (v := 0) hx hb dX11_isDoing_28 (by decide) ?_
  exact w11_isDoing_b29 C0 hm (hl.sub [] rfl)
def m11_isDoing (l0 : Int32) : Option Int32 :=
  (if l0 < 0 then
  m11_isDoing_b28 
  else
  (m11_heightOf l0).bind fun v5 =>
  (m11_isHeight v5).bind fun v8 =>
  (if v8 = 0 then
  m11_isDoing_b28 
  else
  (m11_flowOf l0).bind fun v15 =>
  (m11_isFlow v15).bind fun v18 =>
  (if v18 = 0 then
  m11_isDoing_b28 
  else
  m11_isDoing_b29 (1 : Int32))))
set_option maxRecDepth 100000 in
theorem w11_isDoing_s {p : Program} {l : Launch} {e : Env} {s : State} {m : MethodId} {args : Array Value} {below : List Frame} {meth : Method} {c : Code} {D : hw_D} {l0 : Int32} {r : Int32} (hm : m11_isDoing l0 = some r) (C0 : hw_C p s m args meth c D yX11_isDoing cX11_isDoing 1 (some .boolean)) {ls : Array Slot} (hl : hw_L ls 1 255 [(0, .int l0)]) : W p l e rm11_isDoing s m args below meth c s.heap [] 0 0 (MQ below (hw_RI r) args s 0 0 hw_nof) (F0 m 0 ls []) := by
  obtain ⟨hx, hb, hml, hr, hown, hts, hlk, hE, hnm⟩ := id C0
  have hown : s.vm.findClass RX11 = some m.cls := hown
  unfold m11_isDoing at hm
  refine lv_iload_n hx hb dX11_isDoing_0 rfl (hl.at 0 rfl) ?_
  refine lv_if_lt (tgt := 28) hx hb dX11_isDoing_1 (by decide) (fun c1 => ?_) (fun c1 => ?_)
  · have hm := hw_ip hm c1
    exact w11_isDoing_b28 C0 hm (hl.sub [] rfl)
  · have hm := hw_in hm c1
    refine lv_iload_n hx hb dX11_isDoing_4 rfl (hl.at 0 rfl) ?_
    obtain ⟨v5, e5, hm⟩ := hw_bs hm
    refine hw_cRI (va_runS (As := [.int l0]) (rest := []) ⟨hx, hb, hml, hown, hts⟩ (c11_heightOf l D e5) (cwS 1 hts (hw_gS hw_m434 hw_m435 hw_m2 hw_m436) rfl rfl rfl (by decide +kernel) ⟨(Nat.le_of_ble_eq_true rfl), (Nat.le_of_ble_eq_true rfl)⟩) (hw_pre0 hE) rfl rfl hl.sz rfl (lv_room (Nat.le_of_ble_eq_true rfl)) dX11_isDoing_5 ⟨(Nat.le_of_ble_eq_true rfl), (Nat.le_of_ble_eq_true rfl)⟩) ?_
    obtain ⟨v8, e8, hm⟩ := hw_bs hm
    refine hw_cRI (va_runS (As := [.int v5]) (rest := []) ⟨hx, hb, hml, hown, hts⟩ (c11_isHeight l D e8) (cwS 1 hts (hw_gS hw_m437 hw_m438 hw_m2 hw_m439) rfl rfl rfl (by decide +kernel) ⟨(Nat.le_of_ble_eq_true rfl), (Nat.le_of_ble_eq_true rfl)⟩) (hw_pre0 hE) rfl rfl hl.sz rfl (lv_room (Nat.le_of_ble_eq_true rfl)) dX11_isDoing_8 ⟨(Nat.le_of_ble_eq_true rfl), (Nat.le_of_ble_eq_true rfl)⟩) ?_
    refine lv_if_eq (tgt := 28) hx hb dX11_isDoing_11 (by decide) (fun c11 => ?_) (fun c11 => ?_)
    · have hm := hw_ip hm c11
      exact w11_isDoing_b28 C0 hm (hl.sub [] rfl)
    · have hm := hw_in hm c11
      refine lv_iload_n hx hb dX11_isDoing_14 rfl (hl.at 0 rfl) ?_
      obtain ⟨v15, e15, hm⟩ := hw_bs hm
      refine hw_cRI (va_runS (As := [.int l0]) (rest := []) ⟨hx, hb, hml, hown, hts⟩ (c11_flowOf l D e15) (cwS 1 hts (hw_gS hw_m440 hw_m441 hw_m2 hw_m442) rfl rfl rfl (by decide +kernel) ⟨(Nat.le_of_ble_eq_true rfl), (Nat.le_of_ble_eq_true rfl)⟩) (hw_pre0 hE) rfl rfl hl.sz rfl (lv_room (Nat.le_of_ble_eq_true rfl)) dX11_isDoing_15 ⟨(Nat.le_of_ble_eq_true rfl), (Nat.le_of_ble_eq_true rfl)⟩) ?_
      obtain ⟨v18, e18, hm⟩ := hw_bs hm
      refine hw_cRI (va_runS (As := [.int v15]) (rest := []) ⟨hx, hb, hml, hown, hts⟩ (c11_isFlow l D e18) (cwS 1 hts (hw_gS hw_m443 hw_m444 hw_m2 hw_m445) rfl rfl rfl (by decide +kernel) ⟨(Nat.le_of_ble_eq_true rfl), (Nat.le_of_ble_eq_true rfl)⟩) (hw_pre0 hE) rfl rfl hl.sz rfl (lv_room (Nat.le_of_ble_eq_true rfl)) dX11_isDoing_18 ⟨(Nat.le_of_ble_eq_true rfl), (Nat.le_of_ble_eq_true rfl)⟩) ?_
      refine lv_if_eq (tgt := 28) hx hb dX11_isDoing_21 (by decide) (fun c21 => ?_) (fun c21 => ?_)
      · have hm := hw_ip hm c21
        exact w11_isDoing_b28 C0 hm (hl.sub [] rfl)
      · have hm := hw_in hm c21
        refine lv_iconst (v := 1) hx hb dX11_isDoing_24 (by decide) ?_
        refine lv_goto (tgt := 29) hx hb dX11_isDoing_25 (by decide) ?_
        exact w11_isDoing_b29 C0 hm (hl.sub [] rfl)
set_option maxRecDepth 100000 in
theorem c11_isDoing (l : Launch) (D : hw_D) {l0 : Int32} {r : Int32} (hm : m11_isDoing l0 = some r) : Met l yX11_isDoing (Cond.code yX11_isDoing cX11_isDoing 1 (some .boolean) :: wsL_law) rm11_isDoing (hw_P0 D [.int l0]) (hw_RI r) 0 0 hw_nof := by
  refine hw_start0 (by decide +kernel) (by exact Nat.le_of_ble_eq_true rfl) ?_
  intro p e s m below meth c ls C0 hl
  have hl : lv_has ls 1 [(0, .int l0)] := by exact hl
  exact w11_isDoing_s hm C0 ⟨hl, (List.forall_mem_cons.mpr ⟨(fun h => absurd (show (1 : Nat) = 2 from h) (by decide)), (fun _ h => absurd h List.not_mem_nil)⟩)⟩

abbrev rm11_paceOf : Room := { frames := 0, cells := 0, slots := 0, locals := 0 }
def m11_paceOf (l0 : Int32) : Option Int32 :=
  (hw_rm l0 (100 : Int32)).bind fun v3 =>
  some v3
set_option maxRecDepth 100000 in
theorem w11_paceOf_s {p : Program} {l : Launch} {e : Env} {s : State} {m : MethodId} {args : Array Value} {below : List Frame} {meth : Method} {c : Code} {D : hw_D} {l0 : Int32} {r : Int32} (hm : m11_paceOf l0 = some r) (C0 : hw_C p s m args meth c D yX11_paceOf cX11_paceOf 1 (some .int)) {ls : Array Slot} (hl : hw_L ls 1 255 [(0, .int l0)]) : W p l e rm11_paceOf s m args below meth c s.heap [] 0 0 (MQ below (hw_RI r) args s 0 0 hw_nof) (F0 m 0 ls []) := by
  obtain ⟨hx, hb, hml, hr, hown, hts, hlk, hE, hnm⟩ := id C0
  have hown : s.vm.findClass RX11 = some m.cls := hown
  unfold m11_paceOf at hm
  refine lv_iload_n hx hb dX11_paceOf_0 rfl (hl.at 0 rfl) ?_
  refine lv_bipush (v := 100) hx hb dX11_paceOf_1 (by decide) ?_
  obtain ⟨v3, e3, hm⟩ := hw_bs hm
  refine hw_irem hx hb e3 dX11_paceOf_3 ?_
  exact hw_rRI hx hb hr hlk hm dX11_paceOf_4
set_option maxRecDepth 100000 in
theorem c11_paceOf (l : Launch) (D : hw_D) {l0 : Int32} {r : Int32} (hm : m11_paceOf l0 = some r) : Met l yX11_paceOf (Cond.code yX11_paceOf cX11_paceOf 1 (some .int) :: wsL_law) rm11_paceOf (hw_P0 D [.int l0]) (hw_RI r) 0 0 hw_nof := by
  refine hw_start0 (by decide +kernel) (by exact Nat.le_of_ble_eq_true rfl) ?_
  intro p e s m below meth c ls C0 hl
  have hl : lv_has ls 1 [(0, .int l0)] := by exact hl
  exact w11_paceOf_s hm C0 ⟨hl, (List.forall_mem_cons.mpr ⟨(fun h => absurd (show (1 : Nat) = 2 from h) (by decide)), (fun _ h => absurd h List.not_mem_nil)⟩)⟩

abbrev rm11_cut : Room := { frames := 0, cells := 0, slots := 0, locals := 0 }
def m11_cut_b11 (t0 : Int32) : Option Int32 :=
  some t0
set_option maxRecDepth 100000 in
theorem w11_cut_b11 {p : Program} {l : Launch} {e : Env} {s : State} {m : MethodId} {args : Array Value} {below : List Frame} {meth : Method} {c : Code} {D : hw_D} {r : Int32} (C0 : hw_C p s m args meth c D yX11_cut cX11_cut 2 (some .int)) {t0 : Int32} (hm : m11_cut_b11 t0 = some r) {ls : Array Slot} (hl : hw_L ls 2 255 []) : W p l e rm11_cut s m args below meth c s.heap [] 0 0 (MQ below (hw_RI r) args s 0 0 hw_nof) (F0 m 11 ls [.int t0]) := by
  obtain ⟨hx, hb, hml, hr, hown, hts, hlk, hE, hnm⟩ := id C0
  have hown : s.vm.findClass RX11 = some m.cls := hown
  unfold m11_cut_b11 at hm
  exact hw_rRI hx hb hr hlk hm dX11_cut_11
def m11_cut (l0 : Int32) (l1 : Int32) : Option Int32 :=
  (if l1 = 0 then
  m11_cut_b11 (0 : Int32)
  else
  (hw_dv l0 l1).bind fun v10 =>
  m11_cut_b11 v10)
set_option maxRecDepth 100000 in
theorem w11_cut_s {p : Program} {l : Launch} {e : Env} {s : State} {m : MethodId} {args : Array Value} {below : List Frame} {meth : Method} {c : Code} {D : hw_D} {l0 : Int32} {l1 : Int32} {r : Int32} (hm : m11_cut l0 l1 = some r) (C0 : hw_C p s m args meth c D yX11_cut cX11_cut 2 (some .int)) {ls : Array Slot} (hl : hw_L ls 2 255 [(0, .int l0), (1, .int l1)]) : W p l e rm11_cut s m args below meth c s.heap [] 0 0 (MQ below (hw_RI r) args s 0 0 hw_nof) (F0 m 0 ls []) := by
  obtain ⟨hx, hb, hml, hr, hown, hts, hlk, hE, hnm⟩ := id C0
  have hown : s.vm.findClass RX11 = some m.cls := hown
  unfold m11_cut at hm
  refine lv_iload_n hx hb dX11_cut_0 rfl (hl.at 1 rfl) ?_
  refine lv_if_ne (tgt := 8) hx hb dX11_cut_1 (by decide) (fun c1 => ?_) (fun c1 => ?_)
  · have hm := hw_in hm c1
    refine lv_iload_n hx hb dX11_cut_8 rfl (hl.at 0 rfl) ?_
    refine lv_iload_n hx hb dX11_cut_9 rfl (hl.at 1 rfl) ?_
    obtain ⟨v10, e10, hm⟩ := hw_bs hm
    refine hw_idiv hx hb e10 dX11_cut_10 ?_
    exact w11_cut_b11 C0 hm (hl.sub [] rfl)
  · have hm := hw_ip hm c1
    refine lv_iconst (v := 0) hx hb dX11_cut_4 (by decide) ?_
    refine lv_goto (tgt := 11) hx hb dX11_cut_5 (by decide) ?_
    exact w11_cut_b11 C0 hm (hl.sub [] rfl)
set_option maxRecDepth 100000 in
theorem c11_cut (l : Launch) (D : hw_D) {l0 : Int32} {l1 : Int32} {r : Int32} (hm : m11_cut l0 l1 = some r) : Met l yX11_cut (Cond.code yX11_cut cX11_cut 2 (some .int) :: wsL_law) rm11_cut (hw_P0 D [.int l0, .int l1]) (hw_RI r) 0 0 hw_nof := by
  refine hw_start0 (by decide +kernel) (by exact Nat.le_of_ble_eq_true rfl) ?_
  intro p e s m below meth c ls C0 hl
  have hl : lv_has ls 2 [(0, .int l0), (1, .int l1)] := by exact hl
  exact w11_cut_s hm C0 ⟨hl, (List.forall_mem_cons.mpr ⟨(fun h => absurd (show (1 : Nat) = 2 from h) (by decide)), (List.forall_mem_cons.mpr ⟨(fun h => absurd (show (1 : Nat) = 2 from h) (by decide)), (fun _ h => absurd h List.not_mem_nil)⟩)⟩)⟩

abbrev rm11_doingOf : Room := { frames := 0, cells := 0, slots := 0, locals := 0 }
def m11_doingOf (l0 : Int32) (l1 : Int32) : Option Int32 :=
  some ((l0 * (10000 : Int32)) + (l1 * (100 : Int32)))
set_option maxRecDepth 100000 in
theorem w11_doingOf_s {p : Program} {l : Launch} {e : Env} {s : State} {m : MethodId} {args : Array Value} {below : List Frame} {meth : Method} {c : Code} {D : hw_D} {l0 : Int32} {l1 : Int32} {r : Int32} (hm : m11_doingOf l0 l1 = some r) (C0 : hw_C p s m args meth c D yX11_doingOf cX11_doingOf 2 (some .int)) {ls : Array Slot} (hl : hw_L ls 2 255 [(0, .int l0), (1, .int l1)]) : W p l e rm11_doingOf s m args below meth c s.heap [] 0 0 (MQ below (hw_RI r) args s 0 0 hw_nof) (F0 m 0 ls []) := by
  obtain ⟨hx, hb, hml, hr, hown, hts, hlk, hE, hnm⟩ := id C0
  have hown : s.vm.findClass RX11 = some m.cls := hown
  unfold m11_doingOf at hm
  refine lv_iload_n hx hb dX11_doingOf_0 rfl (hl.at 0 rfl) ?_
  refine lv_sipush (v := 10000) hx hb dX11_doingOf_1 (by decide) ?_
  refine lv_imul hx hb dX11_doingOf_4 ?_
  refine lv_iload_n hx hb dX11_doingOf_5 rfl (hl.at 1 rfl) ?_
  refine lv_bipush (v := 100) hx hb dX11_doingOf_6 (by decide) ?_
  refine lv_imul hx hb dX11_doingOf_8 ?_
  refine lv_iadd hx hb dX11_doingOf_9 ?_
  exact hw_rRI hx hb hr hlk hm dX11_doingOf_10
set_option maxRecDepth 100000 in
theorem c11_doingOf (l : Launch) (D : hw_D) {l0 : Int32} {l1 : Int32} {r : Int32} (hm : m11_doingOf l0 l1 = some r) : Met l yX11_doingOf (Cond.code yX11_doingOf cX11_doingOf 2 (some .int) :: wsL_law) rm11_doingOf (hw_P0 D [.int l0, .int l1]) (hw_RI r) 0 0 hw_nof := by
  refine hw_start0 (by decide +kernel) (by exact Nat.le_of_ble_eq_true rfl) ?_
  intro p e s m below meth c ls C0 hl
  have hl : lv_has ls 2 [(0, .int l0), (1, .int l1)] := by exact hl
  exact w11_doingOf_s hm C0 ⟨hl, (List.forall_mem_cons.mpr ⟨(fun h => absurd (show (1 : Nat) = 2 from h) (by decide)), (List.forall_mem_cons.mpr ⟨(fun h => absurd (show (1 : Nat) = 2 from h) (by decide)), (fun _ h => absurd h List.not_mem_nil)⟩)⟩)⟩

abbrev rm11_pick : Room := { frames := 0, cells := 0, slots := 0, locals := 0 }
def m11_pick_b16 (t0 : Int32) : Option Int32 :=
  some t0
set_option maxRecDepth 100000 in
theorem w11_pick_b16 {p : Program} {l : Launch} {e : Env} {s : State} {m : MethodId} {args : Array Value} {below : List Frame} {meth : Method} {c : Code} {D : hw_D} {r : Int32} (C0 : hw_C p s m args meth c D yX11_pick cX11_pick 4 (some .int)) {t0 : Int32} (hm : m11_pick_b16 t0 = some r) {ls : Array Slot} (hl : hw_L ls 4 255 []) : W p l e rm11_pick s m args below meth c s.heap [] 0 0 (MQ below (hw_RI r) args s 0 0 hw_nof) (F0 m 16 ls [.int t0]) := by
  obtain ⟨hx, hb, hml, hr, hown, hts, hlk, hE, hnm⟩ := id C0
  have hown : s.vm.findClass RX11 = some m.cls := hown
  unfold m11_pick_b16 at hm
  exact hw_rRI hx hb hr hlk hm dX11_pick_16
def m11_pick (l0 : Int32) (l1 : Int32) (l2 : Int32) (l3 : Int32) : Option Int32 :=
  (if l0 = 0 then
  some l1
  else
  (if l0 = (1 : Int32) then
  m11_pick_b16 l2
  else
  m11_pick_b16 l3))
set_option maxRecDepth 100000 in
theorem w11_pick_s {p : Program} {l : Launch} {e : Env} {s : State} {m : MethodId} {args : Array Value} {below : List Frame} {meth : Method} {c : Code} {D : hw_D} {l0 : Int32} {l1 : Int32} {l2 : Int32} {l3 : Int32} {r : Int32} (hm : m11_pick l0 l1 l2 l3 = some r) (C0 : hw_C p s m args meth c D yX11_pick cX11_pick 4 (some .int)) {ls : Array Slot} (hl : hw_L ls 4 255 [(0, .int l0), (1, .int l1), (2, .int l2), (3, .int l3)]) : W p l e rm11_pick s m args below meth c s.heap [] 0 0 (MQ below (hw_RI r) args s 0 0 hw_nof) (F0 m 0 ls []) := by
  obtain ⟨hx, hb, hml, hr, hown, hts, hlk, hE, hnm⟩ := id C0
  have hown : s.vm.findClass RX11 = some m.cls := hown
  unfold m11_pick at hm
  refine lv_iload_n hx hb dX11_pick_0 rfl (hl.at 0 rfl) ?_
  refine lv_if_ne (tgt := 6) hx hb dX11_pick_1 (by decide) (fun c1 => ?_) (fun c1 => ?_)
  · have hm := hw_in hm c1
    refine lv_iload_n hx hb dX11_pick_6 rfl (hl.at 0 rfl) ?_
    refine lv_iconst (v := 1) hx hb dX11_pick_7 (by decide) ?_
    refine lv_icmp_ne (tgt := 15) hx hb dX11_pick_8 (by decide) (fun c8 => ?_) (fun c8 => ?_)
    · have hm := hw_in hm c8
      refine lv_iload_n hx hb dX11_pick_15 rfl (hl.at 3 rfl) ?_
      exact w11_pick_b16 C0 hm (hl.sub [] rfl)
    · have hm := hw_ip hm c8
      refine lv_iload_n hx hb dX11_pick_11 rfl (hl.at 2 rfl) ?_
      refine lv_goto (tgt := 16) hx hb dX11_pick_12 (by decide) ?_
      exact w11_pick_b16 C0 hm (hl.sub [] rfl)
  · have hm := hw_ip hm c1
    refine lv_iload_n hx hb dX11_pick_4 rfl (hl.at 1 rfl) ?_
    exact hw_rRI hx hb hr hlk hm dX11_pick_5
set_option maxRecDepth 100000 in
theorem c11_pick (l : Launch) (D : hw_D) {l0 : Int32} {l1 : Int32} {l2 : Int32} {l3 : Int32} {r : Int32} (hm : m11_pick l0 l1 l2 l3 = some r) : Met l yX11_pick (Cond.code yX11_pick cX11_pick 4 (some .int) :: wsL_law) rm11_pick (hw_P0 D [.int l0, .int l1, .int l2, .int l3]) (hw_RI r) 0 0 hw_nof := by
  refine hw_start0 (by decide +kernel) (by exact Nat.le_of_ble_eq_true rfl) ?_
  intro p e s m below meth c ls C0 hl
  have hl : lv_has ls 4 [(0, .int l0), (1, .int l1), (2, .int l2), (3, .int l3)] := by exact hl
  exact w11_pick_s hm C0 ⟨hl, (List.forall_mem_cons.mpr ⟨(fun h => absurd (show (1 : Nat) = 2 from h) (by decide)), (List.forall_mem_cons.mpr ⟨(fun h => absurd (show (1 : Nat) = 2 from h) (by decide)), (List.forall_mem_cons.mpr ⟨(fun h => absurd (show (1 : Nat) = 2 from h) (by decide)), (List.forall_mem_cons.mpr ⟨(fun h => absurd (show (1 : Nat) = 2 from h) (by decide)), (fun _ h => absurd h List.not_mem_nil)⟩)⟩)⟩)⟩)⟩

abbrev rm11_isForm : Room := { frames := 1, cells := 0, slots := 0, locals := 22 }
def m11_isForm (l0 : Int32) : Option Int32 :=
  (m11_isWithin l0 (0 : Int32) (4 : Int32)).bind fun v3 =>
  (hw_tf v3).bind fun _ =>
  some v3
set_option maxRecDepth 100000 in
theorem w11_isForm_s {p : Program} {l : Launch} {e : Env} {s : State} {m : MethodId} {args : Array Value} {below : List Frame} {meth : Method} {c : Code} {D : hw_D} {l0 : Int32} {r : Int32} (hm : m11_isForm l0 = some r) (C0 : hw_C p s m args meth c D yX11_isForm cX11_isForm 1 (some .boolean)) {ls : Array Slot} (hl : hw_L ls 1 255 [(0, .int l0)]) : W p l e rm11_isForm s m args below meth c s.heap [] 0 0 (MQ below (hw_RI r) args s 0 0 hw_nof) (F0 m 0 ls []) := by
  obtain ⟨hx, hb, hml, hr, hown, hts, hlk, hE, hnm⟩ := id C0
  have hown : s.vm.findClass RX11 = some m.cls := hown
  unfold m11_isForm at hm
  refine lv_iload_n hx hb dX11_isForm_0 rfl (hl.at 0 rfl) ?_
  refine lv_iconst (v := 0) hx hb dX11_isForm_1 (by decide) ?_
  refine lv_iconst (v := 4) hx hb dX11_isForm_2 (by decide) ?_
  obtain ⟨v3, e3, hm⟩ := hw_bs hm
  refine hw_cRI (va_runS (As := [.int l0, .int (0 : Int32), .int (4 : Int32)]) (rest := []) ⟨hx, hb, hml, hown, hts⟩ (c11_isWithin l D e3) (cwS 3 hts (hw_gS hw_m99 hw_m100 hw_m2 hw_m101) rfl rfl rfl (by decide +kernel) ⟨(Nat.le_of_ble_eq_true rfl), (Nat.le_of_ble_eq_true rfl)⟩) (hw_pre0 hE) rfl rfl hl.sz rfl (lv_room (Nat.le_of_ble_eq_true rfl)) dX11_isForm_3 ⟨(Nat.le_of_ble_eq_true rfl), (Nat.le_of_ble_eq_true rfl)⟩) ?_
  obtain ⟨_, z6, hm⟩ := hw_bs hm
  exact hw_rRZ hx hb hr hlk z6 hm dX11_isForm_6
set_option maxRecDepth 100000 in
theorem c11_isForm (l : Launch) (D : hw_D) {l0 : Int32} {r : Int32} (hm : m11_isForm l0 = some r) : Met l yX11_isForm (Cond.code yX11_isForm cX11_isForm 1 (some .boolean) :: wsL_law) rm11_isForm (hw_P0 D [.int l0]) (hw_RI r) 0 0 hw_nof := by
  refine hw_start0 (by decide +kernel) (by exact Nat.le_of_ble_eq_true rfl) ?_
  intro p e s m below meth c ls C0 hl
  have hl : lv_has ls 1 [(0, .int l0)] := by exact hl
  exact w11_isForm_s hm C0 ⟨hl, (List.forall_mem_cons.mpr ⟨(fun h => absurd (show (1 : Nat) = 2 from h) (by decide)), (fun _ h => absurd h List.not_mem_nil)⟩)⟩
