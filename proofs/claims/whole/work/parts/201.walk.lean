abbrev rm4_isTest : Room := { frames := 2, cells := 0, slots := 0, locals := 43 }
def m4_isTest (x0 : Nat) (σ : hw_S) : Option (Int32 × hw_S) :=
  (hw_rv (hw_q 4) (some x0) σ).bind fun a1 =>
  (m4_ahead x0 σ).bind fun v1 =>
  (m4_aboutOf v1).bind fun v4 =>
  (if 0 ≤ v4 then
  (hw_gI (hw_q 4) 2 (some x0) σ).bind fun v16 =>
  (hw_pI (hw_q 4) 2 (some x0) (v16 + (1 : Int32)) σ).bind fun σ21 =>
  (hw_rv (hw_q 4) (some x0) σ21).bind fun a25 =>
  (m4_ahead x0 σ21).bind fun v25 =>
  (m4_signOf v25).bind fun v28 =>
  (if 0 ≤ v28 then
  (hw_gI (hw_q 4) 2 (some x0) σ21).bind fun v40 =>
  (hw_pI (hw_q 4) 2 (some x0) (v40 + (1 : Int32)) σ21).bind fun σ45 =>
  (hw_rv (hw_q 4) (some x0) σ45).bind fun a49 =>
  hw_b2 (m4_number x0 σ45) fun v49 σ49 =>
  (if 0 ≤ v49 then
  (hw_rv (hw_q 4) (some x0) σ49).bind fun a75 =>
  (m4_add x0 ((((0 : Int32) ||| (v4 <<< ((3 : Int32) &&& 31))) ||| (v28 <<< ((6 : Int32) &&& 31))) ||| (v49 <<< ((8 : Int32) &&& 31))) σ49).bind fun σ75 =>
  (hw_tf (1 : Int32)).bind fun _ =>
  some ((1 : Int32), σ75)
  else
  (hw_tf (0 : Int32)).bind fun _ =>
  some ((0 : Int32), σ49))
  else
  (hw_tf (0 : Int32)).bind fun _ =>
  some ((0 : Int32), σ21))
  else
  (hw_tf (0 : Int32)).bind fun _ =>
  some ((0 : Int32), σ))
set_option maxRecDepth 100000 in
theorem w4_isTest_s {p : Program} {l : Launch} {e : Env} {s : State} {m : MethodId} {args : Array Value} {below : List Frame} {meth : Method} {c : Code} {D : hw_D} {b : Nat} {x0 : Nat} {σ : hw_S} {r : Int32} {τ : hw_S} {H : Heap} {locs : List Loc} (hm : m4_isTest x0 σ = some (r, τ)) (C0 : hw_C p s m args meth c D yX4_isTest cX4_isTest 4 (some .boolean)) (hR : hw_R D b σ H) (hS : va_S (fun q => b ≤ q) s.heap H locs) {ls : Array Slot} (hl : hw_L ls 4 255 [(0, hw_vr b (some x0))]) : W p l e rm4_isTest s m args below meth c H locs 0 0 (MQ below (hw_QI D b τ r) args s 0 0 (fun q => b ≤ q)) (F0 m 0 ls []) := by
  obtain ⟨hx, hb, hml, hr, hown, hts, hlk, hE, hnm⟩ := id C0
  have hown : s.vm.findClass RX4 = some m.cls := hown
  have hK := hE.1
  unfold m4_isTest at hm
  refine hw_aload_n hx hb dX4_isTest_0 rfl (hl.at 0 rfl) ?_
  obtain ⟨a1, g1, hm⟩ := hw_bs hm
  obtain ⟨rfl, ht1⟩ := hw_rv_th g1
  obtain ⟨v1, e1, hm⟩ := hw_bs hm
  refine hw_cRI (va_runV (As := []) (rest := []) ⟨hx, hb, hml, hown, hts⟩ (c4_ahead l D b e1) (cwV 0 hts (hw_gV hw_m163 hw_m164 hw_m165 hw_m21 hw_m166) rfl rfl rfl (by decide +kernel) ⟨(Nat.le_of_ble_eq_true rfl), (Nat.le_of_ble_eq_true rfl)⟩) (hw_preV (ci := 4) hE hR rfl (by decide) (hw_q_of ht1)) rfl rfl hl.sz rfl (lv_room (Nat.le_of_ble_eq_true rfl)) dX4_isTest_1 ⟨(Nat.le_of_ble_eq_true rfl), (Nat.le_of_ble_eq_true rfl)⟩) ?_
  obtain ⟨v4, e4, hm⟩ := hw_bs hm
  refine hw_cRI (va_runS (As := [.int v1]) (rest := []) ⟨hx, hb, hml, hown, hts⟩ (c4_aboutOf l D e4) (cwS 1 hts (hw_gS hw_m255 hw_m256 hw_m21 hw_m257) rfl rfl rfl (by decide +kernel) ⟨(Nat.le_of_ble_eq_true rfl), (Nat.le_of_ble_eq_true rfl)⟩) (hw_pre0 hE) rfl rfl hl.sz rfl (lv_room (Nat.le_of_ble_eq_true rfl)) dX4_isTest_4 ⟨(Nat.le_of_ble_eq_true rfl), (Nat.le_of_ble_eq_true rfl)⟩) ?_
  refine hw_istore_n (lv' := [(1, .int v4), (0, hw_vr b (some x0))]) hx hb dX4_isTest_7 rfl hl (by decide) (by decide) rfl (fun ls hl => ?_)
  refine lv_iload_n hx hb dX4_isTest_8 rfl (hl.at 0 rfl) ?_
  refine lv_if_ge (tgt := 14) hx hb dX4_isTest_9 (by decide) (fun c9 => ?_) (fun c9 => ?_)
  · have hm := hw_ip hm c9
    refine hw_aload_n hx hb dX4_isTest_14 rfl (hl.at 1 rfl) ?_
    refine lv_dup hx hb dX4_isTest_15 (hw_vr_cat _ _) ?_
    obtain ⟨v16, e16, hm⟩ := hw_bs hm
    refine hw_getI hx hb hw_cf4 hts hown hK hR e16 (by decide) rfl (hts _ hw_m61) (fun _ h9 => h9) dX4_isTest_16 ?_
    refine lv_iconst (v := 1) hx hb dX4_isTest_19 (by decide) ?_
    refine lv_iadd hx hb dX4_isTest_20 ?_
    obtain ⟨σ21, e21, hm⟩ := hw_bs hm
    refine hw_putI hx hb hw_cf4 hts hown hK hR hS e21 (by decide) rfl rfl (hts _ hw_m61) (fun _ h9 => h9) (Or.inl rfl) dX4_isTest_21 (fun _ _ hR hS => ?_)
    refine hw_aload_n hx hb dX4_isTest_24 rfl (hl.at 1 rfl) ?_
    obtain ⟨a25, g25, hm⟩ := hw_bs hm
    obtain ⟨rfl, ht25⟩ := hw_rv_th g25
    obtain ⟨v25, e25, hm⟩ := hw_bs hm
    refine hw_cRI (va_runV (As := []) (rest := []) ⟨hx, hb, hml, hown, hts⟩ (c4_ahead l D b e25) (cwV 0 hts (hw_gV hw_m163 hw_m164 hw_m165 hw_m21 hw_m166) rfl rfl rfl (by decide +kernel) ⟨(Nat.le_of_ble_eq_true rfl), (Nat.le_of_ble_eq_true rfl)⟩) (hw_preV (ci := 4) hE hR rfl (by decide) (hw_q_of ht25)) rfl rfl hl.sz rfl (lv_room (Nat.le_of_ble_eq_true rfl)) dX4_isTest_25 ⟨(Nat.le_of_ble_eq_true rfl), (Nat.le_of_ble_eq_true rfl)⟩) ?_
    obtain ⟨v28, e28, hm⟩ := hw_bs hm
    refine hw_cRI (va_runS (As := [.int v25]) (rest := []) ⟨hx, hb, hml, hown, hts⟩ (c4_signOf l D e28) (cwS 1 hts (hw_gS hw_m258 hw_m259 hw_m21 hw_m260) rfl rfl rfl (by decide +kernel) ⟨(Nat.le_of_ble_eq_true rfl), (Nat.le_of_ble_eq_true rfl)⟩) (hw_pre0 hE) rfl rfl hl.sz rfl (lv_room (Nat.le_of_ble_eq_true rfl)) dX4_isTest_28 ⟨(Nat.le_of_ble_eq_true rfl), (Nat.le_of_ble_eq_true rfl)⟩) ?_
    refine hw_istore_n (lv' := [(2, .int v28), (1, .int v4), (0, hw_vr b (some x0))]) hx hb dX4_isTest_31 rfl hl (by decide) (by decide) rfl (fun ls hl => ?_)
    refine lv_iload_n hx hb dX4_isTest_32 rfl (hl.at 0 rfl) ?_
    refine lv_if_ge (tgt := 38) hx hb dX4_isTest_33 (by decide) (fun c33 => ?_) (fun c33 => ?_)
    · have hm := hw_ip hm c33
      refine hw_aload_n hx hb dX4_isTest_38 rfl (hl.at 2 rfl) ?_
      refine lv_dup hx hb dX4_isTest_39 (hw_vr_cat _ _) ?_
      obtain ⟨v40, e40, hm⟩ := hw_bs hm
      refine hw_getI hx hb hw_cf4 hts hown hK hR e40 (by decide) rfl (hts _ hw_m61) (fun _ h9 => h9) dX4_isTest_40 ?_
      refine lv_iconst (v := 1) hx hb dX4_isTest_43 (by decide) ?_
      refine lv_iadd hx hb dX4_isTest_44 ?_
      obtain ⟨σ45, e45, hm⟩ := hw_bs hm
      refine hw_putI hx hb hw_cf4 hts hown hK hR hS e45 (by decide) rfl rfl (hts _ hw_m61) (fun _ h9 => h9) (Or.inl rfl) dX4_isTest_45 (fun _ _ hR hS => ?_)
      refine hw_aload_n hx hb dX4_isTest_48 rfl (hl.at 2 rfl) ?_
      obtain ⟨a49, g49, hm⟩ := hw_bs hm
      obtain ⟨rfl, ht49⟩ := hw_rv_th g49
      obtain ⟨v49, σ49, e49, hm⟩ := hw_bs2 hm
      refine hw_cWI (va_runV (As := []) (rest := []) ⟨hx, hb, hml, hown, hts⟩ (c4_number l D b e49) (cwV 0 hts (hw_gV hw_m231 hw_m232 hw_m233 hw_m21 hw_m234) rfl rfl rfl (by decide +kernel) ⟨(Nat.le_of_ble_eq_true rfl), (Nat.le_of_ble_eq_true rfl)⟩) (hw_preV (ci := 4) hE hR rfl (by decide) (hw_q_of ht49)) rfl rfl hl.sz rfl (lv_room (Nat.le_of_ble_eq_true rfl)) dX4_isTest_49 ⟨(Nat.le_of_ble_eq_true rfl), (Nat.le_of_ble_eq_true rfl)⟩) hS (fun _ _ hR hS => ?_)
      refine hw_istore_n (lv' := [(3, .int v49), (2, .int v28), (1, .int v4), (0, hw_vr b (some x0))]) hx hb dX4_isTest_52 rfl hl (by decide) (by decide) rfl (fun ls hl => ?_)
      refine lv_iload_n hx hb dX4_isTest_53 rfl (hl.at 0 rfl) ?_
      refine lv_if_ge (tgt := 59) hx hb dX4_isTest_54 (by decide) (fun c54 => ?_) (fun c54 => ?_)
      · have hm := hw_ip hm c54
        refine hw_aload_n hx hb dX4_isTest_59 rfl (hl.at 3 rfl) ?_
        refine lv_iconst (v := 0) hx hb dX4_isTest_60 (by decide) ?_
        refine lv_iload_n hx hb dX4_isTest_61 rfl (hl.at 2 rfl) ?_
        refine lv_iconst (v := 3) hx hb dX4_isTest_62 (by decide) ?_
        refine lv_ishl hx hb dX4_isTest_63 ?_
        refine lv_ior hx hb dX4_isTest_64 ?_
        refine lv_iload_n hx hb dX4_isTest_65 rfl (hl.at 1 rfl) ?_
        refine lv_bipush (v := 6) hx hb dX4_isTest_66 (by decide) ?_
        refine lv_ishl hx hb dX4_isTest_68 ?_
        refine lv_ior hx hb dX4_isTest_69 ?_
        refine lv_iload_n hx hb dX4_isTest_70 rfl (hl.at 0 rfl) ?_
        refine lv_bipush (v := 8) hx hb dX4_isTest_71 (by decide) ?_
        refine lv_ishl hx hb dX4_isTest_73 ?_
        refine lv_ior hx hb dX4_isTest_74 ?_
        obtain ⟨a75, g75, hm⟩ := hw_bs hm
        obtain ⟨rfl, ht75⟩ := hw_rv_th g75
        obtain ⟨σ75, e75, hm⟩ := hw_bs hm
        refine hw_cWV (va_runV (As := [.int ((((0 : Int32) ||| (v4 <<< ((3 : Int32) &&& 31))) ||| (v28 <<< ((6 : Int32) &&& 31))) ||| (v49 <<< ((8 : Int32) &&& 31)))]) (rest := []) ⟨hx, hb, hml, hown, hts⟩ (c4_add l D b e75) (cwV 1 hts (hw_gV hw_m242 hw_m243 hw_m244 hw_m21 hw_m245) rfl rfl rfl (by decide +kernel) ⟨(Nat.le_of_ble_eq_true rfl), (Nat.le_of_ble_eq_true rfl)⟩) (hw_preV (ci := 4) hE hR rfl (by decide) (hw_q_of ht75)) rfl rfl hl.sz rfl (lv_room (Nat.le_of_ble_eq_true rfl)) dX4_isTest_75 ⟨(Nat.le_of_ble_eq_true rfl), (Nat.le_of_ble_eq_true rfl)⟩) hS (fun _ _ hR hS => ?_)
        refine lv_iconst (v := 1) hx hb dX4_isTest_78 (by decide) ?_
        obtain ⟨_, z79, hm⟩ := hw_bs hm
        exact hw_rWZ hx hb hr hlk hR hS z79 hm dX4_isTest_79
      · have hm := hw_in hm c54
        refine lv_iconst (v := 0) hx hb dX4_isTest_57 (by decide) ?_
        obtain ⟨_, z58, hm⟩ := hw_bs hm
        exact hw_rWZ hx hb hr hlk hR hS z58 hm dX4_isTest_58
    · have hm := hw_in hm c33
      refine lv_iconst (v := 0) hx hb dX4_isTest_36 (by decide) ?_
      obtain ⟨_, z37, hm⟩ := hw_bs hm
      exact hw_rWZ hx hb hr hlk hR hS z37 hm dX4_isTest_37
  · have hm := hw_in hm c9
    refine lv_iconst (v := 0) hx hb dX4_isTest_12 (by decide) ?_
    obtain ⟨_, z13, hm⟩ := hw_bs hm
    exact hw_rWZ hx hb hr hlk hR hS z13 hm dX4_isTest_13
set_option maxRecDepth 100000 in
theorem c4_isTest (l : Launch) (D : hw_D) (b : Nat) {x0 : Nat} {σ : hw_S} {r : Int32} {τ : hw_S} (hm : m4_isTest x0 σ = some (r, τ)) : Met l yX4_isTest (Cond.code yX4_isTest cX4_isTest 4 (some .boolean) :: wsL_law) rm4_isTest (hw_P1 D b σ [hw_vr b (some x0)]) (hw_QI D b τ r) 0 0 (fun q => b ≤ q) := by
  refine hw_start1 (by decide +kernel) (by exact Nat.le_of_ble_eq_true rfl) ?_
  intro p e s m below meth c ls C0 hR hS hl
  have hl : lv_has ls 4 [(0, hw_vr b (some x0))] := by exact hl
  exact w4_isTest_s hm C0 hR hS ⟨hl, (List.forall_mem_cons.mpr ⟨(fun h => by rw [show (hw_vr b (some x0) : Value).category = 1 from (hw_vr_cat _ _)] at h; cases h), (fun _ h => absurd h List.not_mem_nil)⟩)⟩

abbrev rm4_isAll (RF RL : Nat) : Room := { frames := RF + 2, cells := 0, slots := 0, locals := RL + 41 }
def m4_isAll_b48 (kP : Nat → Int32 → hw_S → Option (Int32 × hw_S)) (x0 : Nat) (σ : hw_S) : Option (Int32 × hw_S) :=
  (hw_tf (1 : Int32)).bind fun _ =>
  some ((1 : Int32), σ)
set_option maxRecDepth 100000 in
theorem w4_isAll_b48 {p : Program} {l : Launch} {e : Env} {s : State} {m : MethodId} {args : Array Value} {below : List Frame} {meth : Method} {c : Code} {D : hw_D} {b : Nat} {RF RL : Nat} {kP : Nat → Int32 → hw_S → Option (Int32 × hw_S)} {r : Int32} {τ : hw_S} (C0 : hw_C p s m args meth c D yX4_isAll cX4_isAll 3 (some .boolean)) (hP : ∀ {x0 : Nat} {l1 : Int32} {σ : hw_S} {r : Int32} {τ : hw_S}, kP x0 l1 σ = some (r, τ) → Met l yX4_isPart (Cond.code yX4_isPart cX4_isPart 2 (some .boolean) :: wsL_law) (hw_rk RF RL) (hw_P1 D b σ [hw_vr b (some x0), .int l1]) (hw_QI D b τ r) 0 0 (fun q => b ≤ q)) {x0 : Nat} {σ : hw_S} {H : Heap} {locs : List Loc} (hm : m4_isAll_b48 kP x0 σ = some (r, τ)) (hR : hw_R D b σ H) (hS : va_S (fun q => b ≤ q) s.heap H locs) {ls : Array Slot} (hl : hw_L ls 3 255 [(0, hw_vr b (some x0))]) : W p l e (rm4_isAll RF RL) s m args below meth c H locs 0 0 (MQ below (hw_QI D b τ r) args s 0 0 (fun q => b ≤ q)) (F0 m 48 ls []) := by
  obtain ⟨hx, hb, hml, hr, hown, hts, hlk, hE, hnm⟩ := id C0
  have hown : s.vm.findClass RX4 = some m.cls := hown
  have hK := hE.1
  unfold m4_isAll_b48 at hm
  refine lv_iconst (v := 1) hx hb dX4_isAll_48 (by decide) ?_
  obtain ⟨_, z49, hm⟩ := hw_bs hm
  exact hw_rWZ hx hb hr hlk hR hS z49 hm dX4_isAll_49
def m4_isAll_b12 (kP : Nat → Int32 → hw_S → Option (Int32 × hw_S)) : Nat → Nat → Int32 → Int32 → hw_S → Option (Int32 × hw_S)
  | 0, _, _, _, _ => none
  | n + 1, x0, l1, l2, σ =>
  (if (120 : Int32) ≤ l2 then
  m4_isAll_b48 kP x0 σ
  else
  (hw_rv (hw_q 4) (some x0) σ).bind fun a21 =>
  hw_b2 (m4_comes x0 (38 : Int32) σ) fun v21 σ21 =>
  (if v21 = 0 then
  m4_isAll_b48 kP x0 σ21
  else
  (hw_rv (hw_q 4) (some x0) σ21).bind fun a29 =>
  hw_b2 (kP x0 l1 σ21) fun v29 σ29 =>
  (if v29 = 0 then
  (hw_tf (0 : Int32)).bind fun _ =>
  some ((0 : Int32), σ29)
  else
  (hw_rv (hw_q 4) (some x0) σ29).bind fun a39 =>
  (m4_add x0 (2 : Int32) σ29).bind fun σ39 =>
  m4_isAll_b12 kP n x0 l1 (l2 + 1) σ39)))
set_option maxRecDepth 100000 in
theorem w4_isAll_b12 {p : Program} {l : Launch} {e : Env} {s : State} {m : MethodId} {args : Array Value} {below : List Frame} {meth : Method} {c : Code} {D : hw_D} {b : Nat} {RF RL : Nat} {kP : Nat → Int32 → hw_S → Option (Int32 × hw_S)} {r : Int32} {τ : hw_S} (C0 : hw_C p s m args meth c D yX4_isAll cX4_isAll 3 (some .boolean)) (hP : ∀ {x0 : Nat} {l1 : Int32} {σ : hw_S} {r : Int32} {τ : hw_S}, kP x0 l1 σ = some (r, τ) → Met l yX4_isPart (Cond.code yX4_isPart cX4_isPart 2 (some .boolean) :: wsL_law) (hw_rk RF RL) (hw_P1 D b σ [hw_vr b (some x0), .int l1]) (hw_QI D b τ r) 0 0 (fun q => b ≤ q)) : ∀ (n : Nat) {x0 : Nat} {l1 : Int32} {l2 : Int32} {σ : hw_S} {H : Heap} {locs : List Loc} {ls : Array Slot}, m4_isAll_b12 kP n x0 l1 l2 σ = some (r, τ) → hw_R D b σ H → va_S (fun q => b ≤ q) s.heap H locs → hw_L ls 3 255 [(0, hw_vr b (some x0)), (1, .int l1), (2, .int l2)] → W p l e (rm4_isAll RF RL) s m args below meth c H locs 0 0 (MQ below (hw_QI D b τ r) args s 0 0 (fun q => b ≤ q)) (F0 m 12 ls []) := by
  obtain ⟨hx, hb, hml, hr, hown, hts, hlk, hE, hnm⟩ := id C0
  have hown : s.vm.findClass RX4 = some m.cls := hown
  have hK := hE.1
  intro n
  induction n with
  | zero => intro _ _ _ _ _ _ _ hm; cases hm
  | succ n ih =>
    intro x0 l1 l2 σ H locs ls hm hR hS hl
    rw [m4_isAll_b12] at hm
    refine lv_iload_n hx hb dX4_isAll_12 rfl (hl.at 2 rfl) ?_
    refine lv_bipush (v := 120) hx hb dX4_isAll_13 (by decide) ?_
    refine lv_icmp_ge (tgt := 48) hx hb dX4_isAll_15 (by decide) (fun c15 => ?_) (fun c15 => ?_)
    · have hm := hw_ip hm c15
      exact w4_isAll_b48 C0 hP hm hR hS (hl.sub [0] rfl)
    · have hm := hw_in hm c15
      refine hw_aload_n hx hb dX4_isAll_18 rfl (hl.at 0 rfl) ?_
      refine lv_bipush (v := 38) hx hb dX4_isAll_19 (by decide) ?_
      obtain ⟨a21, g21, hm⟩ := hw_bs hm
      obtain ⟨rfl, ht21⟩ := hw_rv_th g21
      obtain ⟨v21, σ21, e21, hm⟩ := hw_bs2 hm
      refine hw_cWI (va_runV (As := [.int (38 : Int32)]) (rest := []) ⟨hx, hb, hml, hown, hts⟩ (c4_comes l D b e21) (cwV 1 hts (hw_gV hw_m223 hw_m224 hw_m225 hw_m21 hw_m226) rfl rfl rfl (by decide +kernel) ⟨(by first | (dsimp only [hw_rk, rm4_add, rm4_comes, rm4_isAll]; omega) | dsimp only [hw_rk, rm4_add, rm4_comes, rm4_isAll]), (by first | (dsimp only [hw_rk, rm4_add, rm4_comes, rm4_isAll]; omega) | dsimp only [hw_rk, rm4_add, rm4_comes, rm4_isAll])⟩) (hw_preV (ci := 4) hE hR rfl (by decide) (hw_q_of ht21)) rfl rfl hl.sz rfl (lv_room (Nat.le_of_ble_eq_true rfl)) dX4_isAll_21 ⟨(Nat.le_of_ble_eq_true rfl), (Nat.le_of_ble_eq_true rfl)⟩) hS (fun _ _ hR hS => ?_)
      refine lv_if_eq (tgt := 48) hx hb dX4_isAll_24 (by decide) (fun c24 => ?_) (fun c24 => ?_)
      · have hm := hw_ip hm c24
        exact w4_isAll_b48 C0 hP hm hR hS (hl.sub [0] rfl)
      · have hm := hw_in hm c24
        refine hw_aload_n hx hb dX4_isAll_27 rfl (hl.at 0 rfl) ?_
        refine lv_iload_n hx hb dX4_isAll_28 rfl (hl.at 1 rfl) ?_
        obtain ⟨a29, g29, hm⟩ := hw_bs hm
        obtain ⟨rfl, ht29⟩ := hw_rv_th g29
        obtain ⟨v29, σ29, e29, hm⟩ := hw_bs2 hm
        refine hw_cWI (va_runV (As := [.int l1]) (rest := []) ⟨hx, hb, hml, hown, hts⟩ (hP e29) (cwV 1 hts (hw_gV hw_m247 hw_m248 hw_m249 hw_m21 hw_m250) rfl rfl rfl (by decide +kernel) ⟨(by first | (dsimp only [hw_rk, rm4_add, rm4_comes, rm4_isAll]; omega) | dsimp only [hw_rk, rm4_add, rm4_comes, rm4_isAll]), (by first | (dsimp only [hw_rk, rm4_add, rm4_comes, rm4_isAll]; omega) | dsimp only [hw_rk, rm4_add, rm4_comes, rm4_isAll])⟩) (hw_preV (ci := 4) hE hR rfl (by decide) (hw_q_of ht29)) rfl rfl hl.sz rfl (lv_room (Nat.le_of_ble_eq_true rfl)) dX4_isAll_29 ⟨(Nat.le_of_ble_eq_true rfl), (Nat.le_of_ble_eq_true rfl)⟩) hS (fun _ _ hR hS => ?_)
        refine lv_if_ne (tgt := 37) hx hb dX4_isAll_32 (by decide) (fun c32 => ?_) (fun c32 => ?_)
        · have hm := hw_in hm c32
          refine hw_aload_n hx hb dX4_isAll_37 rfl (hl.at 0 rfl) ?_
          refine lv_iconst (v := 2) hx hb dX4_isAll_38 (by decide) ?_
          obtain ⟨a39, g39, hm⟩ := hw_bs hm
          obtain ⟨rfl, ht39⟩ := hw_rv_th g39
          obtain ⟨σ39, e39, hm⟩ := hw_bs hm
          refine hw_cWV (va_runV (As := [.int (2 : Int32)]) (rest := []) ⟨hx, hb, hml, hown, hts⟩ (c4_add l D b e39) (cwV 1 hts (hw_gV hw_m242 hw_m243 hw_m244 hw_m21 hw_m245) rfl rfl rfl (by decide +kernel) ⟨(by first | (dsimp only [hw_rk, rm4_add, rm4_comes, rm4_isAll]; omega) | dsimp only [hw_rk, rm4_add, rm4_comes, rm4_isAll]), (by first | (dsimp only [hw_rk, rm4_add, rm4_comes, rm4_isAll]; omega) | dsimp only [hw_rk, rm4_add, rm4_comes, rm4_isAll])⟩) (hw_preV (ci := 4) hE hR rfl (by decide) (hw_q_of ht39)) rfl rfl hl.sz rfl (lv_room (Nat.le_of_ble_eq_true rfl)) dX4_isAll_39 ⟨(Nat.le_of_ble_eq_true rfl), (Nat.le_of_ble_eq_true rfl)⟩) hS (fun _ _ hR hS => ?_)
          refine hw_iinc (v := (l2 + 1)) (lv' := [(2, .int (l2 + 1)), (0, hw_vr b (some x0)), (1, .int l1)]) hx hb dX4_isAll_42 hl (k := 2) rfl rfl (by decide) (by decide) rfl (fun ls hl => ?_)
          refine lv_goto (tgt := 12) hx hb dX4_isAll_45 (by decide) ?_
          exact ih hm hR hS (hl.sub [1, 2, 0] rfl)
        · have hm := hw_ip hm c32
          refine lv_iconst (v := 0) hx hb dX4_isAll_35 (by decide) ?_
          obtain ⟨_, z36, hm⟩ := hw_bs hm
          exact hw_rWZ hx hb hr hlk hR hS z36 hm dX4_isAll_36
def m4_isAll (kP : Nat → Int32 → hw_S → Option (Int32 × hw_S)) (x0 : Nat) (l1 : Int32) (σ : hw_S) : Option (Int32 × hw_S) :=
  (hw_rv (hw_q 4) (some x0) σ).bind fun a2 =>
  hw_b2 (kP x0 l1 σ) fun v2 σ2 =>
  (if v2 = 0 then
  (hw_tf (0 : Int32)).bind fun _ =>
  some ((0 : Int32), σ2)
  else
  m4_isAll_b12 kP hw_fu x0 l1 (0 : Int32) σ2)
set_option maxRecDepth 100000 in
theorem w4_isAll_s {p : Program} {l : Launch} {e : Env} {s : State} {m : MethodId} {args : Array Value} {below : List Frame} {meth : Method} {c : Code} {D : hw_D} {b : Nat} {RF RL : Nat} {kP : Nat → Int32 → hw_S → Option (Int32 × hw_S)} {x0 : Nat} {l1 : Int32} {σ : hw_S} {r : Int32} {τ : hw_S} {H : Heap} {locs : List Loc} (hm : m4_isAll kP x0 l1 σ = some (r, τ)) (C0 : hw_C p s m args meth c D yX4_isAll cX4_isAll 3 (some .boolean)) (hP : ∀ {x0 : Nat} {l1 : Int32} {σ : hw_S} {r : Int32} {τ : hw_S}, kP x0 l1 σ = some (r, τ) → Met l yX4_isPart (Cond.code yX4_isPart cX4_isPart 2 (some .boolean) :: wsL_law) (hw_rk RF RL) (hw_P1 D b σ [hw_vr b (some x0), .int l1]) (hw_QI D b τ r) 0 0 (fun q => b ≤ q)) (hR : hw_R D b σ H) (hS : va_S (fun q => b ≤ q) s.heap H locs) {ls : Array Slot} (hl : hw_L ls 3 255 [(0, hw_vr b (some x0)), (1, .int l1)]) : W p l e (rm4_isAll RF RL) s m args below meth c H locs 0 0 (MQ below (hw_QI D b τ r) args s 0 0 (fun q => b ≤ q)) (F0 m 0 ls []) := by
  obtain ⟨hx, hb, hml, hr, hown, hts, hlk, hE, hnm⟩ := id C0
  have hown : s.vm.findClass RX4 = some m.cls := hown
  have hK := hE.1
  unfold m4_isAll at hm
  refine hw_aload_n hx hb dX4_isAll_0 rfl (hl.at 0 rfl) ?_
  refine lv_iload_n hx hb dX4_isAll_1 rfl (hl.at 1 rfl) ?_
  obtain ⟨a2, g2, hm⟩ := hw_bs hm
  obtain ⟨rfl, ht2⟩ := hw_rv_th g2
  obtain ⟨v2, σ2, e2, hm⟩ := hw_bs2 hm
  refine hw_cWI (va_runV (As := [.int l1]) (rest := []) ⟨hx, hb, hml, hown, hts⟩ (hP e2) (cwV 1 hts (hw_gV hw_m247 hw_m248 hw_m249 hw_m21 hw_m250) rfl rfl rfl (by decide +kernel) ⟨(by first | (dsimp only [hw_rk, rm4_add, rm4_comes, rm4_isAll]; omega) | dsimp only [hw_rk, rm4_add, rm4_comes, rm4_isAll]), (by first | (dsimp only [hw_rk, rm4_add, rm4_comes, rm4_isAll]; omega) | dsimp only [hw_rk, rm4_add, rm4_comes, rm4_isAll])⟩) (hw_preV (ci := 4) hE hR rfl (by decide) (hw_q_of ht2)) rfl rfl hl.sz rfl (lv_room (Nat.le_of_ble_eq_true rfl)) dX4_isAll_2 ⟨(Nat.le_of_ble_eq_true rfl), (Nat.le_of_ble_eq_true rfl)⟩) hS (fun _ _ hR hS => ?_)
  refine lv_if_ne (tgt := 10) hx hb dX4_isAll_5 (by decide) (fun c5 => ?_) (fun c5 => ?_)
  · have hm := hw_in hm c5
    refine lv_iconst (v := 0) hx hb dX4_isAll_10 (by decide) ?_
    refine hw_istore_n (lv' := [(2, .int (0 : Int32)), (0, hw_vr b (some x0)), (1, .int l1)]) hx hb dX4_isAll_11 rfl hl (by decide) (by decide) rfl (fun ls hl => ?_)
    exact w4_isAll_b12 C0 hP hw_fu hm hR hS (hl.sub [1, 2, 0] rfl)
  · have hm := hw_ip hm c5
    refine lv_iconst (v := 0) hx hb dX4_isAll_8 (by decide) ?_
    obtain ⟨_, z9, hm⟩ := hw_bs hm
    exact hw_rWZ hx hb hr hlk hR hS z9 hm dX4_isAll_9
set_option maxRecDepth 100000 in
theorem c4_isAll (l : Launch) (D : hw_D) (b : Nat) {RF RL : Nat} {kP : Nat → Int32 → hw_S → Option (Int32 × hw_S)} (hP : ∀ {x0 : Nat} {l1 : Int32} {σ : hw_S} {r : Int32} {τ : hw_S}, kP x0 l1 σ = some (r, τ) → Met l yX4_isPart (Cond.code yX4_isPart cX4_isPart 2 (some .boolean) :: wsL_law) (hw_rk RF RL) (hw_P1 D b σ [hw_vr b (some x0), .int l1]) (hw_QI D b τ r) 0 0 (fun q => b ≤ q)) {x0 : Nat} {l1 : Int32} {σ : hw_S} {r : Int32} {τ : hw_S} (hm : m4_isAll kP x0 l1 σ = some (r, τ)) : Met l yX4_isAll (Cond.code yX4_isAll cX4_isAll 3 (some .boolean) :: wsL_law) (rm4_isAll RF RL) (hw_P1 D b σ [hw_vr b (some x0), .int l1]) (hw_QI D b τ r) 0 0 (fun q => b ≤ q) := by
  refine hw_start1 (by decide +kernel) (by exact Nat.le_of_ble_eq_true rfl) ?_
  intro p e s m below meth c ls C0 hR hS hl
  have hl : lv_has ls 3 [(0, hw_vr b (some x0)), (1, .int l1)] := by exact hl
  exact w4_isAll_s hm C0 hP hR hS ⟨hl, (List.forall_mem_cons.mpr ⟨(fun h => by rw [show (hw_vr b (some x0) : Value).category = 1 from (hw_vr_cat _ _)] at h; cases h), (List.forall_mem_cons.mpr ⟨(fun h => absurd (show (1 : Nat) = 2 from h) (by decide)), (fun _ h => absurd h List.not_mem_nil)⟩)⟩)⟩

abbrev rm4_isAny (RF RL : Nat) : Room := { frames := RF + 3, cells := 0, slots := 0, locals := RL + 63 }
def m4_isAny_b48 (kP : Nat → Int32 → hw_S → Option (Int32 × hw_S)) (x0 : Nat) (σ : hw_S) : Option (Int32 × hw_S) :=
  (hw_tf (1 : Int32)).bind fun _ =>
  some ((1 : Int32), σ)
set_option maxRecDepth 100000 in
theorem w4_isAny_b48 {p : Program} {l : Launch} {e : Env} {s : State} {m : MethodId} {args : Array Value} {below : List Frame} {meth : Method} {c : Code} {D : hw_D} {b : Nat} {RF RL : Nat} {kP : Nat → Int32 → hw_S → Option (Int32 × hw_S)} {r : Int32} {τ : hw_S} (C0 : hw_C p s m args meth c D yX4_isAny cX4_isAny 3 (some .boolean)) (hP : ∀ {x0 : Nat} {l1 : Int32} {σ : hw_S} {r : Int32} {τ : hw_S}, kP x0 l1 σ = some (r, τ) → Met l yX4_isPart (Cond.code yX4_isPart cX4_isPart 2 (some .boolean) :: wsL_law) (hw_rk RF RL) (hw_P1 D b σ [hw_vr b (some x0), .int l1]) (hw_QI D b τ r) 0 0 (fun q => b ≤ q)) {x0 : Nat} {σ : hw_S} {H : Heap} {locs : List Loc} (hm : m4_isAny_b48 kP x0 σ = some (r, τ)) (hR : hw_R D b σ H) (hS : va_S (fun q => b ≤ q) s.heap H locs) {ls : Array Slot} (hl : hw_L ls 3 255 [(0, hw_vr b (some x0))]) : W p l e (rm4_isAny RF RL) s m args below meth c H locs 0 0 (MQ below (hw_QI D b τ r) args s 0 0 (fun q => b ≤ q)) (F0 m 48 ls []) := by
  obtain ⟨hx, hb, hml, hr, hown, hts, hlk, hE, hnm⟩ := id C0
  have hown : s.vm.findClass RX4 = some m.cls := hown
  have hK := hE.1
  unfold m4_isAny_b48 at hm
  refine lv_iconst (v := 1) hx hb dX4_isAny_48 (by decide) ?_
  obtain ⟨_, z49, hm⟩ := hw_bs hm
  exact hw_rWZ hx hb hr hlk hR hS z49 hm dX4_isAny_49
def m4_isAny_b12 (kP : Nat → Int32 → hw_S → Option (Int32 × hw_S)) : Nat → Nat → Int32 → Int32 → hw_S → Option (Int32 × hw_S)
  | 0, _, _, _, _ => none
  | n + 1, x0, l1, l2, σ =>
  (if (120 : Int32) ≤ l2 then
  m4_isAny_b48 kP x0 σ
  else
  (hw_rv (hw_q 4) (some x0) σ).bind fun a21 =>
  hw_b2 (m4_comes x0 (124 : Int32) σ) fun v21 σ21 =>
  (if v21 = 0 then
  m4_isAny_b48 kP x0 σ21
  else
  (hw_rv (hw_q 4) (some x0) σ21).bind fun a29 =>
  hw_b2 (m4_isAll kP x0 l1 σ21) fun v29 σ29 =>
  (if v29 = 0 then
  (hw_tf (0 : Int32)).bind fun _ =>
  some ((0 : Int32), σ29)
  else
  (hw_rv (hw_q 4) (some x0) σ29).bind fun a39 =>
  (m4_add x0 (3 : Int32) σ29).bind fun σ39 =>
  m4_isAny_b12 kP n x0 l1 (l2 + 1) σ39)))
set_option maxRecDepth 100000 in
theorem w4_isAny_b12 {p : Program} {l : Launch} {e : Env} {s : State} {m : MethodId} {args : Array Value} {below : List Frame} {meth : Method} {c : Code} {D : hw_D} {b : Nat} {RF RL : Nat} {kP : Nat → Int32 → hw_S → Option (Int32 × hw_S)} {r : Int32} {τ : hw_S} (C0 : hw_C p s m args meth c D yX4_isAny cX4_isAny 3 (some .boolean)) (hP : ∀ {x0 : Nat} {l1 : Int32} {σ : hw_S} {r : Int32} {τ : hw_S}, kP x0 l1 σ = some (r, τ) → Met l yX4_isPart (Cond.code yX4_isPart cX4_isPart 2 (some .boolean) :: wsL_law) (hw_rk RF RL) (hw_P1 D b σ [hw_vr b (some x0), .int l1]) (hw_QI D b τ r) 0 0 (fun q => b ≤ q)) : ∀ (n : Nat) {x0 : Nat} {l1 : Int32} {l2 : Int32} {σ : hw_S} {H : Heap} {locs : List Loc} {ls : Array Slot}, m4_isAny_b12 kP n x0 l1 l2 σ = some (r, τ) → hw_R D b σ H → va_S (fun q => b ≤ q) s.heap H locs → hw_L ls 3 255 [(0, hw_vr b (some x0)), (1, .int l1), (2, .int l2)] → W p l e (rm4_isAny RF RL) s m args below meth c H locs 0 0 (MQ below (hw_QI D b τ r) args s 0 0 (fun q => b ≤ q)) (F0 m 12 ls []) := by
  obtain ⟨hx, hb, hml, hr, hown, hts, hlk, hE, hnm⟩ := id C0
  have hown : s.vm.findClass RX4 = some m.cls := hown
  have hK := hE.1
  intro n
  induction n with
  | zero => intro _ _ _ _ _ _ _ hm; cases hm
  | succ n ih =>
    intro x0 l1 l2 σ H locs ls hm hR hS hl
    rw [m4_isAny_b12] at hm
    refine lv_iload_n hx hb dX4_isAny_12 rfl (hl.at 2 rfl) ?_
    refine lv_bipush (v := 120) hx hb dX4_isAny_13 (by decide) ?_
    refine lv_icmp_ge (tgt := 48) hx hb dX4_isAny_15 (by decide) (fun c15 => ?_) (fun c15 => ?_)
    · have hm := hw_ip hm c15
      exact w4_isAny_b48 C0 hP hm hR hS (hl.sub [0] rfl)
    · have hm := hw_in hm c15
      refine hw_aload_n hx hb dX4_isAny_18 rfl (hl.at 0 rfl) ?_
      refine lv_bipush (v := 124) hx hb dX4_isAny_19 (by decide) ?_
      obtain ⟨a21, g21, hm⟩ := hw_bs hm
      obtain ⟨rfl, ht21⟩ := hw_rv_th g21
      obtain ⟨v21, σ21, e21, hm⟩ := hw_bs2 hm
      refine hw_cWI (va_runV (As := [.int (124 : Int32)]) (rest := []) ⟨hx, hb, hml, hown, hts⟩ (c4_comes l D b e21) (cwV 1 hts (hw_gV hw_m223 hw_m224 hw_m225 hw_m21 hw_m226) rfl rfl rfl (by decide +kernel) ⟨(by first | (dsimp only [hw_rk, rm4_add, rm4_comes, rm4_isAll, rm4_isAny]; omega) | dsimp only [hw_rk, rm4_add, rm4_comes, rm4_isAll, rm4_isAny]), (by first | (dsimp only [hw_rk, rm4_add, rm4_comes, rm4_isAll, rm4_isAny]; omega) | dsimp only [hw_rk, rm4_add, rm4_comes, rm4_isAll, rm4_isAny])⟩) (hw_preV (ci := 4) hE hR rfl (by decide) (hw_q_of ht21)) rfl rfl hl.sz rfl (lv_room (Nat.le_of_ble_eq_true rfl)) dX4_isAny_21 ⟨(Nat.le_of_ble_eq_true rfl), (Nat.le_of_ble_eq_true rfl)⟩) hS (fun _ _ hR hS => ?_)
      refine lv_if_eq (tgt := 48) hx hb dX4_isAny_24 (by decide) (fun c24 => ?_) (fun c24 => ?_)
      · have hm := hw_ip hm c24
        exact w4_isAny_b48 C0 hP hm hR hS (hl.sub [0] rfl)
      · have hm := hw_in hm c24
        refine hw_aload_n hx hb dX4_isAny_27 rfl (hl.at 0 rfl) ?_
        refine lv_iload_n hx hb dX4_isAny_28 rfl (hl.at 1 rfl) ?_
        obtain ⟨a29, g29, hm⟩ := hw_bs hm
        obtain ⟨rfl, ht29⟩ := hw_rv_th g29
        obtain ⟨v29, σ29, e29, hm⟩ := hw_bs2 hm
        refine hw_cWI (va_runV (As := [.int l1]) (rest := []) ⟨hx, hb, hml, hown, hts⟩ (c4_isAll l D b hP e29) (cwV 1 hts (hw_gV hw_m239 hw_m240 hw_m241 hw_m21 hw_m246) rfl rfl rfl (by decide +kernel) ⟨(by first | (dsimp only [hw_rk, rm4_add, rm4_comes, rm4_isAll, rm4_isAny]; omega) | dsimp only [hw_rk, rm4_add, rm4_comes, rm4_isAll, rm4_isAny]), (by first | (dsimp only [hw_rk, rm4_add, rm4_comes, rm4_isAll, rm4_isAny]; omega) | dsimp only [hw_rk, rm4_add, rm4_comes, rm4_isAll, rm4_isAny])⟩) (hw_preV (ci := 4) hE hR rfl (by decide) (hw_q_of ht29)) rfl rfl hl.sz rfl (lv_room (Nat.le_of_ble_eq_true rfl)) dX4_isAny_29 ⟨(Nat.le_of_ble_eq_true rfl), (Nat.le_of_ble_eq_true rfl)⟩) hS (fun _ _ hR hS => ?_)
        refine lv_if_ne (tgt := 37) hx hb dX4_isAny_32 (by decide) (fun c32 => ?_) (fun c32 => ?_)
        · have hm := hw_in hm c32
          refine hw_aload_n hx hb dX4_isAny_37 rfl (hl.at 0 rfl) ?_
          refine lv_iconst (v := 3) hx hb dX4_isAny_38 (by decide) ?_
          obtain ⟨a39, g39, hm⟩ := hw_bs hm
          obtain ⟨rfl, ht39⟩ := hw_rv_th g39
          obtain ⟨σ39, e39, hm⟩ := hw_bs hm
          refine hw_cWV (va_runV (As := [.int (3 : Int32)]) (rest := []) ⟨hx, hb, hml, hown, hts⟩ (c4_add l D b e39) (cwV 1 hts (hw_gV hw_m242 hw_m243 hw_m244 hw_m21 hw_m245) rfl rfl rfl (by decide +kernel) ⟨(by first | (dsimp only [hw_rk, rm4_add, rm4_comes, rm4_isAll, rm4_isAny]; omega) | dsimp only [hw_rk, rm4_add, rm4_comes, rm4_isAll, rm4_isAny]), (by first | (dsimp only [hw_rk, rm4_add, rm4_comes, rm4_isAll, rm4_isAny]; omega) | dsimp only [hw_rk, rm4_add, rm4_comes, rm4_isAll, rm4_isAny])⟩) (hw_preV (ci := 4) hE hR rfl (by decide) (hw_q_of ht39)) rfl rfl hl.sz rfl (lv_room (Nat.le_of_ble_eq_true rfl)) dX4_isAny_39 ⟨(Nat.le_of_ble_eq_true rfl), (Nat.le_of_ble_eq_true rfl)⟩) hS (fun _ _ hR hS => ?_)
          refine hw_iinc (v := (l2 + 1)) (lv' := [(2, .int (l2 + 1)), (0, hw_vr b (some x0)), (1, .int l1)]) hx hb dX4_isAny_42 hl (k := 2) rfl rfl (by decide) (by decide) rfl (fun ls hl => ?_)
          refine lv_goto (tgt := 12) hx hb dX4_isAny_45 (by decide) ?_
          exact ih hm hR hS (hl.sub [1, 2, 0] rfl)
        · have hm := hw_ip hm c32
          refine lv_iconst (v := 0) hx hb dX4_isAny_35 (by decide) ?_
          obtain ⟨_, z36, hm⟩ := hw_bs hm
          exact hw_rWZ hx hb hr hlk hR hS z36 hm dX4_isAny_36
def m4_isAny (kP : Nat → Int32 → hw_S → Option (Int32 × hw_S)) (x0 : Nat) (l1 : Int32) (σ : hw_S) : Option (Int32 × hw_S) :=
  (hw_rv (hw_q 4) (some x0) σ).bind fun a2 =>
  hw_b2 (m4_isAll kP x0 l1 σ) fun v2 σ2 =>
  (if v2 = 0 then
  (hw_tf (0 : Int32)).bind fun _ =>
  some ((0 : Int32), σ2)
  else
  m4_isAny_b12 kP hw_fu x0 l1 (0 : Int32) σ2)
set_option maxRecDepth 100000 in
theorem w4_isAny_s {p : Program} {l : Launch} {e : Env} {s : State} {m : MethodId} {args : Array Value} {below : List Frame} {meth : Method} {c : Code} {D : hw_D} {b : Nat} {RF RL : Nat} {kP : Nat → Int32 → hw_S → Option (Int32 × hw_S)} {x0 : Nat} {l1 : Int32} {σ : hw_S} {r : Int32} {τ : hw_S} {H : Heap} {locs : List Loc} (hm : m4_isAny kP x0 l1 σ = some (r, τ)) (C0 : hw_C p s m args meth c D yX4_isAny cX4_isAny 3 (some .boolean)) (hP : ∀ {x0 : Nat} {l1 : Int32} {σ : hw_S} {r : Int32} {τ : hw_S}, kP x0 l1 σ = some (r, τ) → Met l yX4_isPart (Cond.code yX4_isPart cX4_isPart 2 (some .boolean) :: wsL_law) (hw_rk RF RL) (hw_P1 D b σ [hw_vr b (some x0), .int l1]) (hw_QI D b τ r) 0 0 (fun q => b ≤ q)) (hR : hw_R D b σ H) (hS : va_S (fun q => b ≤ q) s.heap H locs) {ls : Array Slot} (hl : hw_L ls 3 255 [(0, hw_vr b (some x0)), (1, .int l1)]) : W p l e (rm4_isAny RF RL) s m args below meth c H locs 0 0 (MQ below (hw_QI D b τ r) args s 0 0 (fun q => b ≤ q)) (F0 m 0 ls []) := by
  obtain ⟨hx, hb, hml, hr, hown, hts, hlk, hE, hnm⟩ := id C0
  have hown : s.vm.findClass RX4 = some m.cls := hown
  have hK := hE.1
  unfold m4_isAny at hm
  refine hw_aload_n hx hb dX4_isAny_0 rfl (hl.at 0 rfl) ?_
  refine lv_iload_n hx hb dX4_isAny_1 rfl (hl.at 1 rfl) ?_
  obtain ⟨a2, g2, hm⟩ := hw_bs hm
  obtain ⟨rfl, ht2⟩ := hw_rv_th g2
  obtain ⟨v2, σ2, e2, hm⟩ := hw_bs2 hm
  refine hw_cWI (va_runV (As := [.int l1]) (rest := []) ⟨hx, hb, hml, hown, hts⟩ (c4_isAll l D b hP e2) (cwV 1 hts (hw_gV hw_m239 hw_m240 hw_m241 hw_m21 hw_m246) rfl rfl rfl (by decide +kernel) ⟨(by first | (dsimp only [hw_rk, rm4_add, rm4_comes, rm4_isAll, rm4_isAny]; omega) | dsimp only [hw_rk, rm4_add, rm4_comes, rm4_isAll, rm4_isAny]), (by first | (dsimp only [hw_rk, rm4_add, rm4_comes, rm4_isAll, rm4_isAny]; omega) | dsimp only [hw_rk, rm4_add, rm4_comes, rm4_isAll, rm4_isAny])⟩) (hw_preV (ci := 4) hE hR rfl (by decide) (hw_q_of ht2)) rfl rfl hl.sz rfl (lv_room (Nat.le_of_ble_eq_true rfl)) dX4_isAny_2 ⟨(Nat.le_of_ble_eq_true rfl), (Nat.le_of_ble_eq_true rfl)⟩) hS (fun _ _ hR hS => ?_)
  refine lv_if_ne (tgt := 10) hx hb dX4_isAny_5 (by decide) (fun c5 => ?_) (fun c5 => ?_)
  · have hm := hw_in hm c5
    refine lv_iconst (v := 0) hx hb dX4_isAny_10 (by decide) ?_
    refine hw_istore_n (lv' := [(2, .int (0 : Int32)), (0, hw_vr b (some x0)), (1, .int l1)]) hx hb dX4_isAny_11 rfl hl (by decide) (by decide) rfl (fun ls hl => ?_)
    exact w4_isAny_b12 C0 hP hw_fu hm hR hS (hl.sub [1, 2, 0] rfl)
  · have hm := hw_ip hm c5
    refine lv_iconst (v := 0) hx hb dX4_isAny_8 (by decide) ?_
    obtain ⟨_, z9, hm⟩ := hw_bs hm
    exact hw_rWZ hx hb hr hlk hR hS z9 hm dX4_isAny_9
set_option maxRecDepth 100000 in
theorem c4_isAny (l : Launch) (D : hw_D) (b : Nat) {RF RL : Nat} {kP : Nat → Int32 → hw_S → Option (Int32 × hw_S)} (hP : ∀ {x0 : Nat} {l1 : Int32} {σ : hw_S} {r : Int32} {τ : hw_S}, kP x0 l1 σ = some (r, τ) → Met l yX4_isPart (Cond.code yX4_isPart cX4_isPart 2 (some .boolean) :: wsL_law) (hw_rk RF RL) (hw_P1 D b σ [hw_vr b (some x0), .int l1]) (hw_QI D b τ r) 0 0 (fun q => b ≤ q)) {x0 : Nat} {l1 : Int32} {σ : hw_S} {r : Int32} {τ : hw_S} (hm : m4_isAny kP x0 l1 σ = some (r, τ)) : Met l yX4_isAny (Cond.code yX4_isAny cX4_isAny 3 (some .boolean) :: wsL_law) (rm4_isAny RF RL) (hw_P1 D b σ [hw_vr b (some x0), .int l1]) (hw_QI D b τ r) 0 0 (fun q => b ≤ q) := by
  refine hw_start1 (by decide +kernel) (by exact Nat.le_of_ble_eq_true rfl) ?_
  intro p e s m below meth c ls C0 hR hS hl
  have hl : lv_has ls 3 [(0, hw_vr b (some x0)), (1, .int l1)] := by exact hl
  exact w4_isAny_s hm C0 hP hR hS ⟨hl, (List.forall_mem_cons.mpr ⟨(fun h => by rw [show (hw_vr b (some x0) : Value).category = 1 from (hw_vr_cat _ _)] at h; cases h), (List.forall_mem_cons.mpr ⟨(fun h => absurd (show (1 : Nat) = 2 from h) (by decide)), (fun _ h => absurd h List.not_mem_nil)⟩)⟩)⟩

abbrev rm4_isPartF (RF RL : Nat) : Room := { frames := RF + 4, cells := 0, slots := 0, locals := RL + 85 }
def m4_isPartF_b63 (kP : Nat → Int32 → hw_S → Option (Int32 × hw_S)) (x0 : Nat) (t0 : Int32) (σ : hw_S) : Option (Int32 × hw_S) :=
  (hw_tf t0).bind fun _ =>
  some (t0, σ)
set_option maxRecDepth 100000 in
theorem w4_isPartF_b63 {p : Program} {l : Launch} {e : Env} {s : State} {m : MethodId} {args : Array Value} {below : List Frame} {meth : Method} {c : Code} {D : hw_D} {b : Nat} {RF RL : Nat} {kP : Nat → Int32 → hw_S → Option (Int32 × hw_S)} {r : Int32} {τ : hw_S} (C0 : hw_C p s m args meth c D yX4_isPart cX4_isPart 2 (some .boolean)) (hP : ∀ {x0 : Nat} {l1 : Int32} {σ : hw_S} {r : Int32} {τ : hw_S}, kP x0 l1 σ = some (r, τ) → Met l yX4_isPart (Cond.code yX4_isPart cX4_isPart 2 (some .boolean) :: wsL_law) (hw_rk RF RL) (hw_P1 D b σ [hw_vr b (some x0), .int l1]) (hw_QI D b τ r) 0 0 (fun q => b ≤ q)) {x0 : Nat} {t0 : Int32} {σ : hw_S} {H : Heap} {locs : List Loc} (hm : m4_isPartF_b63 kP x0 t0 σ = some (r, τ)) (hR : hw_R D b σ H) (hS : va_S (fun q => b ≤ q) s.heap H locs) {ls : Array Slot} (hl : hw_L ls 2 255 [(0, hw_vr b (some x0))]) : W p l e (rm4_isPartF RF RL) s m args below meth c H locs 0 0 (MQ below (hw_QI D b τ r) args s 0 0 (fun q => b ≤ q)) (F0 m 63 ls [.int t0]) := by
  obtain ⟨hx, hb, hml, hr, hown, hts, hlk, hE, hnm⟩ := id C0
  have hown : s.vm.findClass RX4 = some m.cls := hown
  have hK := hE.1
  unfold m4_isPartF_b63 at hm
  obtain ⟨_, z63, hm⟩ := hw_bs hm
  exact hw_rWZ hx hb hr hlk hR hS z63 hm dX4_isPart_63
def m4_isPartF_b62 (kP : Nat → Int32 → hw_S → Option (Int32 × hw_S)) (x0 : Nat) (σ : hw_S) : Option (Int32 × hw_S) :=
  m4_isPartF_b63 kP x0 (0 : Int32) σ
set_option maxRecDepth 100000 in
theorem w4_isPartF_b62 {p : Program} {l : Launch} {e : Env} {s : State} {m : MethodId} {args : Array Value} {below : List Frame} {meth : Method} {c : Code} {D : hw_D} {b : Nat} {RF RL : Nat} {kP : Nat → Int32 → hw_S → Option (Int32 × hw_S)} {r : Int32} {τ : hw_S} (C0 : hw_C p s m args meth c D yX4_isPart cX4_isPart 2 (some .boolean)) (hP : ∀ {x0 : Nat} {l1 : Int32} {σ : hw_S} {r : Int32} {τ : hw_S}, kP x0 l1 σ = some (r, τ) → Met l yX4_isPart (Cond.code yX4_isPart cX4_isPart 2 (some .boolean) :: wsL_law) (hw_rk RF RL) (hw_P1 D b σ [hw_vr b (some x0), .int l1]) (hw_QI D b τ r) 0 0 (fun q => b ≤ q)) {x0 : Nat} {σ : hw_S} {H : Heap} {locs : List Loc} (hm : m4_isPartF_b62 kP x0 σ = some (r, τ)) (hR : hw_R D b σ H) (hS : va_S (fun q => b ≤ q) s.heap H locs) {ls : Array Slot} (hl : hw_L ls 2 255 [(0, hw_vr b (some x0))]) : W p l e (rm4_isPartF RF RL) s m args below meth c H locs 0 0 (MQ below (hw_QI D b τ r) args s 0 0 (fun q => b ≤ q)) (F0 m 62 ls []) := by
  obtain ⟨hx, hb, hml, hr, hown, hts, hlk, hE, hnm⟩ := id C0
  have hown : s.vm.findClass RX4 = some m.cls := hown
  have hK := hE.1
  unfold m4_isPartF_b62 at hm
  refine lv_iconst (v := 0) hx hb dX4_isPart_62 (by decide) ?_
  exact w4_isPartF_b63 C0 hP hm hR hS (hl.sub [0] rfl)
def m4_isPartF_b23 (kP : Nat → Int32 → hw_S → Option (Int32 × hw_S)) (x0 : Nat) (l1 : Int32) (σ : hw_S) : Option (Int32 × hw_S) :=
  (if l1 < (5 : Int32) then
  (hw_rv (hw_q 4) (some x0) σ).bind fun a33 =>
  hw_b2 (m4_comes x0 (40 : Int32) σ) fun v33 σ33 =>
  (if v33 = 0 then
  (hw_gI (hw_q 4) 2 (some x0) σ33).bind fun v66 =>
  (hw_pI (hw_q 4) 2 (some x0) (v66 + (1 : Int32)) σ33).bind fun σ71 =>
  (hw_rv (hw_q 4) (some x0) σ71).bind fun a78 =>
  hw_b2 (kP x0 (l1 + (1 : Int32)) σ71) fun v78 σ78 =>
  (if v78 = 0 then
  (hw_tf (0 : Int32)).bind fun _ =>
  some ((0 : Int32), σ78)
  else
  (hw_rv (hw_q 4) (some x0) σ78).bind fun a88 =>
  (m4_add x0 (1 : Int32) σ78).bind fun σ88 =>
  (hw_tf (1 : Int32)).bind fun _ =>
  some ((1 : Int32), σ88))
  else
  (hw_rv (hw_q 4) (some x0) σ33).bind fun a43 =>
  hw_b2 (m4_isAny kP x0 (l1 + (1 : Int32)) σ33) fun v43 σ43 =>
  (if v43 = 0 then
  m4_isPartF_b62 kP x0 σ43
  else
  (hw_rv (hw_q 4) (some x0) σ43).bind fun a52 =>
  hw_b2 (m4_comes x0 (41 : Int32) σ43) fun v52 σ52 =>
  (if v52 = 0 then
  m4_isPartF_b62 kP x0 σ52
  else
  m4_isPartF_b63 kP x0 (1 : Int32) σ52)))
  else
  (hw_tf (0 : Int32)).bind fun _ =>
  some ((0 : Int32), σ))
set_option maxRecDepth 100000 in
theorem w4_isPartF_b23 {p : Program} {l : Launch} {e : Env} {s : State} {m : MethodId} {args : Array Value} {below : List Frame} {meth : Method} {c : Code} {D : hw_D} {b : Nat} {RF RL : Nat} {kP : Nat → Int32 → hw_S → Option (Int32 × hw_S)} {r : Int32} {τ : hw_S} (C0 : hw_C p s m args meth c D yX4_isPart cX4_isPart 2 (some .boolean)) (hP : ∀ {x0 : Nat} {l1 : Int32} {σ : hw_S} {r : Int32} {τ : hw_S}, kP x0 l1 σ = some (r, τ) → Met l yX4_isPart (Cond.code yX4_isPart cX4_isPart 2 (some .boolean) :: wsL_law) (hw_rk RF RL) (hw_P1 D b σ [hw_vr b (some x0), .int l1]) (hw_QI D b τ r) 0 0 (fun q => b ≤ q)) {x0 : Nat} {l1 : Int32} {σ : hw_S} {H : Heap} {locs : List Loc} (hm : m4_isPartF_b23 kP x0 l1 σ = some (r, τ)) (hR : hw_R D b σ H) (hS : va_S (fun q => b ≤ q) s.heap H locs) {ls : Array Slot} (hl : hw_L ls 2 255 [(0, hw_vr b (some x0)), (1, .int l1)]) : W p l e (rm4_isPartF RF RL) s m args below meth c H locs 0 0 (MQ below (hw_QI D b τ r) args s 0 0 (fun q => b ≤ q)) (F0 m 23 ls []) := by
  obtain ⟨hx, hb, hml, hr, hown, hts, hlk, hE, hnm⟩ := id C0
  have hown : s.vm.findClass RX4 = some m.cls := hown
  have hK := hE.1
  unfold m4_isPartF_b23 at hm
  refine lv_iload_n hx hb dX4_isPart_23 rfl (hl.at 1 rfl) ?_
  refine lv_iconst (v := 5) hx hb dX4_isPart_24 (by decide) ?_
  refine lv_icmp_lt (tgt := 30) hx hb dX4_isPart_25 (by decide) (fun c25 => ?_) (fun c25 => ?_)
  · have hm := hw_ip hm c25
    refine hw_aload_n hx hb dX4_isPart_30 rfl (hl.at 0 rfl) ?_
    refine lv_bipush (v := 40) hx hb dX4_isPart_31 (by decide) ?_
    obtain ⟨a33, g33, hm⟩ := hw_bs hm
    obtain ⟨rfl, ht33⟩ := hw_rv_th g33
    obtain ⟨v33, σ33, e33, hm⟩ := hw_bs2 hm
    refine hw_cWI (va_runV (As := [.int (40 : Int32)]) (rest := []) ⟨hx, hb, hml, hown, hts⟩ (c4_comes l D b e33) (cwV 1 hts (hw_gV hw_m223 hw_m224 hw_m225 hw_m21 hw_m226) rfl rfl rfl (by decide +kernel) ⟨(by first | (dsimp only [hw_rk, rm4_add, rm4_ahead, rm4_comes, rm4_isAny, rm4_isPartF, rm4_isTest]; omega) | dsimp only [hw_rk, rm4_add, rm4_ahead, rm4_comes, rm4_isAny, rm4_isPartF, rm4_isTest]), (by first | (dsimp only [hw_rk, rm4_add, rm4_ahead, rm4_comes, rm4_isAny, rm4_isPartF, rm4_isTest]; omega) | dsimp only [hw_rk, rm4_add, rm4_ahead, rm4_comes, rm4_isAny, rm4_isPartF, rm4_isTest])⟩) (hw_preV (ci := 4) hE hR rfl (by decide) (hw_q_of ht33)) rfl rfl hl.sz rfl (lv_room (Nat.le_of_ble_eq_true rfl)) dX4_isPart_33 ⟨(Nat.le_of_ble_eq_true rfl), (Nat.le_of_ble_eq_true rfl)⟩) hS (fun _ _ hR hS => ?_)
    refine lv_if_eq (tgt := 64) hx hb dX4_isPart_36 (by decide) (fun c36 => ?_) (fun c36 => ?_)
    · have hm := hw_ip hm c36
      refine hw_aload_n hx hb dX4_isPart_64 rfl (hl.at 0 rfl) ?_
      refine lv_dup hx hb dX4_isPart_65 (hw_vr_cat _ _) ?_
      obtain ⟨v66, e66, hm⟩ := hw_bs hm
      refine hw_getI hx hb hw_cf4 hts hown hK hR e66 (by decide) rfl (hts _ hw_m61) (fun _ h9 => h9) dX4_isPart_66 ?_
      refine lv_iconst (v := 1) hx hb dX4_isPart_69 (by decide) ?_
      refine lv_iadd hx hb dX4_isPart_70 ?_
      obtain ⟨σ71, e71, hm⟩ := hw_bs hm
      refine hw_putI hx hb hw_cf4 hts hown hK hR hS e71 (by decide) rfl rfl (hts _ hw_m61) (fun _ h9 => h9) (Or.inl rfl) dX4_isPart_71 (fun _ _ hR hS => ?_)
      refine hw_aload_n hx hb dX4_isPart_74 rfl (hl.at 0 rfl) ?_
      refine lv_iload_n hx hb dX4_isPart_75 rfl (hl.at 1 rfl) ?_
      refine lv_iconst (v := 1) hx hb dX4_isPart_76 (by decide) ?_
      refine lv_iadd hx hb dX4_isPart_77 ?_
      obtain ⟨a78, g78, hm⟩ := hw_bs hm
      obtain ⟨rfl, ht78⟩ := hw_rv_th g78
      obtain ⟨v78, σ78, e78, hm⟩ := hw_bs2 hm
      refine hw_cWI (va_runV (As := [.int (l1 + (1 : Int32))]) (rest := []) ⟨hx, hb, hml, hown, hts⟩ (hP e78) (cwV 1 hts (hw_gV hw_m247 hw_m248 hw_m249 hw_m21 hw_m250) rfl rfl rfl (by decide +kernel) ⟨(by first | (dsimp only [hw_rk, rm4_add, rm4_ahead, rm4_comes, rm4_isAny, rm4_isPartF, rm4_isTest]; omega) | dsimp only [hw_rk, rm4_add, rm4_ahead, rm4_comes, rm4_isAny, rm4_isPartF, rm4_isTest]), (by first | (dsimp only [hw_rk, rm4_add, rm4_ahead, rm4_comes, rm4_isAny, rm4_isPartF, rm4_isTest]; omega) | dsimp only [hw_rk, rm4_add, rm4_ahead, rm4_comes, rm4_isAny, rm4_isPartF, rm4_isTest])⟩) (hw_preV (ci := 4) hE hR rfl (by decide) (hw_q_of ht78)) rfl rfl hl.sz rfl (lv_room (Nat.le_of_ble_eq_true rfl)) dX4_isPart_78 ⟨(Nat.le_of_ble_eq_true rfl), (Nat.le_of_ble_eq_true rfl)⟩) hS (fun _ _ hR hS => ?_)
      refine lv_if_ne (tgt := 86) hx hb dX4_isPart_81 (by decide) (fun c81 => ?_) (fun c81 => ?_)
      · have hm := hw_in hm c81
        refine hw_aload_n hx hb dX4_isPart_86 rfl (hl.at 0 rfl) ?_
        refine lv_iconst (v := 1) hx hb dX4_isPart_87 (by decide) ?_
        obtain ⟨a88, g88, hm⟩ := hw_bs hm
        obtain ⟨rfl, ht88⟩ := hw_rv_th g88
        obtain ⟨σ88, e88, hm⟩ := hw_bs hm
        refine hw_cWV (va_runV (As := [.int (1 : Int32)]) (rest := []) ⟨hx, hb, hml, hown, hts⟩ (c4_add l D b e88) (cwV 1 hts (hw_gV hw_m242 hw_m243 hw_m244 hw_m21 hw_m245) rfl rfl rfl (by decide +kernel) ⟨(by first | (dsimp only [hw_rk, rm4_add, rm4_ahead, rm4_comes, rm4_isAny, rm4_isPartF, rm4_isTest]; omega) | dsimp only [hw_rk, rm4_add, rm4_ahead, rm4_comes, rm4_isAny, rm4_isPartF, rm4_isTest]), (by first | (dsimp only [hw_rk, rm4_add, rm4_ahead, rm4_comes, rm4_isAny, rm4_isPartF, rm4_isTest]; omega) | dsimp only [hw_rk, rm4_add, rm4_ahead, rm4_comes, rm4_isAny, rm4_isPartF, rm4_isTest])⟩) (hw_preV (ci := 4) hE hR rfl (by decide) (hw_q_of ht88)) rfl rfl hl.sz rfl (lv_room (Nat.le_of_ble_eq_true rfl)) dX4_isPart_88 ⟨(Nat.le_of_ble_eq_true rfl), (Nat.le_of_ble_eq_true rfl)⟩) hS (fun _ _ hR hS => ?_)
        refine lv_iconst (v := 1) hx hb dX4_isPart_91 (by decide) ?_
        obtain ⟨_, z92, hm⟩ := hw_bs hm
        exact hw_rWZ hx hb hr hlk hR hS z92 hm dX4_isPart_92
      · have hm := hw_ip hm c81
        refine lv_iconst (v := 0) hx hb dX4_isPart_84 (by decide) ?_
        obtain ⟨_, z85, hm⟩ := hw_bs hm
        exact hw_rWZ hx hb hr hlk hR hS z85 hm dX4_isPart_85
    · have hm := hw_in hm c36
      refine hw_aload_n hx hb dX4_isPart_39 rfl (hl.at 0 rfl) ?_
      refine lv_iload_n hx hb dX4_isPart_40 rfl (hl.at 1 rfl) ?_
      refine lv_iconst (v := 1) hx hb dX4_isPart_41 (by decide) ?_
      refine lv_iadd hx hb dX4_isPart_42 ?_
      obtain ⟨a43, g43, hm⟩ := hw_bs hm
      obtain ⟨rfl, ht43⟩ := hw_rv_th g43
      obtain ⟨v43, σ43, e43, hm⟩ := hw_bs2 hm
      refine hw_cWI (va_runV (As := [.int (l1 + (1 : Int32))]) (rest := []) ⟨hx, hb, hml, hown, hts⟩ (c4_isAny l D b hP e43) (cwV 1 hts (hw_gV hw_m235 hw_m236 hw_m237 hw_m21 hw_m238) rfl rfl rfl (by decide +kernel) ⟨(by first | (dsimp only [hw_rk, rm4_add, rm4_ahead, rm4_comes, rm4_isAny, rm4_isPartF, rm4_isTest]; omega) | dsimp only [hw_rk, rm4_add, rm4_ahead, rm4_comes, rm4_isAny, rm4_isPartF, rm4_isTest]), (by first | (dsimp only [hw_rk, rm4_add, rm4_ahead, rm4_comes, rm4_isAny, rm4_isPartF, rm4_isTest]; omega) | dsimp only [hw_rk, rm4_add, rm4_ahead, rm4_comes, rm4_isAny, rm4_isPartF, rm4_isTest])⟩) (hw_preV (ci := 4) hE hR rfl (by decide) (hw_q_of ht43)) rfl rfl hl.sz rfl (lv_room (Nat.le_of_ble_eq_true rfl)) dX4_isPart_43 ⟨(Nat.le_of_ble_eq_true rfl), (Nat.le_of_ble_eq_true rfl)⟩) hS (fun _ _ hR hS => ?_)
      refine lv_if_eq (tgt := 62) hx hb dX4_isPart_46 (by decide) (fun c46 => ?_) (fun c46 => ?_)
      · have hm := hw_ip hm c46
        exact w4_isPartF_b62 C0 hP hm hR hS (hl.sub [0] rfl)
      · have hm := hw_in hm c46
        refine hw_aload_n hx hb dX4_isPart_49 rfl (hl.at 0 rfl) ?_
        refine lv_bipush (v := 41) hx hb dX4_isPart_50 (by decide) ?_
        obtain ⟨a52, g52, hm⟩ := hw_bs hm
        obtain ⟨rfl, ht52⟩ := hw_rv_th g52
        obtain ⟨v52, σ52, e52, hm⟩ := hw_bs2 hm
        refine hw_cWI (va_runV (As := [.int (41 : Int32)]) (rest := []) ⟨hx, hb, hml, hown, hts⟩ (c4_comes l D b e52) (cwV 1 hts (hw_gV hw_m223 hw_m224 hw_m225 hw_m21 hw_m226) rfl rfl rfl (by decide +kernel) ⟨(by first | (dsimp only [hw_rk, rm4_add, rm4_ahead, rm4_comes, rm4_isAny, rm4_isPartF, rm4_isTest]; omega) | dsimp only [hw_rk, rm4_add, rm4_ahead, rm4_comes, rm4_isAny, rm4_isPartF, rm4_isTest]), (by first | (dsimp only [hw_rk, rm4_add, rm4_ahead, rm4_comes, rm4_isAny, rm4_isPartF, rm4_isTest]; omega) | dsimp only [hw_rk, rm4_add, rm4_ahead, rm4_comes, rm4_isAny, rm4_isPartF, rm4_isTest])⟩) (hw_preV (ci := 4) hE hR rfl (by decide) (hw_q_of ht52)) rfl rfl hl.sz rfl (lv_room (Nat.le_of_ble_eq_true rfl)) dX4_isPart_52 ⟨(Nat.le_of_ble_eq_true rfl), (Nat.le_of_ble_eq_true rfl)⟩) hS (fun _ _ hR hS => ?_)
        refine lv_if_eq (tgt := 62) hx hb dX4_isPart_55 (by decide) (fun c55 => ?_) (fun c55 => ?_)
        · have hm := hw_ip hm c55
          exact w4_isPartF_b62 C0 hP hm hR hS (hl.sub [0] rfl)
        · have hm := hw_in hm c55
          refine lv_iconst (v := 1) hx hb dX4_isPart_58 (by decide) ?_
          refine lv_goto (tgt := 63) hx hb dX4_isPart_59 (by decide) ?_
          exact w4_isPartF_b63 C0 hP hm hR hS (hl.sub [0] rfl)
  · have hm := hw_in hm c25
    refine lv_iconst (v := 0) hx hb dX4_isPart_28 (by decide) ?_
    obtain ⟨_, z29, hm⟩ := hw_bs hm
    exact hw_rWZ hx hb hr hlk hR hS z29 hm dX4_isPart_29
def m4_isPartF (kP : Nat → Int32 → hw_S → Option (Int32 × hw_S)) (x0 : Nat) (l1 : Int32) (σ : hw_S) : Option (Int32 × hw_S) :=
  (hw_rv (hw_q 4) (some x0) σ).bind fun a1 =>
  (m4_ahead x0 σ).bind fun v1 =>
  (if v1 = (33 : Int32) then
  m4_isPartF_b23 kP x0 l1 σ
  else
  (hw_rv (hw_q 4) (some x0) σ).bind fun a10 =>
  (m4_ahead x0 σ).bind fun v10 =>
  (if v10 = (40 : Int32) then
  m4_isPartF_b23 kP x0 l1 σ
  else
  (hw_rv (hw_q 4) (some x0) σ).bind fun a19 =>
  hw_b2 (m4_isTest x0 σ) fun v19 σ19 =>
  (hw_tf v19).bind fun _ =>
  some (v19, σ19)))
set_option maxRecDepth 100000 in
theorem w4_isPartF_s {p : Program} {l : Launch} {e : Env} {s : State} {m : MethodId} {args : Array Value} {below : List Frame} {meth : Method} {c : Code} {D : hw_D} {b : Nat} {RF RL : Nat} {kP : Nat → Int32 → hw_S → Option (Int32 × hw_S)} {x0 : Nat} {l1 : Int32} {σ : hw_S} {r : Int32} {τ : hw_S} {H : Heap} {locs : List Loc} (hm : m4_isPartF kP x0 l1 σ = some (r, τ)) (C0 : hw_C p s m args meth c D yX4_isPart cX4_isPart 2 (some .boolean)) (hP : ∀ {x0 : Nat} {l1 : Int32} {σ : hw_S} {r : Int32} {τ : hw_S}, kP x0 l1 σ = some (r, τ) → Met l yX4_isPart (Cond.code yX4_isPart cX4_isPart 2 (some .boolean) :: wsL_law) (hw_rk RF RL) (hw_P1 D b σ [hw_vr b (some x0), .int l1]) (hw_QI D b τ r) 0 0 (fun q => b ≤ q)) (hR : hw_R D b σ H) (hS : va_S (fun q => b ≤ q) s.heap H locs) {ls : Array Slot} (hl : hw_L ls 2 255 [(0, hw_vr b (some x0)), (1, .int l1)]) : W p l e (rm4_isPartF RF RL) s m args below meth c H locs 0 0 (MQ below (hw_QI D b τ r) args s 0 0 (fun q => b ≤ q)) (F0 m 0 ls []) := by
  obtain ⟨hx, hb, hml, hr, hown, hts, hlk, hE, hnm⟩ := id C0
  have hown : s.vm.findClass RX4 = some m.cls := hown
  have hK := hE.1
  unfold m4_isPartF at hm
  refine hw_aload_n hx hb dX4_isPart_0 rfl (hl.at 0 rfl) ?_
  obtain ⟨a1, g1, hm⟩ := hw_bs hm
  obtain ⟨rfl, ht1⟩ := hw_rv_th g1
  obtain ⟨v1, e1, hm⟩ := hw_bs hm
  refine hw_cRI (va_runV (As := []) (rest := []) ⟨hx, hb, hml, hown, hts⟩ (c4_ahead l D b e1) (cwV 0 hts (hw_gV hw_m163 hw_m164 hw_m165 hw_m21 hw_m166) rfl rfl rfl (by decide +kernel) ⟨(by first | (dsimp only [hw_rk, rm4_add, rm4_ahead, rm4_comes, rm4_isAny, rm4_isPartF, rm4_isTest]; omega) | dsimp only [hw_rk, rm4_add, rm4_ahead, rm4_comes, rm4_isAny, rm4_isPartF, rm4_isTest]), (by first | (dsimp only [hw_rk, rm4_add, rm4_ahead, rm4_comes, rm4_isAny, rm4_isPartF, rm4_isTest]; omega) | dsimp only [hw_rk, rm4_add, rm4_ahead, rm4_comes, rm4_isAny, rm4_isPartF, rm4_isTest])⟩) (hw_preV (ci := 4) hE hR rfl (by decide) (hw_q_of ht1)) rfl rfl hl.sz rfl (lv_room (Nat.le_of_ble_eq_true rfl)) dX4_isPart_1 ⟨(Nat.le_of_ble_eq_true rfl), (Nat.le_of_ble_eq_true rfl)⟩) ?_
  refine lv_bipush (v := 33) hx hb dX4_isPart_4 (by decide) ?_
  refine lv_icmp_eq (tgt := 23) hx hb dX4_isPart_6 (by decide) (fun c6 => ?_) (fun c6 => ?_)
  · have hm := hw_ip hm c6
    exact w4_isPartF_b23 C0 hP hm hR hS (hl.sub [0, 1] rfl)
  · have hm := hw_in hm c6
    refine hw_aload_n hx hb dX4_isPart_9 rfl (hl.at 0 rfl) ?_
    obtain ⟨a10, g10, hm⟩ := hw_bs hm
    obtain ⟨rfl, ht10⟩ := hw_rv_th g10
    obtain ⟨v10, e10, hm⟩ := hw_bs hm
    refine hw_cRI (va_runV (As := []) (rest := []) ⟨hx, hb, hml, hown, hts⟩ (c4_ahead l D b e10) (cwV 0 hts (hw_gV hw_m163 hw_m164 hw_m165 hw_m21 hw_m166) rfl rfl rfl (by decide +kernel) ⟨(by first | (dsimp only [hw_rk, rm4_add, rm4_ahead, rm4_comes, rm4_isAny, rm4_isPartF, rm4_isTest]; omega) | dsimp only [hw_rk, rm4_add, rm4_ahead, rm4_comes, rm4_isAny, rm4_isPartF, rm4_isTest]), (by first | (dsimp only [hw_rk, rm4_add, rm4_ahead, rm4_comes, rm4_isAny, rm4_isPartF, rm4_isTest]; omega) | dsimp only [hw_rk, rm4_add, rm4_ahead, rm4_comes, rm4_isAny, rm4_isPartF, rm4_isTest])⟩) (hw_preV (ci := 4) hE hR rfl (by decide) (hw_q_of ht10)) rfl rfl hl.sz rfl (lv_room (Nat.le_of_ble_eq_true rfl)) dX4_isPart_10 ⟨(Nat.le_of_ble_eq_true rfl), (Nat.le_of_ble_eq_true rfl)⟩) ?_
    refine lv_bipush (v := 40) hx hb dX4_isPart_13 (by decide) ?_
    refine lv_icmp_eq (tgt := 23) hx hb dX4_isPart_15 (by decide) (fun c15 => ?_) (fun c15 => ?_)
    · have hm := hw_ip hm c15
      exact w4_isPartF_b23 C0 hP hm hR hS (hl.sub [0, 1] rfl)
    · have hm := hw_in hm c15
      refine hw_aload_n hx hb dX4_isPart_18 rfl (hl.at 0 rfl) ?_
      obtain ⟨a19, g19, hm⟩ := hw_bs hm
      obtain ⟨rfl, ht19⟩ := hw_rv_th g19
      obtain ⟨v19, σ19, e19, hm⟩ := hw_bs2 hm
      refine hw_cWI (va_runV (As := []) (rest := []) ⟨hx, hb, hml, hown, hts⟩ (c4_isTest l D b e19) (cwV 0 hts (hw_gV hw_m251 hw_m252 hw_m253 hw_m21 hw_m254) rfl rfl rfl (by decide +kernel) ⟨(by first | (dsimp only [hw_rk, rm4_add, rm4_ahead, rm4_comes, rm4_isAny, rm4_isPartF, rm4_isTest]; omega) | dsimp only [hw_rk, rm4_add, rm4_ahead, rm4_comes, rm4_isAny, rm4_isPartF, rm4_isTest]), (by first | (dsimp only [hw_rk, rm4_add, rm4_ahead, rm4_comes, rm4_isAny, rm4_isPartF, rm4_isTest]; omega) | dsimp only [hw_rk, rm4_add, rm4_ahead, rm4_comes, rm4_isAny, rm4_isPartF, rm4_isTest])⟩) (hw_preV (ci := 4) hE hR rfl (by decide) (hw_q_of ht19)) rfl rfl hl.sz rfl (lv_room (Nat.le_of_ble_eq_true rfl)) dX4_isPart_19 ⟨(Nat.le_of_ble_eq_true rfl), (Nat.le_of_ble_eq_true rfl)⟩) hS (fun _ _ hR hS => ?_)
      obtain ⟨_, z22, hm⟩ := hw_bs hm
      exact hw_rWZ hx hb hr hlk hR hS z22 hm dX4_isPart_22
set_option maxRecDepth 100000 in
theorem c4_isPartF (l : Launch) (D : hw_D) (b : Nat) {RF RL : Nat} {kP : Nat → Int32 → hw_S → Option (Int32 × hw_S)} (hP : ∀ {x0 : Nat} {l1 : Int32} {σ : hw_S} {r : Int32} {τ : hw_S}, kP x0 l1 σ = some (r, τ) → Met l yX4_isPart (Cond.code yX4_isPart cX4_isPart 2 (some .boolean) :: wsL_law) (hw_rk RF RL) (hw_P1 D b σ [hw_vr b (some x0), .int l1]) (hw_QI D b τ r) 0 0 (fun q => b ≤ q)) {x0 : Nat} {l1 : Int32} {σ : hw_S} {r : Int32} {τ : hw_S} (hm : m4_isPartF kP x0 l1 σ = some (r, τ)) : Met l yX4_isPart (Cond.code yX4_isPart cX4_isPart 2 (some .boolean) :: wsL_law) (rm4_isPartF RF RL) (hw_P1 D b σ [hw_vr b (some x0), .int l1]) (hw_QI D b τ r) 0 0 (fun q => b ≤ q) := by
  refine hw_start1 (by decide +kernel) (by exact Nat.le_of_ble_eq_true rfl) ?_
  intro p e s m below meth c ls C0 hR hS hl
  have hl : lv_has ls 2 [(0, hw_vr b (some x0)), (1, .int l1)] := by exact hl
  exact w4_isPartF_s hm C0 hP hR hS ⟨hl, (List.forall_mem_cons.mpr ⟨(fun h => by rw [show (hw_vr b (some x0) : Value).category = 1 from (hw_vr_cat _ _)] at h; cases h), (List.forall_mem_cons.mpr ⟨(fun h => absurd (show (1 : Nat) = 2 from h) (by decide)), (fun _ h => absurd h List.not_mem_nil)⟩)⟩)⟩
def m4_isPart : Nat → Nat → Int32 → hw_S → Option (Int32 × hw_S)
  | 0, _, _, _ => none
  | n + 1, x0, l1, σ => m4_isPartF (m4_isPart n) x0 l1 σ
theorem c4_isPart (l : Launch) (D : hw_D) (b : Nat) : ∀ (n : Nat), ∀ {x0 : Nat} {l1 : Int32} {σ : hw_S} {r : Int32} {τ : hw_S}, m4_isPart n x0 l1 σ = some (r, τ) → Met l yX4_isPart (Cond.code yX4_isPart cX4_isPart 2 (some .boolean) :: wsL_law) (hw_rk (4 * n) (85 * n)) (hw_P1 D b σ [hw_vr b (some x0), .int l1]) (hw_QI D b τ r) 0 0 (fun q => b ≤ q) := by
  intro n
  induction n with
  | zero => intro _ _ _ _ _ h; cases h
  | succ n ih => intro _ _ _ _ _ h; exact c4_isPartF l D b ih h

abbrev rm4_isClause : Room := { frames := 36, cells := 0, slots := 0, locals := 765 }
def m4_isClause_b22 (x0 : Nat) (σ : hw_S) : Option (Int32 × hw_S) :=
  (hw_tf (0 : Int32)).bind fun _ =>
  some ((0 : Int32), σ)
set_option maxRecDepth 100000 in
theorem w4_isClause_b22 {p : Program} {l : Launch} {e : Env} {s : State} {m : MethodId} {args : Array Value} {below : List Frame} {meth : Method} {c : Code} {D : hw_D} {b : Nat} {g : hw_Sd} {r : Int32} {τ : hw_S} (C0 : hw_C p s m args meth c D yX4_isClause cX4_isClause 5 (some .boolean)) (hG : hw_G g b s s.heap) {x0 : Nat} {σ : hw_S} {H : Heap} {locs : List Loc} (hm : m4_isClause_b22 x0 σ = some (r, τ)) (hR : hw_R D b σ H) (hS : va_S (fun q => b ≤ q) s.heap H locs) {ls : Array Slot} (hl : hw_L ls 5 255 [(0, hw_vr b (some x0))]) : W p l e rm4_isClause s m args below meth c H locs 0 0 (MQ below (hw_QI D b τ r) args s 0 0 (fun q => b ≤ q)) (F0 m 22 ls []) := by
  obtain ⟨hx, hb, hml, hr, hown, hts, hlk, hE, hnm⟩ := id C0
  have hown : s.vm.findClass RX4 = some m.cls := hown
  have hK := hE.1
  unfold m4_isClause_b22 at hm
  refine lv_iconst (v := 0) hx hb dX4_isClause_22 (by decide) ?_
  obtain ⟨_, z23, hm⟩ := hw_bs hm
  exact hw_rWZ hx hb hr hlk hR hS z23 hm dX4_isClause_23
def m4_isClause_b139 (x0 : Nat) (σ : hw_S) : Option (Int32 × hw_S) :=
  (hw_tf (0 : Int32)).bind fun _ =>
  some ((0 : Int32), σ)
set_option maxRecDepth 100000 in
theorem w4_isClause_b139 {p : Program} {l : Launch} {e : Env} {s : State} {m : MethodId} {args : Array Value} {below : List Frame} {meth : Method} {c : Code} {D : hw_D} {b : Nat} {g : hw_Sd} {r : Int32} {τ : hw_S} (C0 : hw_C p s m args meth c D yX4_isClause cX4_isClause 5 (some .boolean)) (hG : hw_G g b s s.heap) {x0 : Nat} {σ : hw_S} {H : Heap} {locs : List Loc} (hm : m4_isClause_b139 x0 σ = some (r, τ)) (hR : hw_R D b σ H) (hS : va_S (fun q => b ≤ q) s.heap H locs) {ls : Array Slot} (hl : hw_L ls 5 255 [(0, hw_vr b (some x0))]) : W p l e rm4_isClause s m args below meth c H locs 0 0 (MQ below (hw_QI D b τ r) args s 0 0 (fun q => b ≤ q)) (F0 m 139 ls []) := by
  obtain ⟨hx, hb, hml, hr, hown, hts, hlk, hE, hnm⟩ := id C0
  have hown : s.vm.findClass RX4 = some m.cls := hown
  have hK := hE.1
  unfold m4_isClause_b139 at hm
  refine lv_iconst (v := 0) hx hb dX4_isClause_139 (by decide) ?_
  obtain ⟨_, z140, hm⟩ := hw_bs hm
  exact hw_rWZ hx hb hr hlk hR hS z140 hm dX4_isClause_140
def m4_isClause_b153 (x0 : Nat) (l4 : Int32) (t0 : Nat) (t1 : Int32) (σ : hw_S) : Option (Int32 × hw_S) :=
  (hw_rv (hw_q 4) (some t0) σ).bind fun a159 =>
  (m4_add t0 (t1 ||| (l4 <<< ((8 : Int32) &&& 31))) σ).bind fun σ159 =>
  (hw_tf (1 : Int32)).bind fun _ =>
  some ((1 : Int32), σ159)
set_option maxRecDepth 100000 in
theorem w4_isClause_b153 {p : Program} {l : Launch} {e : Env} {s : State} {m : MethodId} {args : Array Value} {below : List Frame} {meth : Method} {c : Code} {D : hw_D} {b : Nat} {g : hw_Sd} {r : Int32} {τ : hw_S} (C0 : hw_C p s m args meth c D yX4_isClause cX4_isClause 5 (some .boolean)) (hG : hw_G g b s s.heap) {x0 : Nat} {l4 : Int32} {t0 : Nat} {t1 : Int32} {σ : hw_S} {H : Heap} {locs : List Loc} (hm : m4_isClause_b153 x0 l4 t0 t1 σ = some (r, τ)) (hR : hw_R D b σ H) (hS : va_S (fun q => b ≤ q) s.heap H locs) {ls : Array Slot} (hl : hw_L ls 5 255 [(0, hw_vr b (some x0)), (4, .int l4)]) : W p l e rm4_isClause s m args below meth c H locs 0 0 (MQ below (hw_QI D b τ r) args s 0 0 (fun q => b ≤ q)) (F0 m 153 ls [.int t1, hw_vr b (some t0)]) := by
  obtain ⟨hx, hb, hml, hr, hown, hts, hlk, hE, hnm⟩ := id C0
  have hown : s.vm.findClass RX4 = some m.cls := hown
  have hK := hE.1
  unfold m4_isClause_b153 at hm
  refine lv_iload hx hb dX4_isClause_153 (hl.at 1 rfl) ?_
  refine lv_bipush (v := 8) hx hb dX4_isClause_155 (by decide) ?_
  refine lv_ishl hx hb dX4_isClause_157 ?_
  refine lv_ior hx hb dX4_isClause_158 ?_
  obtain ⟨a159, g159, hm⟩ := hw_bs hm
  obtain ⟨rfl, ht159⟩ := hw_rv_th g159
  obtain ⟨σ159, e159, hm⟩ := hw_bs hm
  refine hw_cWV (va_runV (As := [.int (t1 ||| (l4 <<< ((8 : Int32) &&& 31)))]) (rest := []) ⟨hx, hb, hml, hown, hts⟩ (c4_add l D b e159) (cwV 1 hts (hw_gV hw_m242 hw_m243 hw_m244 hw_m21 hw_m245) rfl rfl rfl (by decide +kernel) ⟨(Nat.le_of_ble_eq_true rfl), (Nat.le_of_ble_eq_true rfl)⟩) (hw_preV (ci := 4) hE hR rfl (by decide) (hw_q_of ht159)) rfl rfl hl.sz rfl (lv_room (Nat.le_of_ble_eq_true rfl)) dX4_isClause_159 ⟨(Nat.le_of_ble_eq_true rfl), (Nat.le_of_ble_eq_true rfl)⟩) hS (fun _ _ hR hS => ?_)
  refine lv_iconst (v := 1) hx hb dX4_isClause_162 (by decide) ?_
  obtain ⟨_, z163, hm⟩ := hw_bs hm
  exact hw_rWZ hx hb hr hlk hR hS z163 hm dX4_isClause_163
def m4_isClause_b51 (x0 : Nat) (l1 : Int32) (l3 : Int32) (t0 : Int32) (σ : hw_S) : Option (Int32 × hw_S) :=
  (if 0 ≤ t0 then
  (if l1 = 99 then
  (hw_pI (hw_q 4) 7 (some x0) t0 σ).bind fun σ117 =>
  (hw_tf (1 : Int32)).bind fun _ =>
  some ((1 : Int32), σ117)
  else
  (if l1 = 102 then
  (hw_gP (hw_q 4) 5 (some x0) σ).bind fun v97 =>
  (hw_sI v97 l3 t0 σ).bind fun σ103 =>
  (hw_tf (1 : Int32)).bind fun _ =>
  some ((1 : Int32), σ103)
  else
  (if l1 = 104 then
  (hw_pI (hw_q 4) 6 (some x0) t0 σ).bind fun σ109 =>
  (hw_tf (1 : Int32)).bind fun _ =>
  some ((1 : Int32), σ109)
  else
  (hw_rv (hw_q 4) (some x0) σ).bind fun a125 =>
  hw_b2 (m4_comes x0 (32 : Int32) σ) fun v125 σ125 =>
  (if v125 = 0 then
  m4_isClause_b139 x0 σ125
  else
  (hw_rv (hw_q 4) (some x0) σ125).bind fun a133 =>
  hw_b2 (m4_isAny (m4_isPart 8) x0 (0 : Int32) σ125) fun v133 σ133 =>
  (if v133 = 0 then
  m4_isClause_b139 x0 σ133
  else
  (if l1 = (119 : Int32) then
  m4_isClause_b153 x0 t0 x0 (4 : Int32) σ133
  else
  m4_isClause_b153 x0 t0 x0 (5 : Int32) σ133))))))
  else
  (hw_tf (0 : Int32)).bind fun _ =>
  some ((0 : Int32), σ))
set_option maxRecDepth 100000 in
theorem w4_isClause_b51 {p : Program} {l : Launch} {e : Env} {s : State} {m : MethodId} {args : Array Value} {below : List Frame} {meth : Method} {c : Code} {D : hw_D} {b : Nat} {g : hw_Sd} {r : Int32} {τ : hw_S} (C0 : hw_C p s m args meth c D yX4_isClause cX4_isClause 5 (some .boolean)) (hG : hw_G g b s s.heap) {x0 : Nat} {l1 : Int32} {l3 : Int32} {t0 : Int32} {σ : hw_S} {H : Heap} {locs : List Loc} (hm : m4_isClause_b51 x0 l1 l3 t0 σ = some (r, τ)) (hR : hw_R D b σ H) (hS : va_S (fun q => b ≤ q) s.heap H locs) {ls : Array Slot} (hl : hw_L ls 5 255 [(0, hw_vr b (some x0)), (1, .int l1), (3, .int l3)]) : W p l e rm4_isClause s m args below meth c H locs 0 0 (MQ below (hw_QI D b τ r) args s 0 0 (fun q => b ≤ q)) (F0 m 51 ls [.int t0]) := by
  obtain ⟨hx, hb, hml, hr, hown, hts, hlk, hE, hnm⟩ := id C0
  have hown : s.vm.findClass RX4 = some m.cls := hown
  have hK := hE.1
  unfold m4_isClause_b51 at hm
  refine hw_istore (lv' := [(4, .int t0), (0, hw_vr b (some x0)), (1, .int l1), (3, .int l3)]) hx hb dX4_isClause_51 hl (by decide) (by decide) rfl (fun ls hl => ?_)
  refine lv_iload hx hb dX4_isClause_53 (hl.at 0 rfl) ?_
  refine lv_if_ge (tgt := 60) hx hb dX4_isClause_55 (by decide) (fun c55 => ?_) (fun c55 => ?_)
  · have hm := hw_ip hm c55
    refine lv_iload_n hx hb dX4_isClause_60 rfl (hl.at 2 rfl) ?_
    refine hw_case l1 (99) (fun c61_0 => ?_) (fun c61_0 => ?_)
    · have hm := hw_ip hm c61_0
      refine lv_lookup (off := 53) (tgt := 114) hx hb dX4_isClause_61 (by decide) (by rw [c61_0]; decide) (by decide) ?_
      refine hw_aload_n hx hb dX4_isClause_114 rfl (hl.at 1 rfl) ?_
      refine lv_iload hx hb dX4_isClause_115 (hl.at 0 rfl) ?_
      obtain ⟨σ117, e117, hm⟩ := hw_bs hm
      refine hw_putI hx hb hw_cf4 hts hown hK hR hS e117 (by decide) rfl rfl (hts _ hw_m66) (fun _ h9 => h9) (Or.inl rfl) dX4_isClause_117 (fun _ _ hR hS => ?_)
      refine lv_iconst (v := 1) hx hb dX4_isClause_120 (by decide) ?_
      obtain ⟨_, z121, hm⟩ := hw_bs hm
      exact hw_rWZ hx hb hr hlk hR hS z121 hm dX4_isClause_121
    · have hm := hw_in hm c61_0
      refine hw_case l1 (102) (fun c61_1 => ?_) (fun c61_1 => ?_)
      · have hm := hw_ip hm c61_1
        refine lv_lookup (off := 35) (tgt := 96) hx hb dX4_isClause_61 (by decide) (by rw [c61_1]; decide) (by decide) ?_
        refine hw_aload_n hx hb dX4_isClause_96 rfl (hl.at 1 rfl) ?_
        obtain ⟨v97, e97, hm⟩ := hw_bs hm
        refine hw_getP hx hb hw_cf4 hts hown hK hR e97 (by decide) rfl (hts _ hw_m64) (fun _ h9 => h9) dX4_isClause_97 ?_
        refine lv_iload_n hx hb dX4_isClause_100 rfl (hl.at 3 rfl) ?_
        refine lv_iload hx hb dX4_isClause_101 (hl.at 0 rfl) ?_
        obtain ⟨σ103, e103, hm⟩ := hw_bs hm
        refine hw_iast hx hb hK hR hS e103 dX4_isClause_103 (fun _ _ hR hS => ?_)
        refine lv_iconst (v := 1) hx hb dX4_isClause_104 (by decide) ?_
        obtain ⟨_, z105, hm⟩ := hw_bs hm
        exact hw_rWZ hx hb hr hlk hR hS z105 hm dX4_isClause_105
      · have hm := hw_in hm c61_1
        refine hw_case l1 (104) (fun c61_2 => ?_) (fun c61_2 => ?_)
        · have hm := hw_ip hm c61_2
          refine lv_lookup (off := 45) (tgt := 106) hx hb dX4_isClause_61 (by decide) (by rw [c61_2]; decide) (by decide) ?_
          refine hw_aload_n hx hb dX4_isClause_106 rfl (hl.at 1 rfl) ?_
          refine lv_iload hx hb dX4_isClause_107 (hl.at 0 rfl) ?_
          obtain ⟨σ109, e109, hm⟩ := hw_bs hm
          refine hw_putI hx hb hw_cf4 hts hown hK hR hS e109 (by decide) rfl rfl (hts _ hw_m65) (fun _ h9 => h9) (Or.inl rfl) dX4_isClause_109 (fun _ _ hR hS => ?_)
          refine lv_iconst (v := 1) hx hb dX4_isClause_112 (by decide) ?_
          obtain ⟨_, z113, hm⟩ := hw_bs hm
          exact hw_rWZ hx hb hr hlk hR hS z113 hm dX4_isClause_113
        · have hm := hw_in hm c61_2
          refine lv_lookup (off := 61) (tgt := 122) hx hb dX4_isClause_61 (by decide) (by show Op.lookupswitch.offset [(99, 53), (102, 35), (104, 45)] _ _ = _; rw [lv_osw c61_0 (a := 99) rfl, lv_osw c61_1 (a := 102) rfl, lv_osw c61_2 (a := 104) rfl]; rfl) (by decide) ?_
          refine hw_aload_n hx hb dX4_isClause_122 rfl (hl.at 1 rfl) ?_
          refine lv_bipush (v := 32) hx hb dX4_isClause_123 (by decide) ?_
          obtain ⟨a125, g125, hm⟩ := hw_bs hm
          obtain ⟨rfl, ht125⟩ := hw_rv_th g125
          obtain ⟨v125, σ125, e125, hm⟩ := hw_bs2 hm
          refine hw_cWI (va_runV (As := [.int (32 : Int32)]) (rest := []) ⟨hx, hb, hml, hown, hts⟩ (c4_comes l D b e125) (cwV 1 hts (hw_gV hw_m223 hw_m224 hw_m225 hw_m21 hw_m226) rfl rfl rfl (by decide +kernel) ⟨(Nat.le_of_ble_eq_true rfl), (Nat.le_of_ble_eq_true rfl)⟩) (hw_preV (ci := 4) hE hR rfl (by decide) (hw_q_of ht125)) rfl rfl hl.sz rfl (lv_room (Nat.le_of_ble_eq_true rfl)) dX4_isClause_125 ⟨(Nat.le_of_ble_eq_true rfl), (Nat.le_of_ble_eq_true rfl)⟩) hS (fun _ _ hR hS => ?_)
          refine lv_if_eq (tgt := 139) hx hb dX4_isClause_128 (by decide) (fun c128 => ?_) (fun c128 => ?_)
          · have hm := hw_ip hm c128
            exact w4_isClause_b139 C0 hG hm hR hS (hl.sub [1] rfl)
          · have hm := hw_in hm c128
            refine hw_aload_n hx hb dX4_isClause_131 rfl (hl.at 1 rfl) ?_
            refine lv_iconst (v := 0) hx hb dX4_isClause_132 (by decide) ?_
            obtain ⟨a133, g133, hm⟩ := hw_bs hm
            obtain ⟨rfl, ht133⟩ := hw_rv_th g133
            obtain ⟨v133, σ133, e133, hm⟩ := hw_bs2 hm
            refine hw_cWI (va_runV (As := [.int (0 : Int32)]) (rest := []) ⟨hx, hb, hml, hown, hts⟩ (c4_isAny l D b (c4_isPart l D b 8) e133) (cwV 1 hts (hw_gV hw_m235 hw_m236 hw_m237 hw_m21 hw_m238) rfl rfl rfl (by decide +kernel) ⟨(Nat.le_of_ble_eq_true rfl), (Nat.le_of_ble_eq_true rfl)⟩) (hw_preV (ci := 4) hE hR rfl (by decide) (hw_q_of ht133)) rfl rfl hl.sz rfl (lv_room (Nat.le_of_ble_eq_true rfl)) dX4_isClause_133 ⟨(Nat.le_of_ble_eq_true rfl), (Nat.le_of_ble_eq_true rfl)⟩) hS (fun _ _ hR hS => ?_)
            refine lv_if_ne (tgt := 141) hx hb dX4_isClause_136 (by decide) (fun c136 => ?_) (fun c136 => ?_)
            · have hm := hw_in hm c136
              refine hw_aload_n hx hb dX4_isClause_141 rfl (hl.at 1 rfl) ?_
              refine lv_iload_n hx hb dX4_isClause_142 rfl (hl.at 2 rfl) ?_
              refine lv_bipush (v := 119) hx hb dX4_isClause_143 (by decide) ?_
              refine lv_icmp_ne (tgt := 152) hx hb dX4_isClause_145 (by decide) (fun c145 => ?_) (fun c145 => ?_)
              · have hm := hw_in hm c145
                refine lv_iconst (v := 5) hx hb dX4_isClause_152 (by decide) ?_
                exact w4_isClause_b153 C0 hG hm hR hS (hl.sub [1, 0] rfl)
              · have hm := hw_ip hm c145
                refine lv_iconst (v := 4) hx hb dX4_isClause_148 (by decide) ?_
                refine lv_goto (tgt := 153) hx hb dX4_isClause_149 (by decide) ?_
                exact w4_isClause_b153 C0 hG hm hR hS (hl.sub [1, 0] rfl)
            · have hm := hw_ip hm c136
              exact w4_isClause_b139 C0 hG hm hR hS (hl.sub [1] rfl)
  · have hm := hw_in hm c55
    refine lv_iconst (v := 0) hx hb dX4_isClause_58 (by decide) ?_
    obtain ⟨_, z59, hm⟩ := hw_bs hm
    exact hw_rWZ hx hb hr hlk hR hS z59 hm dX4_isClause_59
def m4_isClause_b38 (x0 : Nat) (l1 : Int32) (t0 : Int32) (σ : hw_S) : Option (Int32 × hw_S) :=
  (if 0 ≤ t0 then
  (hw_rv (hw_q 4) (some x0) σ).bind fun a48 =>
  hw_b2 (m4_number x0 σ) fun v48 σ48 =>
  m4_isClause_b51 x0 l1 t0 v48 σ48
  else
  m4_isClause_b51 x0 l1 t0 ((-1) : Int32) σ)
set_option maxRecDepth 100000 in
theorem w4_isClause_b38 {p : Program} {l : Launch} {e : Env} {s : State} {m : MethodId} {args : Array Value} {below : List Frame} {meth : Method} {c : Code} {D : hw_D} {b : Nat} {g : hw_Sd} {r : Int32} {τ : hw_S} (C0 : hw_C p s m args meth c D yX4_isClause cX4_isClause 5 (some .boolean)) (hG : hw_G g b s s.heap) {x0 : Nat} {l1 : Int32} {t0 : Int32} {σ : hw_S} {H : Heap} {locs : List Loc} (hm : m4_isClause_b38 x0 l1 t0 σ = some (r, τ)) (hR : hw_R D b σ H) (hS : va_S (fun q => b ≤ q) s.heap H locs) {ls : Array Slot} (hl : hw_L ls 5 255 [(0, hw_vr b (some x0)), (1, .int l1)]) : W p l e rm4_isClause s m args below meth c H locs 0 0 (MQ below (hw_QI D b τ r) args s 0 0 (fun q => b ≤ q)) (F0 m 38 ls [.int t0]) := by
  obtain ⟨hx, hb, hml, hr, hown, hts, hlk, hE, hnm⟩ := id C0
  have hown : s.vm.findClass RX4 = some m.cls := hown
  have hK := hE.1
  unfold m4_isClause_b38 at hm
  refine hw_istore_n (lv' := [(3, .int t0), (0, hw_vr b (some x0)), (1, .int l1)]) hx hb dX4_isClause_38 rfl hl (by decide) (by decide) rfl (fun ls hl => ?_)
  refine lv_iload_n hx hb dX4_isClause_39 rfl (hl.at 0 rfl) ?_
  refine lv_if_ge (tgt := 47) hx hb dX4_isClause_40 (by decide) (fun c40 => ?_) (fun c40 => ?_)
  · have hm := hw_ip hm c40
    refine hw_aload_n hx hb dX4_isClause_47 rfl (hl.at 1 rfl) ?_
    obtain ⟨a48, g48, hm⟩ := hw_bs hm
    obtain ⟨rfl, ht48⟩ := hw_rv_th g48
    obtain ⟨v48, σ48, e48, hm⟩ := hw_bs2 hm
    refine hw_cWI (va_runV (As := []) (rest := []) ⟨hx, hb, hml, hown, hts⟩ (c4_number l D b e48) (cwV 0 hts (hw_gV hw_m231 hw_m232 hw_m233 hw_m21 hw_m234) rfl rfl rfl (by decide +kernel) ⟨(Nat.le_of_ble_eq_true rfl), (Nat.le_of_ble_eq_true rfl)⟩) (hw_preV (ci := 4) hE hR rfl (by decide) (hw_q_of ht48)) rfl rfl hl.sz rfl (lv_room (Nat.le_of_ble_eq_true rfl)) dX4_isClause_48 ⟨(Nat.le_of_ble_eq_true rfl), (Nat.le_of_ble_eq_true rfl)⟩) hS (fun _ _ hR hS => ?_)
    exact w4_isClause_b51 C0 hG hm hR hS (hl.sub [1, 2, 0] rfl)
  · have hm := hw_in hm c40
    refine lv_iconst (v := (-1)) hx hb dX4_isClause_43 (by decide) ?_
    refine lv_goto (tgt := 51) hx hb dX4_isClause_44 (by decide) ?_
    exact w4_isClause_b51 C0 hG hm hR hS (hl.sub [1, 2, 0] rfl)
def m4_isClause (x0 : Nat) (σ : hw_S) : Option (Int32 × hw_S) :=
  (hw_rv (hw_q 4) (some x0) σ).bind fun a1 =>
  (m4_ahead x0 σ).bind fun v1 =>
  (m4_wordOf v1 σ).bind fun v6 =>
  (if v6 = none then
  m4_isClause_b22 x0 σ
  else
  (hw_rv (hw_q 4) (some x0) σ).bind fun a16 =>
  hw_b2 (m4_comesWord x0 v6 σ) fun v16 σ16 =>
  (if v16 = 0 then
  m4_isClause_b22 x0 σ16
  else
  (if v1 = (102 : Int32) then
  (hw_rv (hw_q 4) (some x0) σ16).bind fun a31 =>
  hw_b2 (m4_formTold x0 σ16) fun v31 σ31 =>
  m4_isClause_b38 x0 v1 v31 σ31
  else
  m4_isClause_b38 x0 v1 (0 : Int32) σ16)))
set_option maxRecDepth 100000 in
theorem w4_isClause_s {p : Program} {l : Launch} {e : Env} {s : State} {m : MethodId} {args : Array Value} {below : List Frame} {meth : Method} {c : Code} {D : hw_D} {b : Nat} {g : hw_Sd} {x0 : Nat} {σ : hw_S} {r : Int32} {τ : hw_S} {H : Heap} {locs : List Loc} (hm : m4_isClause x0 σ = some (r, τ)) (C0 : hw_C p s m args meth c D yX4_isClause cX4_isClause 5 (some .boolean)) (hG : hw_G g b s s.heap) (hR : hw_R D b σ H) (hS : va_S (fun q => b ≤ q) s.heap H locs) {ls : Array Slot} (hl : hw_L ls 5 255 [(0, hw_vr b (some x0))]) : W p l e rm4_isClause s m args below meth c H locs 0 0 (MQ below (hw_QI D b τ r) args s 0 0 (fun q => b ≤ q)) (F0 m 0 ls []) := by
  obtain ⟨hx, hb, hml, hr, hown, hts, hlk, hE, hnm⟩ := id C0
  have hown : s.vm.findClass RX4 = some m.cls := hown
  have hK := hE.1
  unfold m4_isClause at hm
  refine hw_aload_n hx hb dX4_isClause_0 rfl (hl.at 0 rfl) ?_
  obtain ⟨a1, g1, hm⟩ := hw_bs hm
  obtain ⟨rfl, ht1⟩ := hw_rv_th g1
  obtain ⟨v1, e1, hm⟩ := hw_bs hm
  refine hw_cRI (va_runV (As := []) (rest := []) ⟨hx, hb, hml, hown, hts⟩ (c4_ahead l D b e1) (cwV 0 hts (hw_gV hw_m163 hw_m164 hw_m165 hw_m21 hw_m166) rfl rfl rfl (by decide +kernel) ⟨(Nat.le_of_ble_eq_true rfl), (Nat.le_of_ble_eq_true rfl)⟩) (hw_preV (ci := 4) hE hR rfl (by decide) (hw_q_of ht1)) rfl rfl hl.sz rfl (lv_room (Nat.le_of_ble_eq_true rfl)) dX4_isClause_1 ⟨(Nat.le_of_ble_eq_true rfl), (Nat.le_of_ble_eq_true rfl)⟩) ?_
  refine hw_istore_n (lv' := [(1, .int v1), (0, hw_vr b (some x0))]) hx hb dX4_isClause_4 rfl hl (by decide) (by decide) rfl (fun ls hl => ?_)
  refine lv_iload_n hx hb dX4_isClause_5 rfl (hl.at 0 rfl) ?_
  obtain ⟨v6, e6, hm⟩ := hw_bs hm
  refine hw_cSP (r := v6) (va_runS (As := [.int v1]) (rest := []) ⟨hx, hb, hml, hown, hts⟩ (c4_wordOf l D g b e6) (cwS 1 hts (hw_gS hw_m167 hw_m168 hw_m21 hw_m169) rfl rfl rfl (by decide +kernel) ⟨(Nat.le_of_ble_eq_true rfl), (Nat.le_of_ble_eq_true rfl)⟩) (hw_pre2 hE hR (hG.at hS)) rfl rfl hl.sz rfl (lv_room (Nat.le_of_ble_eq_true rfl)) dX4_isClause_6 ⟨(Nat.le_of_ble_eq_true rfl), (Nat.le_of_ble_eq_true rfl)⟩) ?_
  refine hw_ssto_n (lv' := [(2, hw_vs g v6), (1, .int v1), (0, hw_vr b (some x0))]) hx hb dX4_isClause_9 rfl hl (by decide) (by decide) rfl (fun ls hl => ?_)
  refine hw_sload_n hx hb dX4_isClause_10 rfl (hl.at 0 rfl) ?_
  refine hw_sifnull (tgt := 22) hx hb dX4_isClause_11 (by decide) (fun c11 => ?_) (fun c11 => ?_)
  · have hm := hw_ip hm c11
    exact w4_isClause_b22 C0 hG hm hR hS (hl.sub [2] rfl)
  · have hm := hw_in hm c11
    refine hw_aload_n hx hb dX4_isClause_14 rfl (hl.at 2 rfl) ?_
    refine hw_sload_n hx hb dX4_isClause_15 rfl (hl.at 0 rfl) ?_
    obtain ⟨a16, g16, hm⟩ := hw_bs hm
    obtain ⟨rfl, ht16⟩ := hw_rv_th g16
    obtain ⟨v16, σ16, e16, hm⟩ := hw_bs2 hm
    refine hw_cWI (va_runV (As := [hw_vs g v6]) (rest := []) ⟨hx, hb, hml, hown, hts⟩ (c4_comesWord l D g b e16) (cwV 1 hts (hw_gV hw_m170 hw_m171 hw_m172 hw_m21 hw_m173) rfl rfl rfl (by decide +kernel) ⟨(Nat.le_of_ble_eq_true rfl), (Nat.le_of_ble_eq_true rfl)⟩) (hw_preV2 (ci := 4) hE hR (hG.at hS) rfl (by decide) (hw_q_of ht16)) rfl rfl hl.sz rfl (lv_room (Nat.le_of_ble_eq_true rfl)) dX4_isClause_16 ⟨(Nat.le_of_ble_eq_true rfl), (Nat.le_of_ble_eq_true rfl)⟩) hS (fun _ _ hR hS => ?_)
    refine lv_if_ne (tgt := 24) hx hb dX4_isClause_19 (by decide) (fun c19 => ?_) (fun c19 => ?_)
    · have hm := hw_in hm c19
      refine lv_iload_n hx hb dX4_isClause_24 rfl (hl.at 1 rfl) ?_
      refine lv_bipush (v := 102) hx hb dX4_isClause_25 (by decide) ?_
      refine lv_icmp_ne (tgt := 37) hx hb dX4_isClause_27 (by decide) (fun c27 => ?_) (fun c27 => ?_)
      · have hm := hw_in hm c27
        refine lv_iconst (v := 0) hx hb dX4_isClause_37 (by decide) ?_
        exact w4_isClause_b38 C0 hG hm hR hS (hl.sub [2, 1] rfl)
      · have hm := hw_ip hm c27
        refine hw_aload_n hx hb dX4_isClause_30 rfl (hl.at 2 rfl) ?_
        obtain ⟨a31, g31, hm⟩ := hw_bs hm
        obtain ⟨rfl, ht31⟩ := hw_rv_th g31
        obtain ⟨v31, σ31, e31, hm⟩ := hw_bs2 hm
        refine hw_cWI (va_runV (As := []) (rest := []) ⟨hx, hb, hml, hown, hts⟩ (c4_formTold l D b e31) (cwV 0 hts (hw_gV hw_m227 hw_m228 hw_m229 hw_m21 hw_m230) rfl rfl rfl (by decide +kernel) ⟨(Nat.le_of_ble_eq_true rfl), (Nat.le_of_ble_eq_true rfl)⟩) (hw_preV (ci := 4) hE hR rfl (by decide) (hw_q_of ht31)) rfl rfl hl.sz rfl (lv_room (Nat.le_of_ble_eq_true rfl)) dX4_isClause_31 ⟨(Nat.le_of_ble_eq_true rfl), (Nat.le_of_ble_eq_true rfl)⟩) hS (fun _ _ hR hS => ?_)
        refine lv_goto (tgt := 38) hx hb dX4_isClause_34 (by decide) ?_
        exact w4_isClause_b38 C0 hG hm hR hS (hl.sub [2, 1] rfl)
    · have hm := hw_ip hm c19
      exact w4_isClause_b22 C0 hG hm hR hS (hl.sub [2] rfl)
set_option maxRecDepth 100000 in
theorem c4_isClause (l : Launch) (D : hw_D) (g : hw_Sd) (b : Nat) {x0 : Nat} {σ : hw_S} {r : Int32} {τ : hw_S} (hm : m4_isClause x0 σ = some (r, τ)) : Met l yX4_isClause (Cond.code yX4_isClause cX4_isClause 5 (some .boolean) :: wsL_law) rm4_isClause (hw_P2 D g b σ [hw_vr b (some x0)]) (hw_QI D b τ r) 0 0 (fun q => b ≤ q) := by
  refine hw_start2 (by decide +kernel) (by exact Nat.le_of_ble_eq_true rfl) ?_
  intro p e s m below meth c ls C0 hR hS hG hl
  have hl : lv_has ls 5 [(0, hw_vr b (some x0))] := by exact hl
  exact w4_isClause_s hm C0 hG hR hS ⟨hl, (List.forall_mem_cons.mpr ⟨(fun h => by rw [show (hw_vr b (some x0) : Value).category = 1 from (hw_vr_cat _ _)] at h; cases h), (fun _ h => absurd h List.not_mem_nil)⟩)⟩

abbrev rm4_isLaw : Room := { frames := 37, cells := 0, slots := 0, locals := 789 }
def m4_isLaw_b105 (x0 : Nat) (σ : hw_S) : Option (Int32 × hw_S) :=
  (hw_tf (0 : Int32)).bind fun _ =>
  some ((0 : Int32), σ)
set_option maxRecDepth 100000 in
theorem w4_isLaw_b105 {p : Program} {l : Launch} {e : Env} {s : State} {m : MethodId} {args : Array Value} {below : List Frame} {meth : Method} {c : Code} {D : hw_D} {b : Nat} {g : hw_Sd} {r : Int32} {τ : hw_S} (C0 : hw_C p s m args meth c D yX4_isLaw cX4_isLaw 4 (some .boolean)) (hG : hw_G g b s s.heap) {x0 : Nat} {σ : hw_S} {H : Heap} {locs : List Loc} (hm : m4_isLaw_b105 x0 σ = some (r, τ)) (hR : hw_R D b σ H) (hS : va_S (fun q => b ≤ q) s.heap H locs) {ls : Array Slot} (hl : hw_L ls 4 255 [(0, hw_vr b (some x0))]) : W p l e rm4_isLaw s m args below meth c H locs 0 0 (MQ below (hw_QI D b τ r) args s 0 0 (fun q => b ≤ q)) (F0 m 105 ls []) := by
  obtain ⟨hx, hb, hml, hr, hown, hts, hlk, hE, hnm⟩ := id C0
  have hown : s.vm.findClass RX4 = some m.cls := hown
  have hK := hE.1
  unfold m4_isLaw_b105 at hm
  refine lv_iconst (v := 0) hx hb dX4_isLaw_105 (by decide) ?_
  obtain ⟨_, z106, hm⟩ := hw_bs hm
  exact hw_rWZ hx hb hr hlk hR hS z106 hm dX4_isLaw_106
def m4_isLaw_b62 : Nat → Nat → Int32 → hw_S → Option (Int32 × hw_S)
  | 0, _, _, _ => none
  | n + 1, x0, l3, σ =>
  (if (10 : Int32) < l3 then
  (hw_tf (0 : Int32)).bind fun _ =>
  some ((0 : Int32), σ)
  else
  (hw_rv (hw_q 4) (some x0) σ).bind fun a69 =>
  hw_b2 (m4_isClause x0 σ) fun v69 σ69 =>
  (if v69 = 0 then
  (hw_tf (0 : Int32)).bind fun _ =>
  some ((0 : Int32), σ69)
  else
  (hw_gI (hw_q 4) 2 (some x0) σ69).bind fun v78 =>
  (hw_gI (hw_q 4) 1 (some x0) σ69).bind fun v82 =>
  (if v78 = v82 then
  (hw_tf (1 : Int32)).bind fun _ =>
  some ((1 : Int32), σ69)
  else
  (if l3 = (10 : Int32) then
  m4_isLaw_b105 x0 σ69
  else
  (hw_rv (hw_q 4) (some x0) σ69).bind fun a99 =>
  hw_b2 (m4_comes x0 (59 : Int32) σ69) fun v99 σ99 =>
  (if v99 = 0 then
  m4_isLaw_b105 x0 σ99
  else
  m4_isLaw_b62 n x0 (l3 + 1) σ99)))))
set_option maxRecDepth 100000 in
theorem w4_isLaw_b62 {p : Program} {l : Launch} {e : Env} {s : State} {m : MethodId} {args : Array Value} {below : List Frame} {meth : Method} {c : Code} {D : hw_D} {b : Nat} {g : hw_Sd} {r : Int32} {τ : hw_S} (C0 : hw_C p s m args meth c D yX4_isLaw cX4_isLaw 4 (some .boolean)) (hG : hw_G g b s s.heap) : ∀ (n : Nat) {x0 : Nat} {l3 : Int32} {σ : hw_S} {H : Heap} {locs : List Loc} {ls : Array Slot}, m4_isLaw_b62 n x0 l3 σ = some (r, τ) → hw_R D b σ H → va_S (fun q => b ≤ q) s.heap H locs → hw_L ls 4 255 [(0, hw_vr b (some x0)), (3, .int l3)] → W p l e rm4_isLaw s m args below meth c H locs 0 0 (MQ below (hw_QI D b τ r) args s 0 0 (fun q => b ≤ q)) (F0 m 62 ls []) := by
  obtain ⟨hx, hb, hml, hr, hown, hts, hlk, hE, hnm⟩ := id C0
  have hown : s.vm.findClass RX4 = some m.cls := hown
  have hK := hE.1
  intro n
  induction n with
  | zero => intro _ _ _ _ _ _ hm; cases hm
  | succ n ih =>
    intro x0 l3 σ H locs ls hm hR hS hl
    rw [m4_isLaw_b62] at hm
    refine lv_iload_n hx hb dX4_isLaw_62 rfl (hl.at 1 rfl) ?_
    refine lv_bipush (v := 10) hx hb dX4_isLaw_63 (by decide) ?_
    refine lv_icmp_gt (tgt := 113) hx hb dX4_isLaw_65 (by decide) (fun c65 => ?_) (fun c65 => ?_)
    · have hm := hw_ip hm c65
      refine lv_iconst (v := 0) hx hb dX4_isLaw_113 (by decide) ?_
      obtain ⟨_, z114, hm⟩ := hw_bs hm
      exact hw_rWZ hx hb hr hlk hR hS z114 hm dX4_isLaw_114
    · have hm := hw_in hm c65
      refine hw_aload_n hx hb dX4_isLaw_68 rfl (hl.at 0 rfl) ?_
      obtain ⟨a69, g69, hm⟩ := hw_bs hm
      obtain ⟨rfl, ht69⟩ := hw_rv_th g69
      obtain ⟨v69, σ69, e69, hm⟩ := hw_bs2 hm
      refine hw_cWI (va_runV (As := []) (rest := []) ⟨hx, hb, hml, hown, hts⟩ (c4_isClause l D g b e69) (cwV 0 hts (hw_gV hw_m159 hw_m160 hw_m161 hw_m21 hw_m162) rfl rfl rfl (by decide +kernel) ⟨(Nat.le_of_ble_eq_true rfl), (Nat.le_of_ble_eq_true rfl)⟩) (hw_preV2 (ci := 4) hE hR (hG.at hS) rfl (by decide) (hw_q_of ht69)) rfl rfl hl.sz rfl (lv_room (Nat.le_of_ble_eq_true rfl)) dX4_isLaw_69 ⟨(Nat.le_of_ble_eq_true rfl), (Nat.le_of_ble_eq_true rfl)⟩) hS (fun _ _ hR hS => ?_)
      refine lv_if_ne (tgt := 77) hx hb dX4_isLaw_72 (by decide) (fun c72 => ?_) (fun c72 => ?_)
      · have hm := hw_in hm c72
        refine hw_aload_n hx hb dX4_isLaw_77 rfl (hl.at 0 rfl) ?_
        obtain ⟨v78, e78, hm⟩ := hw_bs hm
        refine hw_getI hx hb hw_cf4 hts hown hK hR e78 (by decide) rfl (hts _ hw_m61) (fun _ h9 => h9) dX4_isLaw_78 ?_
        refine hw_aload_n hx hb dX4_isLaw_81 rfl (hl.at 0 rfl) ?_
        obtain ⟨v82, e82, hm⟩ := hw_bs hm
        refine hw_getI hx hb hw_cf4 hts hown hK hR e82 (by decide) rfl (hts _ hw_m60) (fun _ h9 => h9) dX4_isLaw_82 ?_
        refine lv_icmp_ne (tgt := 90) hx hb dX4_isLaw_85 (by decide) (fun c85 => ?_) (fun c85 => ?_)
        · have hm := hw_in hm c85
          refine lv_iload_n hx hb dX4_isLaw_90 rfl (hl.at 1 rfl) ?_
          refine lv_bipush (v := 10) hx hb dX4_isLaw_91 (by decide) ?_
          refine lv_icmp_eq (tgt := 105) hx hb dX4_isLaw_93 (by decide) (fun c93 => ?_) (fun c93 => ?_)
          · have hm := hw_ip hm c93
            exact w4_isLaw_b105 C0 hG hm hR hS (hl.sub [0] rfl)
          · have hm := hw_in hm c93
            refine hw_aload_n hx hb dX4_isLaw_96 rfl (hl.at 0 rfl) ?_
            refine lv_bipush (v := 59) hx hb dX4_isLaw_97 (by decide) ?_
            obtain ⟨a99, g99, hm⟩ := hw_bs hm
            obtain ⟨rfl, ht99⟩ := hw_rv_th g99
            obtain ⟨v99, σ99, e99, hm⟩ := hw_bs2 hm
            refine hw_cWI (va_runV (As := [.int (59 : Int32)]) (rest := []) ⟨hx, hb, hml, hown, hts⟩ (c4_comes l D b e99) (cwV 1 hts (hw_gV hw_m223 hw_m224 hw_m225 hw_m21 hw_m226) rfl rfl rfl (by decide +kernel) ⟨(Nat.le_of_ble_eq_true rfl), (Nat.le_of_ble_eq_true rfl)⟩) (hw_preV (ci := 4) hE hR rfl (by decide) (hw_q_of ht99)) rfl rfl hl.sz rfl (lv_room (Nat.le_of_ble_eq_true rfl)) dX4_isLaw_99 ⟨(Nat.le_of_ble_eq_true rfl), (Nat.le_of_ble_eq_true rfl)⟩) hS (fun _ _ hR hS => ?_)
            refine lv_if_ne (tgt := 107) hx hb dX4_isLaw_102 (by decide) (fun c102 => ?_) (fun c102 => ?_)
            · have hm := hw_in hm c102
              refine hw_iinc (v := (l3 + 1)) (lv' := [(3, .int (l3 + 1)), (0, hw_vr b (some x0))]) hx hb dX4_isLaw_107 hl (k := 1) rfl rfl (by decide) (by decide) rfl (fun ls hl => ?_)
              refine lv_goto (tgt := 62) hx hb dX4_isLaw_110 (by decide) ?_
              exact ih hm hR hS (hl.sub [1, 0] rfl)
            · have hm := hw_ip hm c102
              exact w4_isLaw_b105 C0 hG hm hR hS (hl.sub [0] rfl)
        · have hm := hw_ip hm c85
          refine lv_iconst (v := 1) hx hb dX4_isLaw_88 (by decide) ?_
          obtain ⟨_, z89, hm⟩ := hw_bs hm
          exact hw_rWZ hx hb hr hlk hR hS z89 hm dX4_isLaw_89
      · have hm := hw_ip hm c72
        refine lv_iconst (v := 0) hx hb dX4_isLaw_75 (by decide) ?_
        obtain ⟨_, z76, hm⟩ := hw_bs hm
        exact hw_rWZ hx hb hr hlk hR hS z76 hm dX4_isLaw_76
def m4_isLaw_b38 : Nat → Nat → Int32 → hw_S → Option (Int32 × hw_S)
  | 0, _, _, _ => none
  | n + 1, x0, l3, σ =>
  (if (4 : Int32) ≤ l3 then
  m4_isLaw_b62 hw_fu x0 (1 : Int32) σ
  else
  (hw_gP (hw_q 4) 5 (some x0) σ).bind fun v44 =>
  (hw_sI v44 l3 ((3 : Int32) * (l3 + (1 : Int32))) σ).bind fun σ53 =>
  m4_isLaw_b38 n x0 (l3 + 1) σ53)
set_option maxRecDepth 100000 in
theorem w4_isLaw_b38 {p : Program} {l : Launch} {e : Env} {s : State} {m : MethodId} {args : Array Value} {below : List Frame} {meth : Method} {c : Code} {D : hw_D} {b : Nat} {g : hw_Sd} {r : Int32} {τ : hw_S} (C0 : hw_C p s m args meth c D yX4_isLaw cX4_isLaw 4 (some .boolean)) (hG : hw_G g b s s.heap) : ∀ (n : Nat) {x0 : Nat} {l3 : Int32} {σ : hw_S} {H : Heap} {locs : List Loc} {ls : Array Slot}, m4_isLaw_b38 n x0 l3 σ = some (r, τ) → hw_R D b σ H → va_S (fun q => b ≤ q) s.heap H locs → hw_L ls 4 255 [(0, hw_vr b (some x0)), (3, .int l3)] → W p l e rm4_isLaw s m args below meth c H locs 0 0 (MQ below (hw_QI D b τ r) args s 0 0 (fun q => b ≤ q)) (F0 m 38 ls []) := by
  obtain ⟨hx, hb, hml, hr, hown, hts, hlk, hE, hnm⟩ := id C0
  have hown : s.vm.findClass RX4 = some m.cls := hown
  have hK := hE.1
  intro n
  induction n with
  | zero => intro _ _ _ _ _ _ hm; cases hm
  | succ n ih =>
    intro x0 l3 σ H locs ls hm hR hS hl
    rw [m4_isLaw_b38] at hm
    refine lv_iload_n hx hb dX4_isLaw_38 rfl (hl.at 1 rfl) ?_
    refine lv_iconst (v := 4) hx hb dX4_isLaw_39 (by decide) ?_
    refine lv_icmp_ge (tgt := 60) hx hb dX4_isLaw_40 (by decide) (fun c40 => ?_) (fun c40 => ?_)
    · have hm := hw_ip hm c40
      refine lv_iconst (v := 1) hx hb dX4_isLaw_60 (by decide) ?_
      refine hw_istore_n (lv' := [(3, .int (1 : Int32)), (0, hw_vr b (some x0))]) hx hb dX4_isLaw_61 rfl hl (by decide) (by decide) rfl (fun ls hl => ?_)
      exact w4_isLaw_b62 C0 hG hw_fu hm hR hS (hl.sub [1, 0] rfl)
    · have hm := hw_in hm c40
      refine hw_aload_n hx hb dX4_isLaw_43 rfl (hl.at 0 rfl) ?_
      obtain ⟨v44, e44, hm⟩ := hw_bs hm
      refine hw_getP hx hb hw_cf4 hts hown hK hR e44 (by decide) rfl (hts _ hw_m64) (fun _ h9 => h9) dX4_isLaw_44 ?_
      refine lv_iload_n hx hb dX4_isLaw_47 rfl (hl.at 1 rfl) ?_
      refine lv_iconst (v := 3) hx hb dX4_isLaw_48 (by decide) ?_
      refine lv_iload_n hx hb dX4_isLaw_49 rfl (hl.at 1 rfl) ?_
      refine lv_iconst (v := 1) hx hb dX4_isLaw_50 (by decide) ?_
      refine lv_iadd hx hb dX4_isLaw_51 ?_
      refine lv_imul hx hb dX4_isLaw_52 ?_
      obtain ⟨σ53, e53, hm⟩ := hw_bs hm
      refine hw_iast hx hb hK hR hS e53 dX4_isLaw_53 (fun _ _ hR hS => ?_)
      refine hw_iinc (v := (l3 + 1)) (lv' := [(3, .int (l3 + 1)), (0, hw_vr b (some x0))]) hx hb dX4_isLaw_54 hl (k := 1) rfl rfl (by decide) (by decide) rfl (fun ls hl => ?_)
      refine lv_goto (tgt := 38) hx hb dX4_isLaw_57 (by decide) ?_
      exact ih hm hR hS (hl.sub [1, 0] rfl)
def m4_isLaw (x0 : Nat) (l1 : Option Nat) (l2 : Int32) (σ : hw_S) : Option (Int32 × hw_S) :=
  (hw_pP (hw_q 4) 0 (some x0) l1 σ).bind fun σ2 =>
  (hw_aL l1 σ2).bind fun v8 =>
  (hw_pI (hw_q 4) 1 (some x0) (hw_min l2 v8) σ2).bind fun σ12 =>
  (hw_pI (hw_q 4) 2 (some x0) (0 : Int32) σ12).bind fun σ17 =>
  (hw_pI (hw_q 4) 4 (some x0) (0 : Int32) σ17).bind fun σ22 =>
  (hw_pI (hw_q 4) 6 (some x0) (20 : Int32) σ22).bind fun σ28 =>
  (hw_pI (hw_q 4) 7 (some x0) (0 : Int32) σ28).bind fun σ33 =>
  m4_isLaw_b38 hw_fu x0 (0 : Int32) σ33
set_option maxRecDepth 100000 in
theorem w4_isLaw_s {p : Program} {l : Launch} {e : Env} {s : State} {m : MethodId} {args : Array Value} {below : List Frame} {meth : Method} {c : Code} {D : hw_D} {b : Nat} {g : hw_Sd} {x0 : Nat} {l1 : Option Nat} {l2 : Int32} {σ : hw_S} {r : Int32} {τ : hw_S} {H : Heap} {locs : List Loc} (hm : m4_isLaw x0 l1 l2 σ = some (r, τ)) (C0 : hw_C p s m args meth c D yX4_isLaw cX4_isLaw 4 (some .boolean)) (hG : hw_G g b s s.heap) (hR : hw_R D b σ H) (hS : va_S (fun q => b ≤ q) s.heap H locs) {ls : Array Slot} (hl : hw_L ls 4 255 [(0, hw_vr b (some x0)), (1, hw_vr b l1), (2, .int l2)]) : W p l e rm4_isLaw s m args below meth c H locs 0 0 (MQ below (hw_QI D b τ r) args s 0 0 (fun q => b ≤ q)) (F0 m 0 ls []) := by
  obtain ⟨hx, hb, hml, hr, hown, hts, hlk, hE, hnm⟩ := id C0
  have hown : s.vm.findClass RX4 = some m.cls := hown
  have hK := hE.1
  unfold m4_isLaw at hm
  refine hw_aload_n hx hb dX4_isLaw_0 rfl (hl.at 0 rfl) ?_
  refine hw_aload_n hx hb dX4_isLaw_1 rfl (hl.at 1 rfl) ?_
  obtain ⟨σ2, e2, hm⟩ := hw_bs hm
  refine hw_putP hx hb hw_cf4 hts hown hK hR hS e2 (by decide) rfl rfl (hts _ hw_m59) (fun _ h9 => h9) (Or.inl rfl) dX4_isLaw_2 (fun _ _ hR hS => ?_)
  refine hw_aload_n hx hb dX4_isLaw_5 rfl (hl.at 0 rfl) ?_
  refine lv_iload_n hx hb dX4_isLaw_6 rfl (hl.at 2 rfl) ?_
  refine hw_aload_n hx hb dX4_isLaw_7 rfl (hl.at 1 rfl) ?_
  obtain ⟨v8, e8, hm⟩ := hw_bs hm
  refine hw_alen hx hb hK hR e8 dX4_isLaw_8 ?_
  refine hw_mmin hx hb hml hl hown (hts _ hw_m155) (hts _ hw_m156) (hts _ hw_m157) (hts _ hw_m158) (Nat.le_of_ble_eq_true rfl) ⟨hw_sm (List.forall_mem_cons.mpr ⟨(hw_vr_cat _ _), (fun _ h => absurd h List.not_mem_nil)⟩) (Nat.le_of_ble_eq_true rfl), (Nat.le_of_ble_eq_true rfl)⟩ (Nat.zero_le _) (Nat.zero_le _) dX4_isLaw_9 ?_
  obtain ⟨σ12, e12, hm⟩ := hw_bs hm
  refine hw_putI hx hb hw_cf4 hts hown hK hR hS e12 (by decide) rfl rfl (hts _ hw_m60) (fun _ h9 => h9) (Or.inl rfl) dX4_isLaw_12 (fun _ _ hR hS => ?_)
  refine hw_aload_n hx hb dX4_isLaw_15 rfl (hl.at 0 rfl) ?_
  refine lv_iconst (v := 0) hx hb dX4_isLaw_16 (by decide) ?_
  obtain ⟨σ17, e17, hm⟩ := hw_bs hm
  refine hw_putI hx hb hw_cf4 hts hown hK hR hS e17 (by decide) rfl rfl (hts _ hw_m61) (fun _ h9 => h9) (Or.inl rfl) dX4_isLaw_17 (fun _ _ hR hS => ?_)
  refine hw_aload_n hx hb dX4_isLaw_20 rfl (hl.at 0 rfl) ?_
  refine lv_iconst (v := 0) hx hb dX4_isLaw_21 (by decide) ?_
  obtain ⟨σ22, e22, hm⟩ := hw_bs hm
  refine hw_putI hx hb hw_cf4 hts hown hK hR hS e22 (by decide) rfl rfl (hts _ hw_m63) (fun _ h9 => h9) (Or.inl rfl) dX4_isLaw_22 (fun _ _ hR hS => ?_)
  refine hw_aload_n hx hb dX4_isLaw_25 rfl (hl.at 0 rfl) ?_
  refine lv_bipush (v := 20) hx hb dX4_isLaw_26 (by decide) ?_
  obtain ⟨σ28, e28, hm⟩ := hw_bs hm
  refine hw_putI hx hb hw_cf4 hts hown hK hR hS e28 (by decide) rfl rfl (hts _ hw_m65) (fun _ h9 => h9) (Or.inl rfl) dX4_isLaw_28 (fun _ _ hR hS => ?_)
  refine hw_aload_n hx hb dX4_isLaw_31 rfl (hl.at 0 rfl) ?_
  refine lv_iconst (v := 0) hx hb dX4_isLaw_32 (by decide) ?_
  obtain ⟨σ33, e33, hm⟩ := hw_bs hm
  refine hw_putI hx hb hw_cf4 hts hown hK hR hS e33 (by decide) rfl rfl (hts _ hw_m66) (fun _ h9 => h9) (Or.inl rfl) dX4_isLaw_33 (fun _ _ hR hS => ?_)
  refine lv_iconst (v := 0) hx hb dX4_isLaw_36 (by decide) ?_
  refine hw_istore_n (lv' := [(3, .int (0 : Int32)), (0, hw_vr b (some x0)), (1, hw_vr b l1), (2, .int l2)]) hx hb dX4_isLaw_37 rfl hl (by decide) (by decide) rfl (fun ls hl => ?_)
  exact w4_isLaw_b38 C0 hG hw_fu hm hR hS (hl.sub [1, 0] rfl)
set_option maxRecDepth 100000 in
theorem c4_isLaw (l : Launch) (D : hw_D) (g : hw_Sd) (b : Nat) {x0 : Nat} {l1 : Option Nat} {l2 : Int32} {σ : hw_S} {r : Int32} {τ : hw_S} (hm : m4_isLaw x0 l1 l2 σ = some (r, τ)) : Met l yX4_isLaw (Cond.code yX4_isLaw cX4_isLaw 4 (some .boolean) :: wsL_law) rm4_isLaw (hw_P2 D g b σ [hw_vr b (some x0), hw_vr b l1, .int l2]) (hw_QI D b τ r) 0 0 (fun q => b ≤ q) := by
  refine hw_start2 (by decide +kernel) (by cases l1 <;> exact Nat.le_of_ble_eq_true rfl) ?_
  intro p e s m below meth c ls C0 hR hS hG hl
  have hl : lv_has ls 4 [(0, hw_vr b (some x0)), (1, hw_vr b l1), (2, .int l2)] := by cases l1 <;> exact hl
  exact w4_isLaw_s hm C0 hG hR hS ⟨hl, (List.forall_mem_cons.mpr ⟨(fun h => by rw [show (hw_vr b (some x0) : Value).category = 1 from (hw_vr_cat _ _)] at h; cases h), (List.forall_mem_cons.mpr ⟨(fun h => by rw [show (hw_vr b l1 : Value).category = 1 from (hw_vr_cat _ _)] at h; cases h), (List.forall_mem_cons.mpr ⟨(fun h => absurd (show (1 : Nat) = 2 from h) (by decide)), (fun _ h => absurd h List.not_mem_nil)⟩)⟩)⟩)⟩

abbrev rm12_here : Room := { frames := 0, cells := 0, slots := 0, locals := 0 }
def m12_here_b27 (x0 : Nat) (t0 : Int32) (σ : hw_S) : Option Int32 :=
  some t0
set_option maxRecDepth 100000 in
theorem w12_here_b27 {p : Program} {l : Launch} {e : Env} {s : State} {m : MethodId} {args : Array Value} {below : List Frame} {meth : Method} {c : Code} {D : hw_D} {b : Nat} {r : Int32} (C0 : hw_C p s m args meth c D yX12_here cX12_here 1 (some .int)) {x0 : Nat} {t0 : Int32} {σ : hw_S} (hm : m12_here_b27 x0 t0 σ = some r) (hR : hw_R D b σ s.heap) {ls : Array Slot} (hl : hw_L ls 1 255 [(0, hw_vr b (some x0))]) : W p l e rm12_here s m args below meth c s.heap [] 0 0 (MQ below (hw_RI r) args s 0 0 hw_nof) (F0 m 27 ls [.int t0]) := by
  obtain ⟨hx, hb, hml, hr, hown, hts, hlk, hE, hnm⟩ := id C0
  have hown : s.vm.findClass RX12 = some m.cls := hown
  have hK := hE.1
  unfold m12_here_b27 at hm
  exact hw_rRI hx hb hr hlk hm dX12_here_27
def m12_here (x0 : Nat) (σ : hw_S) : Option Int32 :=
  (hw_gI (hw_q 12) 5 (some x0) σ).bind fun v1 =>
  (hw_gI (hw_q 12) 6 (some x0) σ).bind fun v5 =>
  (if v5 ≤ v1 then
  m12_here_b27 x0 ((-1) : Int32) σ
  else
  (hw_gP (hw_q 12) 1 (some x0) σ).bind fun v12 =>
  (hw_gI (hw_q 12) 5 (some x0) σ).bind fun v18 =>
  (hw_aI 0 v12 ((10 : Int32) + v18) σ).bind fun v22 =>
  m12_here_b27 x0 v22 σ)
set_option maxRecDepth 100000 in
theorem w12_here_s {p : Program} {l : Launch} {e : Env} {s : State} {m : MethodId} {args : Array Value} {below : List Frame} {meth : Method} {c : Code} {D : hw_D} {b : Nat} {x0 : Nat} {σ : hw_S} {r : Int32} (hm : m12_here x0 σ = some r) (C0 : hw_C p s m args meth c D yX12_here cX12_here 1 (some .int)) (hR : hw_R D b σ s.heap) {ls : Array Slot} (hl : hw_L ls 1 255 [(0, hw_vr b (some x0))]) : W p l e rm12_here s m args below meth c s.heap [] 0 0 (MQ below (hw_RI r) args s 0 0 hw_nof) (F0 m 0 ls []) := by
  obtain ⟨hx, hb, hml, hr, hown, hts, hlk, hE, hnm⟩ := id C0
  have hown : s.vm.findClass RX12 = some m.cls := hown
  have hK := hE.1
  unfold m12_here at hm
  refine hw_aload_n hx hb dX12_here_0 rfl (hl.at 0 rfl) ?_
  obtain ⟨v1, e1, hm⟩ := hw_bs hm
  refine hw_getI hx hb hw_cf12 hts hown hK hR e1 (by decide) rfl (hts _ hw_m349) (fun _ h9 => h9) dX12_here_1 ?_
  refine hw_aload_n hx hb dX12_here_4 rfl (hl.at 0 rfl) ?_
  obtain ⟨v5, e5, hm⟩ := hw_bs hm
  refine hw_getI hx hb hw_cf12 hts hown hK hR e5 (by decide) rfl (hts _ hw_m348) (fun _ h9 => h9) dX12_here_5 ?_
  refine lv_icmp_ge (tgt := 26) hx hb dX12_here_8 (by decide) (fun c8 => ?_) (fun c8 => ?_)
  · have hm := hw_ip hm c8
    refine lv_iconst (v := (-1)) hx hb dX12_here_26 (by decide) ?_
    exact w12_here_b27 C0 hm hR (hl.sub [0] rfl)
  · have hm := hw_in hm c8
    refine hw_aload_n hx hb dX12_here_11 rfl (hl.at 0 rfl) ?_
    obtain ⟨v12, e12, hm⟩ := hw_bs hm
    refine hw_getP hx hb hw_cf12 hts hown hK hR e12 (by decide) rfl (hts _ hw_m76) (fun _ h9 => h9) dX12_here_12 ?_
    refine lv_bipush (v := 10) hx hb dX12_here_15 (by decide) ?_
    refine hw_aload_n hx hb dX12_here_17 rfl (hl.at 0 rfl) ?_
    obtain ⟨v18, e18, hm⟩ := hw_bs hm
    refine hw_getI hx hb hw_cf12 hts hown hK hR e18 (by decide) rfl (hts _ hw_m349) (fun _ h9 => h9) dX12_here_18 ?_
    refine lv_iadd hx hb dX12_here_21 ?_
    obtain ⟨v22, e22, hm⟩ := hw_bs hm
    refine hw_iald hx hb hK hR e22 dX12_here_22 ?_
    refine lv_goto (tgt := 27) hx hb dX12_here_23 (by decide) ?_
    exact w12_here_b27 C0 hm hR (hl.sub [0] rfl)
set_option maxRecDepth 100000 in
theorem c12_here (l : Launch) (D : hw_D) (b : Nat) {x0 : Nat} {σ : hw_S} {r : Int32} (hm : m12_here x0 σ = some r) : Met l yX12_here (Cond.code yX12_here cX12_here 1 (some .int) :: wsL_law) rm12_here (hw_P1 D b σ [hw_vr b (some x0)]) (hw_RI r) 0 0 hw_nof := by
  refine hw_start1 (by decide +kernel) (by exact Nat.le_of_ble_eq_true rfl) ?_
  intro p e s m below meth c ls C0 hR hS hl
  have hl : lv_has ls 1 [(0, hw_vr b (some x0))] := by exact hl
  exact w12_here_s hm C0 hR ⟨hl, (List.forall_mem_cons.mpr ⟨(fun h => by rw [show (hw_vr b (some x0) : Value).category = 1 from (hw_vr_cat _ _)] at h; cases h), (fun _ h => absurd h List.not_mem_nil)⟩)⟩

abbrev rm12_must : Room := { frames := 1, cells := 0, slots := 0, locals := 20 }
def m12_must_b41 (x0 : Nat) (t0 : Nat) (t1 : Int32) (t2 : Int32) (σ : hw_S) : Option hw_S :=
  (hw_pI (hw_q 12) 5 (some t0) (t1 + t2) σ).bind fun σ42 =>
  some σ42
set_option maxRecDepth 100000 in
theorem w12_must_b41 {p : Program} {l : Launch} {e : Env} {s : State} {m : MethodId} {args : Array Value} {below : List Frame} {meth : Method} {c : Code} {D : hw_D} {b : Nat} {τ : hw_S} (C0 : hw_C p s m args meth c D yX12_must cX12_must 2 none) {x0 : Nat} {t0 : Nat} {t1 : Int32} {t2 : Int32} {σ : hw_S} {H : Heap} {locs : List Loc} (hm : m12_must_b41 x0 t0 t1 t2 σ = some τ) (hR : hw_R D b σ H) (hS : va_S (fun q => b ≤ q) s.heap H locs) {ls : Array Slot} (hl : hw_L ls 2 255 [(0, hw_vr b (some x0))]) : W p l e rm12_must s m args below meth c H locs 0 0 (MQ below (hw_QV D b τ) args s 0 0 (fun q => b ≤ q)) (F0 m 41 ls [.int t2, .int t1, hw_vr b (some t0)]) := by
  obtain ⟨hx, hb, hml, hr, hown, hts, hlk, hE, hnm⟩ := id C0
  have hown : s.vm.findClass RX12 = some m.cls := hown
  have hK := hE.1
  unfold m12_must_b41 at hm
  refine lv_iadd hx hb dX12_must_41 ?_
  obtain ⟨σ42, e42, hm⟩ := hw_bs hm
  refine hw_putI hx hb hw_cf12 hts hown hK hR hS e42 (by decide) rfl rfl (hts _ hw_m349) (fun _ h9 => h9) (Or.inl rfl) dX12_must_42 (fun _ _ hR hS => ?_)
  exact hw_rWV hx hb hr hlk hR hS hm dX12_must_45
def m12_must_b21 (x0 : Nat) (t0 : Nat) (t1 : Int32) (σ : hw_S) : Option hw_S :=
  (hw_tf t1).bind fun _ =>
  (hw_pI (hw_q 12) 7 (some t0) t1 σ).bind fun σ21 =>
  (hw_gI (hw_q 12) 5 (some x0) σ21).bind fun v26 =>
  (hw_gI (hw_q 12) 7 (some x0) σ21).bind fun v30 =>
  (if v30 = 0 then
  m12_must_b41 x0 x0 v26 (1 : Int32) σ21
  else
  m12_must_b41 x0 x0 v26 (0 : Int32) σ21)
set_option maxRecDepth 100000 in
theorem w12_must_b21 {p : Program} {l : Launch} {e : Env} {s : State} {m : MethodId} {args : Array Value} {below : List Frame} {meth : Method} {c : Code} {D : hw_D} {b : Nat} {τ : hw_S} (C0 : hw_C p s m args meth c D yX12_must cX12_must 2 none) {x0 : Nat} {t0 : Nat} {t1 : Int32} {σ : hw_S} {H : Heap} {locs : List Loc} (hm : m12_must_b21 x0 t0 t1 σ = some τ) (hR : hw_R D b σ H) (hS : va_S (fun q => b ≤ q) s.heap H locs) {ls : Array Slot} (hl : hw_L ls 2 255 [(0, hw_vr b (some x0))]) : W p l e rm12_must s m args below meth c H locs 0 0 (MQ below (hw_QV D b τ) args s 0 0 (fun q => b ≤ q)) (F0 m 21 ls [.int t1, hw_vr b (some t0)]) := by
  obtain ⟨hx, hb, hml, hr, hown, hts, hlk, hE, hnm⟩ := id C0
  have hown : s.vm.findClass RX12 = some m.cls := hown
  have hK := hE.1
  unfold m12_must_b21 at hm
  obtain ⟨_, z21, hm⟩ := hw_bs hm
  obtain ⟨σ21, e21, hm⟩ := hw_bs hm
  refine hw_putZ hx hb hw_cf12 hts hown hK hR hS z21 e21 (by decide) rfl rfl (hts _ hw_m350) (fun _ h9 => h9) (Or.inl rfl) dX12_must_21 (fun _ _ hR hS => ?_)
  refine hw_aload_n hx hb dX12_must_24 rfl (hl.at 0 rfl) ?_
  refine lv_dup hx hb dX12_must_25 (hw_vr_cat _ _) ?_
  obtain ⟨v26, e26, hm⟩ := hw_bs hm
  refine hw_getI hx hb hw_cf12 hts hown hK hR e26 (by decide) rfl (hts _ hw_m349) (fun _ h9 => h9) dX12_must_26 ?_
  refine hw_aload_n hx hb dX12_must_29 rfl (hl.at 0 rfl) ?_
  obtain ⟨v30, e30, hm⟩ := hw_bs hm
  refine hw_getI hx hb hw_cf12 hts hown hK hR e30 (by decide) rfl (hts _ hw_m350) (fun _ h9 => h9) dX12_must_30 ?_
  refine lv_if_eq (tgt := 40) hx hb dX12_must_33 (by decide) (fun c33 => ?_) (fun c33 => ?_)
  · have hm := hw_ip hm c33
    refine lv_iconst (v := 1) hx hb dX12_must_40 (by decide) ?_
    exact w12_must_b41 C0 hm hR hS (hl.sub [0] rfl)
  · have hm := hw_in hm c33
    refine lv_iconst (v := 0) hx hb dX12_must_36 (by decide) ?_
    refine lv_goto (tgt := 41) hx hb dX12_must_37 (by decide) ?_
    exact w12_must_b41 C0 hm hR hS (hl.sub [0] rfl)
def m12_must_b16 (x0 : Nat) (t0 : Nat) (σ : hw_S) : Option hw_S :=
  m12_must_b21 x0 t0 (1 : Int32) σ
set_option maxRecDepth 100000 in
theorem w12_must_b16 {p : Program} {l : Launch} {e : Env} {s : State} {m : MethodId} {args : Array Value} {below : List Frame} {meth : Method} {c : Code} {D : hw_D} {b : Nat} {τ : hw_S} (C0 : hw_C p s m args meth c D yX12_must cX12_must 2 none) {x0 : Nat} {t0 : Nat} {σ : hw_S} {H : Heap} {locs : List Loc} (hm : m12_must_b16 x0 t0 σ = some τ) (hR : hw_R D b σ H) (hS : va_S (fun q => b ≤ q) s.heap H locs) {ls : Array Slot} (hl : hw_L ls 2 255 [(0, hw_vr b (some x0))]) : W p l e rm12_must s m args below meth c H locs 0 0 (MQ below (hw_QV D b τ) args s 0 0 (fun q => b ≤ q)) (F0 m 16 ls [hw_vr b (some t0)]) := by
  obtain ⟨hx, hb, hml, hr, hown, hts, hlk, hE, hnm⟩ := id C0
  have hown : s.vm.findClass RX12 = some m.cls := hown
  have hK := hE.1
  unfold m12_must_b16 at hm
  refine lv_iconst (v := 1) hx hb dX12_must_16 (by decide) ?_
  refine lv_goto (tgt := 21) hx hb dX12_must_17 (by decide) ?_
  exact w12_must_b21 C0 hm hR hS (hl.sub [0] rfl)
def m12_must (x0 : Nat) (l1 : Int32) (σ : hw_S) : Option hw_S :=
  (hw_gI (hw_q 12) 7 (some x0) σ).bind fun v2 =>
  (if v2 = 0 then
  (hw_rv (hw_q 12) (some x0) σ).bind fun a9 =>
  (m12_here x0 σ).bind fun v9 =>
  (if v9 = l1 then
  m12_must_b21 x0 x0 (0 : Int32) σ
  else
  m12_must_b16 x0 x0 σ)
  else
  m12_must_b16 x0 x0 σ)
set_option maxRecDepth 100000 in
theorem w12_must_s {p : Program} {l : Launch} {e : Env} {s : State} {m : MethodId} {args : Array Value} {below : List Frame} {meth : Method} {c : Code} {D : hw_D} {b : Nat} {x0 : Nat} {l1 : Int32} {σ : hw_S} {τ : hw_S} {H : Heap} {locs : List Loc} (hm : m12_must x0 l1 σ = some τ) (C0 : hw_C p s m args meth c D yX12_must cX12_must 2 none) (hR : hw_R D b σ H) (hS : va_S (fun q => b ≤ q) s.heap H locs) {ls : Array Slot} (hl : hw_L ls 2 255 [(0, hw_vr b (some x0)), (1, .int l1)]) : W p l e rm12_must s m args below meth c H locs 0 0 (MQ below (hw_QV D b τ) args s 0 0 (fun q => b ≤ q)) (F0 m 0 ls []) := by
  obtain ⟨hx, hb, hml, hr, hown, hts, hlk, hE, hnm⟩ := id C0
  have hown : s.vm.findClass RX12 = some m.cls := hown
  have hK := hE.1
  unfold m12_must at hm
  refine hw_aload_n hx hb dX12_must_0 rfl (hl.at 0 rfl) ?_
  refine hw_aload_n hx hb dX12_must_1 rfl (hl.at 0 rfl) ?_
  obtain ⟨v2, e2, hm⟩ := hw_bs hm
  refine hw_getI hx hb hw_cf12 hts hown hK hR e2 (by decide) rfl (hts _ hw_m350) (fun _ h9 => h9) dX12_must_2 ?_
  refine lv_if_ne (tgt := 16) hx hb dX12_must_5 (by decide) (fun c5 => ?_) (fun c5 => ?_)
  · have hm := hw_in hm c5
    exact w12_must_b16 C0 hm hR hS (hl.sub [0] rfl)
  · have hm := hw_ip hm c5
    refine hw_aload_n hx hb dX12_must_8 rfl (hl.at 0 rfl) ?_
    obtain ⟨a9, g9, hm⟩ := hw_bs hm
    obtain ⟨rfl, ht9⟩ := hw_rv_th g9
    obtain ⟨v9, e9, hm⟩ := hw_bs hm
    refine hw_cRI (va_runV (As := []) (rest := [hw_vr b (some x0)]) ⟨hx, hb, hml, hown, hts⟩ (c12_here l D b e9) (cwV 0 hts (hw_gV hw_m356 hw_m357 hw_m358 hw_m5 hw_m359) rfl rfl rfl (by decide +kernel) ⟨(Nat.le_of_ble_eq_true rfl), (Nat.le_of_ble_eq_true rfl)⟩) (hw_preV (ci := 12) hE hR rfl (by decide) (hw_q_of ht9)) rfl rfl hl.sz rfl (lv_room (hw_sm (List.forall_mem_cons.mpr ⟨(hw_vr_cat _ _), (fun _ h => absurd h List.not_mem_nil)⟩) (Nat.le_of_ble_eq_true rfl))) dX12_must_9 ⟨(Nat.le_of_ble_eq_true rfl), (Nat.le_of_ble_eq_true rfl)⟩) ?_
    refine lv_iload_n hx hb dX12_must_12 rfl (hl.at 1 rfl) ?_
    refine lv_icmp_eq (tgt := 20) hx hb dX12_must_13 (by decide) (fun c13 => ?_) (fun c13 => ?_)
    · have hm := hw_ip hm c13
      refine lv_iconst (v := 0) hx hb dX12_must_20 (by decide) ?_
      exact w12_must_b21 C0 hm hR hS (hl.sub [0] rfl)
    · have hm := hw_in hm c13
      exact w12_must_b16 C0 hm hR hS (hl.sub [0] rfl)
set_option maxRecDepth 100000 in
theorem c12_must (l : Launch) (D : hw_D) (b : Nat) {x0 : Nat} {l1 : Int32} {σ : hw_S} {τ : hw_S} (hm : m12_must x0 l1 σ = some τ) : Met l yX12_must (Cond.code yX12_must cX12_must 2 none :: wsL_law) rm12_must (hw_P1 D b σ [hw_vr b (some x0), .int l1]) (hw_QV D b τ) 0 0 (fun q => b ≤ q) := by
  refine hw_start1 (by decide +kernel) (by exact Nat.le_of_ble_eq_true rfl) ?_
  intro p e s m below meth c ls C0 hR hS hl
  have hl : lv_has ls 2 [(0, hw_vr b (some x0)), (1, .int l1)] := by exact hl
  exact w12_must_s hm C0 hR hS ⟨hl, (List.forall_mem_cons.mpr ⟨(fun h => by rw [show (hw_vr b (some x0) : Value).category = 1 from (hw_vr_cat _ _)] at h; cases h), (List.forall_mem_cons.mpr ⟨(fun h => absurd (show (1 : Nat) = 2 from h) (by decide)), (fun _ h => absurd h List.not_mem_nil)⟩)⟩)⟩

abbrev rm12_spells : Room := { frames := 4, cells := 0, slots := 0, locals := 87 }
def m12_spells_b2 : Nat → Nat → Option Nat → Int32 → hw_S → Option hw_S
  | 0, _, _, _, _ => none
  | n + 1, x0, l1, l2, σ =>
  (hw_sl l1).bind fun v4 =>
  (if v4 ≤ l2 then
  some σ
  else
  (hw_sc l1 l2).bind fun v13 =>
  (hw_rv (hw_q 12) (some x0) σ).bind fun a16 =>
  (m12_must x0 v13 σ).bind fun σ16 =>
  m12_spells_b2 n x0 l1 (l2 + 1) σ16)
set_option maxRecDepth 100000 in
theorem w12_spells_b2 {p : Program} {l : Launch} {e : Env} {s : State} {m : MethodId} {args : Array Value} {below : List Frame} {meth : Method} {c : Code} {D : hw_D} {b : Nat} {g : hw_Sd} {τ : hw_S} (C0 : hw_C p s m args meth c D yX12_spells cX12_spells 3 none) (hG : hw_G g b s s.heap) : ∀ (n : Nat) {x0 : Nat} {l1 : Option Nat} {l2 : Int32} {σ : hw_S} {H : Heap} {locs : List Loc} {ls : Array Slot}, m12_spells_b2 n x0 l1 l2 σ = some τ → hw_R D b σ H → va_S (fun q => b ≤ q) s.heap H locs → hw_L ls 3 255 [(0, hw_vr b (some x0)), (1, hw_vs g l1), (2, .int l2)] → W p l e rm12_spells s m args below meth c H locs 0 0 (MQ below (hw_QV D b τ) args s 0 0 (fun q => b ≤ q)) (F0 m 2 ls []) := by
  obtain ⟨hx, hb, hml, hr, hown, hts, hlk, hE, hnm⟩ := id C0
  have hown : s.vm.findClass RX12 = some m.cls := hown
  have hK := hE.1
  intro n
  induction n with
  | zero => intro _ _ _ _ _ _ _ hm; cases hm
  | succ n ih =>
    intro x0 l1 l2 σ H locs ls hm hR hS hl
    rw [m12_spells_b2] at hm
    refine lv_iload_n hx hb dX12_spells_2 rfl (hl.at 2 rfl) ?_
    refine hw_sload_n hx hb dX12_spells_3 rfl (hl.at 1 rfl) ?_
    obtain ⟨v4, e4, hm⟩ := hw_bs hm
    obtain ⟨a4, h4, i4, f4⟩ := hw_sl_of e4
    rw [h4]
    refine hw_cRI (va_runV (As := []) (rest := [.int l2]) ⟨hx, hb, hml, hown, hts⟩ (cJ_length l g b f4) (cwV 0 hts (hw_gV hw_m368 hw_m175 hw_m176 hw_m177 hw_m178) rfl rfl rfl (by decide +kernel) ⟨(Nat.le_of_ble_eq_true rfl), (Nat.le_of_ble_eq_true rfl)⟩) (hw_preV3 (hG.at hS) i4) rfl rfl hl.sz rfl (lv_room (Nat.le_of_ble_eq_true rfl)) dX12_spells_4 ⟨(Nat.le_of_ble_eq_true rfl), (Nat.le_of_ble_eq_true rfl)⟩) ?_
    refine lv_icmp_ge (tgt := 25) hx hb dX12_spells_7 (by decide) (fun c7 => ?_) (fun c7 => ?_)
    · have hm := hw_ip hm c7
      exact hw_rWV hx hb hr hlk hR hS hm dX12_spells_25
    · have hm := hw_in hm c7
      refine hw_aload_n hx hb dX12_spells_10 rfl (hl.at 0 rfl) ?_
      refine hw_sload_n hx hb dX12_spells_11 rfl (hl.at 1 rfl) ?_
      refine lv_iload_n hx hb dX12_spells_12 rfl (hl.at 2 rfl) ?_
      obtain ⟨v13, e13, hm⟩ := hw_bs hm
      obtain ⟨a13, h13, i13, f13⟩ := hw_sc_of e13
      rw [h13]
      refine hw_cRI (va_runV (As := [.int l2]) (rest := [hw_vr b (some x0)]) ⟨hx, hb, hml, hown, hts⟩ (cJ_charAt l g b f13) (cwV 1 hts (hw_gV hw_m369 hw_m187 hw_m188 hw_m177 hw_m189) rfl rfl rfl (by decide +kernel) ⟨(Nat.le_of_ble_eq_true rfl), (Nat.le_of_ble_eq_true rfl)⟩) (hw_preV3 (hG.at hS) i13) rfl rfl hl.sz rfl (lv_room (hw_sm (List.forall_mem_cons.mpr ⟨(hw_vr_cat _ _), (fun _ h => absurd h List.not_mem_nil)⟩) (Nat.le_of_ble_eq_true rfl))) dX12_spells_13 ⟨(Nat.le_of_ble_eq_true rfl), (Nat.le_of_ble_eq_true rfl)⟩) ?_
      obtain ⟨a16, g16, hm⟩ := hw_bs hm
      obtain ⟨rfl, ht16⟩ := hw_rv_th g16
      obtain ⟨σ16, e16, hm⟩ := hw_bs hm
      refine hw_cWV (va_runV (As := [.int v13]) (rest := []) ⟨hx, hb, hml, hown, hts⟩ (c12_must l D b e16) (cwV 1 hts (hw_gV hw_m370 hw_m371 hw_m372 hw_m5 hw_m373) rfl rfl rfl (by decide +kernel) ⟨(Nat.le_of_ble_eq_true rfl), (Nat.le_of_ble_eq_true rfl)⟩) (hw_preV (ci := 12) hE hR rfl (by decide) (hw_q_of ht16)) rfl rfl hl.sz rfl (lv_room (Nat.le_of_ble_eq_true rfl)) dX12_spells_16 ⟨(Nat.le_of_ble_eq_true rfl), (Nat.le_of_ble_eq_true rfl)⟩) hS (fun _ _ hR hS => ?_)
      refine hw_iinc (v := (l2 + 1)) (lv' := [(2, .int (l2 + 1)), (0, hw_vr b (some x0)), (1, hw_vs g l1)]) hx hb dX12_spells_19 hl (k := 2) rfl rfl (by decide) (by decide) rfl (fun ls hl => ?_)
      refine lv_goto (tgt := 2) hx hb dX12_spells_22 (by decide) ?_
      exact ih hm hR hS (hl.sub [1, 2, 0] rfl)
def m12_spells (x0 : Nat) (l1 : Option Nat) (σ : hw_S) : Option hw_S :=
  m12_spells_b2 hw_fu x0 l1 (0 : Int32) σ
set_option maxRecDepth 100000 in
theorem w12_spells_s {p : Program} {l : Launch} {e : Env} {s : State} {m : MethodId} {args : Array Value} {below : List Frame} {meth : Method} {c : Code} {D : hw_D} {b : Nat} {g : hw_Sd} {x0 : Nat} {l1 : Option Nat} {σ : hw_S} {τ : hw_S} {H : Heap} {locs : List Loc} (hm : m12_spells x0 l1 σ = some τ) (C0 : hw_C p s m args meth c D yX12_spells cX12_spells 3 none) (hG : hw_G g b s s.heap) (hR : hw_R D b σ H) (hS : va_S (fun q => b ≤ q) s.heap H locs) {ls : Array Slot} (hl : hw_L ls 3 255 [(0, hw_vr b (some x0)), (1, hw_vs g l1)]) : W p l e rm12_spells s m args below meth c H locs 0 0 (MQ below (hw_QV D b τ) args s 0 0 (fun q => b ≤ q)) (F0 m 0 ls []) := by
  obtain ⟨hx, hb, hml, hr, hown, hts, hlk, hE, hnm⟩ := id C0
  have hown : s.vm.findClass RX12 = some m.cls := hown
  have hK := hE.1
  unfold m12_spells at hm
  refine lv_iconst (v := 0) hx hb dX12_spells_0 (by decide) ?_
  refine hw_istore_n (lv' := [(2, .int (0 : Int32)), (0, hw_vr b (some x0)), (1, hw_vs g l1)]) hx hb dX12_spells_1 rfl hl (by decide) (by decide) rfl (fun ls hl => ?_)
  exact w12_spells_b2 C0 hG hw_fu hm hR hS (hl.sub [1, 2, 0] rfl)
set_option maxRecDepth 100000 in
theorem c12_spells (l : Launch) (D : hw_D) (g : hw_Sd) (b : Nat) {x0 : Nat} {l1 : Option Nat} {σ : hw_S} {τ : hw_S} (hm : m12_spells x0 l1 σ = some τ) : Met l yX12_spells (Cond.code yX12_spells cX12_spells 3 none :: wsL_law) rm12_spells (hw_P2 D g b σ [hw_vr b (some x0), hw_vs g l1]) (hw_QV D b τ) 0 0 (fun q => b ≤ q) := by
  refine hw_start2 (by decide +kernel) (by cases l1 <;> exact Nat.le_of_ble_eq_true rfl) ?_
  intro p e s m below meth c ls C0 hR hS hG hl
  have hl : lv_has ls 3 [(0, hw_vr b (some x0)), (1, hw_vs g l1)] := by cases l1 <;> exact hl
  exact w12_spells_s hm C0 hG hR hS ⟨hl, (List.forall_mem_cons.mpr ⟨(fun h => by rw [show (hw_vr b (some x0) : Value).category = 1 from (hw_vr_cat _ _)] at h; cases h), (List.forall_mem_cons.mpr ⟨(fun h => by rw [show (hw_vs g l1 : Value).category = 1 from (hw_vs_cat _ _)] at h; cases h), (fun _ h => absurd h List.not_mem_nil)⟩)⟩)⟩

abbrev rm12_figures : Room := { frames := 1, cells := 0, slots := 0, locals := 22 }
def m12_figures_b97 (x0 : Nat) (l1 : Int32) (σ : hw_S) : Option (Int32 × hw_S) :=
  some (l1, σ)
set_option maxRecDepth 100000 in
theorem w12_figures_b97 {p : Program} {l : Launch} {e : Env} {s : State} {m : MethodId} {args : Array Value} {below : List Frame} {meth : Method} {c : Code} {D : hw_D} {b : Nat} {r : Int32} {τ : hw_S} (C0 : hw_C p s m args meth c D yX12_figures cX12_figures 3 (some .int)) {x0 : Nat} {l1 : Int32} {σ : hw_S} {H : Heap} {locs : List Loc} (hm : m12_figures_b97 x0 l1 σ = some (r, τ)) (hR : hw_R D b σ H) (hS : va_S (fun q => b ≤ q) s.heap H locs) {ls : Array Slot} (hl : hw_L ls 3 255 [(0, hw_vr b (some x0)), (1, .int l1)]) : W p l e rm12_figures s m args below meth c H locs 0 0 (MQ below (hw_QI D b τ r) args s 0 0 (fun q => b ≤ q)) (F0 m 97 ls []) := by
  obtain ⟨hx, hb, hml, hr, hown, hts, hlk, hE, hnm⟩ := id C0
  have hown : s.vm.findClass RX12 = some m.cls := hown
  have hK := hE.1
  unfold m12_figures_b97 at hm
  refine lv_iload_n hx hb dX12_figures_97 rfl (hl.at 1 rfl) ?_
  exact hw_rWI hx hb hr hlk hR hS hm dX12_figures_98
def m12_figures_b68 (k34 : Nat → Int32 → Int32 → hw_S → Option (Int32 × hw_S)) (x0 : Nat) (l1 : Int32) (l2 : Int32) (σ : hw_S) : Option (Int32 × hw_S) :=
  (hw_rv (hw_q 12) (some x0) σ).bind fun a73 =>
  (m12_here x0 σ).bind fun v73 =>
  (hw_gI (hw_q 12) 5 (some x0) σ).bind fun v83 =>
  (hw_pI (hw_q 12) 5 (some x0) (v83 + (1 : Int32)) σ).bind fun σ88 =>
  k34 x0 ((((10 : Int32) * l1) + v73) - (48 : Int32)) (l2 + 1) σ88
set_option maxRecDepth 100000 in
theorem w12_figures_b68 {p : Program} {l : Launch} {e : Env} {s : State} {m : MethodId} {args : Array Value} {below : List Frame} {meth : Method} {c : Code} {D : hw_D} {b : Nat} {k34 : Nat → Int32 → Int32 → hw_S → Option (Int32 × hw_S)} {r : Int32} {τ : hw_S} (C0 : hw_C p s m args meth c D yX12_figures cX12_figures 3 (some .int)) (hk34 : ∀ {x0 : Nat} {l1 : Int32} {l2 : Int32} {σ : hw_S} {H : Heap} {locs : List Loc} {ls : Array Slot}, k34 x0 l1 l2 σ = some (r, τ) → hw_R D b σ H → va_S (fun q => b ≤ q) s.heap H locs → hw_L ls 3 255 [(0, hw_vr b (some x0)), (1, .int l1), (2, .int l2)] → W p l e rm12_figures s m args below meth c H locs 0 0 (MQ below (hw_QI D b τ r) args s 0 0 (fun q => b ≤ q)) (F0 m 34 ls [])) {x0 : Nat} {l1 : Int32} {l2 : Int32} {σ : hw_S} {H : Heap} {locs : List Loc} (hm : m12_figures_b68 k34 x0 l1 l2 σ = some (r, τ)) (hR : hw_R D b σ H) (hS : va_S (fun q => b ≤ q) s.heap H locs) {ls : Array Slot} (hl : hw_L ls 3 255 [(0, hw_vr b (some x0)), (1, .int l1), (2, .int l2)]) : W p l e rm12_figures s m args below meth c H locs 0 0 (MQ below (hw_QI D b τ r) args s 0 0 (fun q => b ≤ q)) (F0 m 68 ls []) := by
  obtain ⟨hx, hb, hml, hr, hown, hts, hlk, hE, hnm⟩ := id C0
  have hown : s.vm.findClass RX12 = some m.cls := hown
  have hK := hE.1
  unfold m12_figures_b68 at hm
  refine lv_bipush (v := 10) hx hb dX12_figures_68 (by decide) ?_
  refine lv_iload_n hx hb dX12_figures_70 rfl (hl.at 1 rfl) ?_
  refine lv_imul hx hb dX12_figures_71 ?_
  refine hw_aload_n hx hb dX12_figures_72 rfl (hl.at 0 rfl) ?_
  obtain ⟨a73, g73, hm⟩ := hw_bs hm
  obtain ⟨rfl, ht73⟩ := hw_rv_th g73
  obtain ⟨v73, e73, hm⟩ := hw_bs hm
  refine hw_cRI (va_runV (As := []) (rest := [.int ((10 : Int32) * l1)]) ⟨hx, hb, hml, hown, hts⟩ (c12_here l D b e73) (cwV 0 hts (hw_gV hw_m356 hw_m357 hw_m358 hw_m5 hw_m359) rfl rfl rfl (by decide +kernel) ⟨(Nat.le_of_ble_eq_true rfl), (Nat.le_of_ble_eq_true rfl)⟩) (hw_preV (ci := 12) hE hR rfl (by decide) (hw_q_of ht73)) rfl rfl hl.sz rfl (lv_room (Nat.le_of_ble_eq_true rfl)) dX12_figures_73 ⟨(Nat.le_of_ble_eq_true rfl), (Nat.le_of_ble_eq_true rfl)⟩) ?_
  refine lv_iadd hx hb dX12_figures_76 ?_
  refine lv_bipush (v := 48) hx hb dX12_figures_77 (by decide) ?_
  refine lv_isub hx hb dX12_figures_79 ?_
  refine hw_istore_n (lv' := [(1, .int ((((10 : Int32) * l1) + v73) - (48 : Int32))), (0, hw_vr b (some x0)), (2, .int l2)]) hx hb dX12_figures_80 rfl hl (by decide) (by decide) rfl (fun ls hl => ?_)
  refine hw_aload_n hx hb dX12_figures_81 rfl (hl.at 1 rfl) ?_
  refine lv_dup hx hb dX12_figures_82 (hw_vr_cat _ _) ?_
  obtain ⟨v83, e83, hm⟩ := hw_bs hm
  refine hw_getI hx hb hw_cf12 hts hown hK hR e83 (by decide) rfl (hts _ hw_m349) (fun _ h9 => h9) dX12_figures_83 ?_
  refine lv_iconst (v := 1) hx hb dX12_figures_86 (by decide) ?_
  refine lv_iadd hx hb dX12_figures_87 ?_
  obtain ⟨σ88, e88, hm⟩ := hw_bs hm
  refine hw_putI hx hb hw_cf12 hts hown hK hR hS e88 (by decide) rfl rfl (hts _ hw_m349) (fun _ h9 => h9) (Or.inl rfl) dX12_figures_88 (fun _ _ hR hS => ?_)
  refine hw_iinc (v := (l2 + 1)) (lv' := [(2, .int (l2 + 1)), (1, .int ((((10 : Int32) * l1) + v73) - (48 : Int32))), (0, hw_vr b (some x0))]) hx hb dX12_figures_91 hl (k := 2) rfl rfl (by decide) (by decide) rfl (fun ls hl => ?_)
  refine lv_goto (tgt := 34) hx hb dX12_figures_94 (by decide) ?_
  exact hk34 hm hR hS (hl.sub [2, 1, 0] rfl)
def m12_figures_b34 : Nat → Nat → Int32 → Int32 → hw_S → Option (Int32 × hw_S)
  | 0, _, _, _, _ => none
  | n + 1, x0, l1, l2, σ =>
  (if (2 : Int32) ≤ l2 then
  m12_figures_b97 x0 l1 σ
  else
  (hw_gI (hw_q 12) 7 (some x0) σ).bind fun v40 =>
  (if v40 = 0 then
  (hw_rv (hw_q 12) (some x0) σ).bind fun a47 =>
  (m12_here x0 σ).bind fun v47 =>
  (m12_in v47 (48 : Int32) (57 : Int32)).bind fun v54 =>
  (if v54 = 0 then
  m12_figures_b97 x0 l1 σ
  else
  (if l2 = 0 then
  m12_figures_b68 (m12_figures_b34 n) x0 l1 l2 σ
  else
  (if l1 ≤ 0 then
  m12_figures_b97 x0 l1 σ
  else
  m12_figures_b68 (m12_figures_b34 n) x0 l1 l2 σ)))
  else
  m12_figures_b97 x0 l1 σ))
set_option maxRecDepth 100000 in
theorem w12_figures_b34 {p : Program} {l : Launch} {e : Env} {s : State} {m : MethodId} {args : Array Value} {below : List Frame} {meth : Method} {c : Code} {D : hw_D} {b : Nat} {r : Int32} {τ : hw_S} (C0 : hw_C p s m args meth c D yX12_figures cX12_figures 3 (some .int)) : ∀ (n : Nat) {x0 : Nat} {l1 : Int32} {l2 : Int32} {σ : hw_S} {H : Heap} {locs : List Loc} {ls : Array Slot}, m12_figures_b34 n x0 l1 l2 σ = some (r, τ) → hw_R D b σ H → va_S (fun q => b ≤ q) s.heap H locs → hw_L ls 3 255 [(0, hw_vr b (some x0)), (1, .int l1), (2, .int l2)] → W p l e rm12_figures s m args below meth c H locs 0 0 (MQ below (hw_QI D b τ r) args s 0 0 (fun q => b ≤ q)) (F0 m 34 ls []) := by
  obtain ⟨hx, hb, hml, hr, hown, hts, hlk, hE, hnm⟩ := id C0
  have hown : s.vm.findClass RX12 = some m.cls := hown
  have hK := hE.1
  intro n
  induction n with
  | zero => intro _ _ _ _ _ _ _ hm; cases hm
  | succ n ih =>
    intro x0 l1 l2 σ H locs ls hm hR hS hl
    rw [m12_figures_b34] at hm
    refine lv_iload_n hx hb dX12_figures_34 rfl (hl.at 2 rfl) ?_
    refine lv_iconst (v := 2) hx hb dX12_figures_35 (by decide) ?_
    refine lv_icmp_ge (tgt := 97) hx hb dX12_figures_36 (by decide) (fun c36 => ?_) (fun c36 => ?_)
    · have hm := hw_ip hm c36
      exact w12_figures_b97 C0 hm hR hS (hl.sub [0, 1] rfl)
    · have hm := hw_in hm c36
      refine hw_aload_n hx hb dX12_figures_39 rfl (hl.at 0 rfl) ?_
      obtain ⟨v40, e40, hm⟩ := hw_bs hm
      refine hw_getI hx hb hw_cf12 hts hown hK hR e40 (by decide) rfl (hts _ hw_m350) (fun _ h9 => h9) dX12_figures_40 ?_
      refine lv_if_ne (tgt := 97) hx hb dX12_figures_43 (by decide) (fun c43 => ?_) (fun c43 => ?_)
      · have hm := hw_in hm c43
        exact w12_figures_b97 C0 hm hR hS (hl.sub [0, 1] rfl)
      · have hm := hw_ip hm c43
        refine hw_aload_n hx hb dX12_figures_46 rfl (hl.at 0 rfl) ?_
        obtain ⟨a47, g47, hm⟩ := hw_bs hm
        obtain ⟨rfl, ht47⟩ := hw_rv_th g47
        obtain ⟨v47, e47, hm⟩ := hw_bs hm
        refine hw_cRI (va_runV (As := []) (rest := []) ⟨hx, hb, hml, hown, hts⟩ (c12_here l D b e47) (cwV 0 hts (hw_gV hw_m356 hw_m357 hw_m358 hw_m5 hw_m359) rfl rfl rfl (by decide +kernel) ⟨(Nat.le_of_ble_eq_true rfl), (Nat.le_of_ble_eq_true rfl)⟩) (hw_preV (ci := 12) hE hR rfl (by decide) (hw_q_of ht47)) rfl rfl hl.sz rfl (lv_room (Nat.le_of_ble_eq_true rfl)) dX12_figures_47 ⟨(Nat.le_of_ble_eq_true rfl), (Nat.le_of_ble_eq_true rfl)⟩) ?_
        refine lv_bipush (v := 48) hx hb dX12_figures_50 (by decide) ?_
        refine lv_bipush (v := 57) hx hb dX12_figures_52 (by decide) ?_
        obtain ⟨v54, e54, hm⟩ := hw_bs hm
        refine hw_cRI (va_runS (As := [.int v47, .int (48 : Int32), .int (57 : Int32)]) (rest := []) ⟨hx, hb, hml, hown, hts⟩ (c12_in l D e54) (cwS 3 hts (hw_gS hw_m112 hw_m113 hw_m5 hw_m114) rfl rfl rfl (by decide +kernel) ⟨(Nat.le_of_ble_eq_true rfl), (Nat.le_of_ble_eq_true rfl)⟩) (hw_pre0 hE) rfl rfl hl.sz rfl (lv_room (Nat.le_of_ble_eq_true rfl)) dX12_figures_54 ⟨(Nat.le_of_ble_eq_true rfl), (Nat.le_of_ble_eq_true rfl)⟩) ?_
        refine lv_if_eq (tgt := 97) hx hb dX12_figures_57 (by decide) (fun c57 => ?_) (fun c57 => ?_)
        · have hm := hw_ip hm c57
          exact w12_figures_b97 C0 hm hR hS (hl.sub [0, 1] rfl)
        · have hm := hw_in hm c57
          refine lv_iload_n hx hb dX12_figures_60 rfl (hl.at 2 rfl) ?_
          refine lv_if_eq (tgt := 68) hx hb dX12_figures_61 (by decide) (fun c61 => ?_) (fun c61 => ?_)
          · have hm := hw_ip hm c61
            exact w12_figures_b68 C0 ih hm hR hS (hl.sub [0, 1, 2] rfl)
          · have hm := hw_in hm c61
            refine lv_iload_n hx hb dX12_figures_64 rfl (hl.at 1 rfl) ?_
            refine lv_if_le (tgt := 97) hx hb dX12_figures_65 (by decide) (fun c65 => ?_) (fun c65 => ?_)
            · have hm := hw_ip hm c65
              exact w12_figures_b97 C0 hm hR hS (hl.sub [0, 1] rfl)
            · have hm := hw_in hm c65
              exact w12_figures_b68 C0 ih hm hR hS (hl.sub [0, 1, 2] rfl)
def m12_figures_b27 (x0 : Nat) (t0 : Nat) (t1 : Int32) (σ : hw_S) : Option (Int32 × hw_S) :=
  (hw_tf t1).bind fun _ =>
  (hw_pI (hw_q 12) 7 (some t0) t1 σ).bind fun σ27 =>
  m12_figures_b34 hw_fu x0 (0 : Int32) (0 : Int32) σ27
set_option maxRecDepth 100000 in
theorem w12_figures_b27 {p : Program} {l : Launch} {e : Env} {s : State} {m : MethodId} {args : Array Value} {below : List Frame} {meth : Method} {c : Code} {D : hw_D} {b : Nat} {r : Int32} {τ : hw_S} (C0 : hw_C p s m args meth c D yX12_figures cX12_figures 3 (some .int)) {x0 : Nat} {t0 : Nat} {t1 : Int32} {σ : hw_S} {H : Heap} {locs : List Loc} (hm : m12_figures_b27 x0 t0 t1 σ = some (r, τ)) (hR : hw_R D b σ H) (hS : va_S (fun q => b ≤ q) s.heap H locs) {ls : Array Slot} (hl : hw_L ls 3 255 [(0, hw_vr b (some x0))]) : W p l e rm12_figures s m args below meth c H locs 0 0 (MQ below (hw_QI D b τ r) args s 0 0 (fun q => b ≤ q)) (F0 m 27 ls [.int t1, hw_vr b (some t0)]) := by
  obtain ⟨hx, hb, hml, hr, hown, hts, hlk, hE, hnm⟩ := id C0
  have hown : s.vm.findClass RX12 = some m.cls := hown
  have hK := hE.1
  unfold m12_figures_b27 at hm
  obtain ⟨_, z27, hm⟩ := hw_bs hm
  obtain ⟨σ27, e27, hm⟩ := hw_bs hm
  refine hw_putZ hx hb hw_cf12 hts hown hK hR hS z27 e27 (by decide) rfl rfl (hts _ hw_m350) (fun _ h9 => h9) (Or.inl rfl) dX12_figures_27 (fun _ _ hR hS => ?_)
  refine lv_iconst (v := 0) hx hb dX12_figures_30 (by decide) ?_
  refine hw_istore_n (lv' := [(1, .int (0 : Int32)), (0, hw_vr b (some x0))]) hx hb dX12_figures_31 rfl hl (by decide) (by decide) rfl (fun ls hl => ?_)
  refine lv_iconst (v := 0) hx hb dX12_figures_32 (by decide) ?_
  refine hw_istore_n (lv' := [(2, .int (0 : Int32)), (1, .int (0 : Int32)), (0, hw_vr b (some x0))]) hx hb dX12_figures_33 rfl hl (by decide) (by decide) rfl (fun ls hl => ?_)
  exact w12_figures_b34 C0 hw_fu hm hR hS (hl.sub [2, 1, 0] rfl)
def m12_figures_b22 (x0 : Nat) (t0 : Nat) (σ : hw_S) : Option (Int32 × hw_S) :=
  m12_figures_b27 x0 t0 (1 : Int32) σ
set_option maxRecDepth 100000 in
theorem w12_figures_b22 {p : Program} {l : Launch} {e : Env} {s : State} {m : MethodId} {args : Array Value} {below : List Frame} {meth : Method} {c : Code} {D : hw_D} {b : Nat} {r : Int32} {τ : hw_S} (C0 : hw_C p s m args meth c D yX12_figures cX12_figures 3 (some .int)) {x0 : Nat} {t0 : Nat} {σ : hw_S} {H : Heap} {locs : List Loc} (hm : m12_figures_b22 x0 t0 σ = some (r, τ)) (hR : hw_R D b σ H) (hS : va_S (fun q => b ≤ q) s.heap H locs) {ls : Array Slot} (hl : hw_L ls 3 255 [(0, hw_vr b (some x0))]) : W p l e rm12_figures s m args below meth c H locs 0 0 (MQ below (hw_QI D b τ r) args s 0 0 (fun q => b ≤ q)) (F0 m 22 ls [hw_vr b (some t0)]) := by
  obtain ⟨hx, hb, hml, hr, hown, hts, hlk, hE, hnm⟩ := id C0
  have hown : s.vm.findClass RX12 = some m.cls := hown
  have hK := hE.1
  unfold m12_figures_b22 at hm
  refine lv_iconst (v := 1) hx hb dX12_figures_22 (by decide) ?_
  refine lv_goto (tgt := 27) hx hb dX12_figures_23 (by decide) ?_
  exact w12_figures_b27 C0 hm hR hS (hl.sub [0] rfl)
def m12_figures (x0 : Nat) (σ : hw_S) : Option (Int32 × hw_S) :=
  (hw_gI (hw_q 12) 7 (some x0) σ).bind fun v2 =>
  (if v2 = 0 then
  (hw_rv (hw_q 12) (some x0) σ).bind fun a9 =>
  (m12_here x0 σ).bind fun v9 =>
  (m12_in v9 (48 : Int32) (57 : Int32)).bind fun v16 =>
  (if v16 = 0 then
  m12_figures_b22 x0 x0 σ
  else
  m12_figures_b27 x0 x0 (0 : Int32) σ)
  else
  m12_figures_b22 x0 x0 σ)
set_option maxRecDepth 100000 in
theorem w12_figures_s {p : Program} {l : Launch} {e : Env} {s : State} {m : MethodId} {args : Array Value} {below : List Frame} {meth : Method} {c : Code} {D : hw_D} {b : Nat} {x0 : Nat} {σ : hw_S} {r : Int32} {τ : hw_S} {H : Heap} {locs : List Loc} (hm : m12_figures x0 σ = some (r, τ)) (C0 : hw_C p s m args meth c D yX12_figures cX12_figures 3 (some .int)) (hR : hw_R D b σ H) (hS : va_S (fun q => b ≤ q) s.heap H locs) {ls : Array Slot} (hl : hw_L ls 3 255 [(0, hw_vr b (some x0))]) : W p l e rm12_figures s m args below meth c H locs 0 0 (MQ below (hw_QI D b τ r) args s 0 0 (fun q => b ≤ q)) (F0 m 0 ls []) := by
  obtain ⟨hx, hb, hml, hr, hown, hts, hlk, hE, hnm⟩ := id C0
  have hown : s.vm.findClass RX12 = some m.cls := hown
  have hK := hE.1
  unfold m12_figures at hm
  refine hw_aload_n hx hb dX12_figures_0 rfl (hl.at 0 rfl) ?_
  refine hw_aload_n hx hb dX12_figures_1 rfl (hl.at 0 rfl) ?_
  obtain ⟨v2, e2, hm⟩ := hw_bs hm
  refine hw_getI hx hb hw_cf12 hts hown hK hR e2 (by decide) rfl (hts _ hw_m350) (fun _ h9 => h9) dX12_figures_2 ?_
  refine lv_if_ne (tgt := 22) hx hb dX12_figures_5 (by decide) (fun c5 => ?_) (fun c5 => ?_)
  · have hm := hw_in hm c5
    exact w12_figures_b22 C0 hm hR hS (hl.sub [0] rfl)
  · have hm := hw_ip hm c5
    refine hw_aload_n hx hb dX12_figures_8 rfl (hl.at 0 rfl) ?_
    obtain ⟨a9, g9, hm⟩ := hw_bs hm
    obtain ⟨rfl, ht9⟩ := hw_rv_th g9
    obtain ⟨v9, e9, hm⟩ := hw_bs hm
    refine hw_cRI (va_runV (As := []) (rest := [hw_vr b (some x0)]) ⟨hx, hb, hml, hown, hts⟩ (c12_here l D b e9) (cwV 0 hts (hw_gV hw_m356 hw_m357 hw_m358 hw_m5 hw_m359) rfl rfl rfl (by decide +kernel) ⟨(Nat.le_of_ble_eq_true rfl), (Nat.le_of_ble_eq_true rfl)⟩) (hw_preV (ci := 12) hE hR rfl (by decide) (hw_q_of ht9)) rfl rfl hl.sz rfl (lv_room (hw_sm (List.forall_mem_cons.mpr ⟨(hw_vr_cat _ _), (fun _ h => absurd h List.not_mem_nil)⟩) (Nat.le_of_ble_eq_true rfl))) dX12_figures_9 ⟨(Nat.le_of_ble_eq_true rfl), (Nat.le_of_ble_eq_true rfl)⟩) ?_
    refine lv_bipush (v := 48) hx hb dX12_figures_12 (by decide) ?_
    refine lv_bipush (v := 57) hx hb dX12_figures_14 (by decide) ?_
    obtain ⟨v16, e16, hm⟩ := hw_bs hm
    refine hw_cRI (va_runS (As := [.int v9, .int (48 : Int32), .int (57 : Int32)]) (rest := [hw_vr b (some x0)]) ⟨hx, hb, hml, hown, hts⟩ (c12_in l D e16) (cwS 3 hts (hw_gS hw_m112 hw_m113 hw_m5 hw_m114) rfl rfl rfl (by decide +kernel) ⟨(Nat.le_of_ble_eq_true rfl), (Nat.le_of_ble_eq_true rfl)⟩) (hw_pre0 hE) rfl rfl hl.sz rfl (lv_room (hw_sm (List.forall_mem_cons.mpr ⟨(hw_vr_cat _ _), (fun _ h => absurd h List.not_mem_nil)⟩) (Nat.le_of_ble_eq_true rfl))) dX12_figures_16 ⟨(Nat.le_of_ble_eq_true rfl), (Nat.le_of_ble_eq_true rfl)⟩) ?_
    refine lv_if_ne (tgt := 26) hx hb dX12_figures_19 (by decide) (fun c19 => ?_) (fun c19 => ?_)
    · have hm := hw_in hm c19
      refine lv_iconst (v := 0) hx hb dX12_figures_26 (by decide) ?_
      exact w12_figures_b27 C0 hm hR hS (hl.sub [0] rfl)
    · have hm := hw_ip hm c19
      exact w12_figures_b22 C0 hm hR hS (hl.sub [0] rfl)
set_option maxRecDepth 100000 in
theorem c12_figures (l : Launch) (D : hw_D) (b : Nat) {x0 : Nat} {σ : hw_S} {r : Int32} {τ : hw_S} (hm : m12_figures x0 σ = some (r, τ)) : Met l yX12_figures (Cond.code yX12_figures cX12_figures 3 (some .int) :: wsL_law) rm12_figures (hw_P1 D b σ [hw_vr b (some x0)]) (hw_QI D b τ r) 0 0 (fun q => b ≤ q) := by
  refine hw_start1 (by decide +kernel) (by exact Nat.le_of_ble_eq_true rfl) ?_
  intro p e s m below meth c ls C0 hR hS hl
  have hl : lv_has ls 3 [(0, hw_vr b (some x0))] := by exact hl
  exact w12_figures_s hm C0 hR hS ⟨hl, (List.forall_mem_cons.mpr ⟨(fun h => by rw [show (hw_vr b (some x0) : Value).category = 1 from (hw_vr_cat _ _)] at h; cases h), (fun _ h => absurd h List.not_mem_nil)⟩)⟩

abbrev rm12_emits : Room := { frames := 0, cells := 0, slots := 0, locals := 0 }
def m12_emits_b56 (x0 : Nat) (σ : hw_S) : Option hw_S :=
  some σ
set_option maxRecDepth 100000 in
theorem w12_emits_b56 {p : Program} {l : Launch} {e : Env} {s : State} {m : MethodId} {args : Array Value} {below : List Frame} {meth : Method} {c : Code} {D : hw_D} {b : Nat} {τ : hw_S} (C0 : hw_C p s m args meth c D yX12_emits cX12_emits 2 none) {x0 : Nat} {σ : hw_S} {H : Heap} {locs : List Loc} (hm : m12_emits_b56 x0 σ = some τ) (hR : hw_R D b σ H) (hS : va_S (fun q => b ≤ q) s.heap H locs) {ls : Array Slot} (hl : hw_L ls 2 255 [(0, hw_vr b (some x0))]) : W p l e rm12_emits s m args below meth c H locs 0 0 (MQ below (hw_QV D b τ) args s 0 0 (fun q => b ≤ q)) (F0 m 56 ls []) := by
  obtain ⟨hx, hb, hml, hr, hown, hts, hlk, hE, hnm⟩ := id C0
  have hown : s.vm.findClass RX12 = some m.cls := hown
  have hK := hE.1
  unfold m12_emits_b56 at hm
  exact hw_rWV hx hb hr hlk hR hS hm dX12_emits_56
def m12_emits (x0 : Nat) (l1 : Int32) (σ : hw_S) : Option hw_S :=
  (hw_gI (hw_q 12) 7 (some x0) σ).bind fun v1 =>
  (if v1 = 0 then
  (hw_gP (hw_q 12) 1 (some x0) σ).bind fun v8 =>
  (hw_gI (hw_q 12) 4 (some x0) σ).bind fun v18 =>
  (hw_gP (hw_q 12) 1 (some x0) σ).bind fun v24 =>
  (hw_gI (hw_q 12) 4 (some x0) σ).bind fun v31 =>
  (hw_aI 0 v24 ((204 : Int32) + v31) σ).bind fun v35 =>
  (hw_sI v8 (((212 : Int32) + ((140 : Int32) * v18)) + v35) l1 σ).bind fun σ38 =>
  (hw_gP (hw_q 12) 1 (some x0) σ38).bind fun v40 =>
  (hw_gI (hw_q 12) 4 (some x0) σ38).bind fun v47 =>
  (hw_aI 0 v40 ((204 : Int32) + v47) σ38).bind fun v52 =>
  (hw_sI v40 ((204 : Int32) + v47) (v52 + (1 : Int32)) σ38).bind fun σ55 =>
  m12_emits_b56 x0 σ55
  else
  m12_emits_b56 x0 σ)
set_option maxRecDepth 100000 in
theorem w12_emits_s {p : Program} {l : Launch} {e : Env} {s : State} {m : MethodId} {args : Array Value} {below : List Frame} {meth : Method} {c : Code} {D : hw_D} {b : Nat} {x0 : Nat} {l1 : Int32} {σ : hw_S} {τ : hw_S} {H : Heap} {locs : List Loc} (hm : m12_emits x0 l1 σ = some τ) (C0 : hw_C p s m args meth c D yX12_emits cX12_emits 2 none) (hR : hw_R D b σ H) (hS : va_S (fun q => b ≤ q) s.heap H locs) {ls : Array Slot} (hl : hw_L ls 2 255 [(0, hw_vr b (some x0)), (1, .int l1)]) : W p l e rm12_emits s m args below meth c H locs 0 0 (MQ below (hw_QV D b τ) args s 0 0 (fun q => b ≤ q)) (F0 m 0 ls []) := by
  obtain ⟨hx, hb, hml, hr, hown, hts, hlk, hE, hnm⟩ := id C0
  have hown : s.vm.findClass RX12 = some m.cls := hown
  have hK := hE.1
  unfold m12_emits at hm
  refine hw_aload_n hx hb dX12_emits_0 rfl (hl.at 0 rfl) ?_
  obtain ⟨v1, e1, hm⟩ := hw_bs hm
  refine hw_getI hx hb hw_cf12 hts hown hK hR e1 (by decide) rfl (hts _ hw_m350) (fun _ h9 => h9) dX12_emits_1 ?_
  refine lv_if_ne (tgt := 56) hx hb dX12_emits_4 (by decide) (fun c4 => ?_) (fun c4 => ?_)
  · have hm := hw_in hm c4
    exact w12_emits_b56 C0 hm hR hS (hl.sub [0] rfl)
  · have hm := hw_ip hm c4
    refine hw_aload_n hx hb dX12_emits_7 rfl (hl.at 0 rfl) ?_
    obtain ⟨v8, e8, hm⟩ := hw_bs hm
    refine hw_getP hx hb hw_cf12 hts hown hK hR e8 (by decide) rfl (hts _ hw_m76) (fun _ h9 => h9) dX12_emits_8 ?_
    refine lv_sipush (v := 212) hx hb dX12_emits_11 (by decide) ?_
    refine lv_sipush (v := 140) hx hb dX12_emits_14 (by decide) ?_
    refine hw_aload_n hx hb dX12_emits_17 rfl (hl.at 0 rfl) ?_
    obtain ⟨v18, e18, hm⟩ := hw_bs hm
    refine hw_getI hx hb hw_cf12 hts hown hK hR e18 (by decide) rfl (hts _ hw_m347) (fun _ h9 => h9) dX12_emits_18 ?_
    refine lv_imul hx hb dX12_emits_21 ?_
    refine lv_iadd hx hb dX12_emits_22 ?_
    refine hw_aload_n hx hb dX12_emits_23 rfl (hl.at 0 rfl) ?_
    obtain ⟨v24, e24, hm⟩ := hw_bs hm
    refine hw_getP hx hb hw_cf12 hts hown hK hR e24 (by decide) rfl (hts _ hw_m76) (fun _ h9 => h9) dX12_emits_24 ?_
    refine lv_sipush (v := 204) hx hb dX12_emits_27 (by decide) ?_
    refine hw_aload_n hx hb dX12_emits_30 rfl (hl.at 0 rfl) ?_
    obtain ⟨v31, e31, hm⟩ := hw_bs hm
    refine hw_getI hx hb hw_cf12 hts hown hK hR e31 (by decide) rfl (hts _ hw_m347) (fun _ h9 => h9) dX12_emits_31 ?_
    refine lv_iadd hx hb dX12_emits_34 ?_
    obtain ⟨v35, e35, hm⟩ := hw_bs hm
    refine hw_iald hx hb hK hR e35 dX12_emits_35 ?_
    refine lv_iadd hx hb dX12_emits_36 ?_
    refine lv_iload_n hx hb dX12_emits_37 rfl (hl.at 1 rfl) ?_
    obtain ⟨σ38, e38, hm⟩ := hw_bs hm
    refine hw_iast hx hb hK hR hS e38 dX12_emits_38 (fun _ _ hR hS => ?_)
    refine hw_aload_n hx hb dX12_emits_39 rfl (hl.at 0 rfl) ?_
    obtain ⟨v40, e40, hm⟩ := hw_bs hm
    refine hw_getP hx hb hw_cf12 hts hown hK hR e40 (by decide) rfl (hts _ hw_m76) (fun _ h9 => h9) dX12_emits_40 ?_
    refine lv_sipush (v := 204) hx hb dX12_emits_43 (by decide) ?_
    refine hw_aload_n hx hb dX12_emits_46 rfl (hl.at 0 rfl) ?_
    obtain ⟨v47, e47, hm⟩ := hw_bs hm
    refine hw_getI hx hb hw_cf12 hts hown hK hR e47 (by decide) rfl (hts _ hw_m347) (fun _ h9 => h9) dX12_emits_47 ?_
    refine lv_iadd hx hb dX12_emits_50 ?_
    refine lv_dup2_11 hx hb dX12_emits_51 rfl (hw_vr_cat _ _) ?_
    obtain ⟨v52, e52, hm⟩ := hw_bs hm
    refine hw_iald hx hb hK hR e52 dX12_emits_52 ?_
    refine lv_iconst (v := 1) hx hb dX12_emits_53 (by decide) ?_
    refine lv_iadd hx hb dX12_emits_54 ?_
    obtain ⟨σ55, e55, hm⟩ := hw_bs hm
    refine hw_iast hx hb hK hR hS e55 dX12_emits_55 (fun _ _ hR hS => ?_)
    exact w12_emits_b56 C0 hm hR hS (hl.sub [0] rfl)
set_option maxRecDepth 100000 in
theorem c12_emits (l : Launch) (D : hw_D) (b : Nat) {x0 : Nat} {l1 : Int32} {σ : hw_S} {τ : hw_S} (hm : m12_emits x0 l1 σ = some τ) : Met l yX12_emits (Cond.code yX12_emits cX12_emits 2 none :: wsL_law) rm12_emits (hw_P1 D b σ [hw_vr b (some x0), .int l1]) (hw_QV D b τ) 0 0 (fun q => b ≤ q) := by
  refine hw_start1 (by decide +kernel) (by exact Nat.le_of_ble_eq_true rfl) ?_
  intro p e s m below meth c ls C0 hR hS hl
  have hl : lv_has ls 2 [(0, hw_vr b (some x0)), (1, .int l1)] := by exact hl
  exact w12_emits_s hm C0 hR hS ⟨hl, (List.forall_mem_cons.mpr ⟨(fun h => by rw [show (hw_vr b (some x0) : Value).category = 1 from (hw_vr_cat _ _)] at h; cases h), (List.forall_mem_cons.mpr ⟨(fun h => absurd (show (1 : Nat) = 2 from h) (by decide)), (fun _ h => absurd h List.not_mem_nil)⟩)⟩)⟩

abbrev rm12_every (RF RL : Nat) : Room := { frames := RF + 1, cells := 0, slots := 0, locals := RL + 24 }
def m12_every_b43 (kP : Nat → hw_S → Option hw_S) (x0 : Nat) (σ : hw_S) : Option hw_S :=
  some σ
set_option maxRecDepth 100000 in
theorem w12_every_b43 {p : Program} {l : Launch} {e : Env} {s : State} {m : MethodId} {args : Array Value} {below : List Frame} {meth : Method} {c : Code} {D : hw_D} {b : Nat} {g : hw_Sd} {RF RL : Nat} {kP : Nat → hw_S → Option hw_S} {τ : hw_S} (C0 : hw_C p s m args meth c D yX12_every cX12_every 1 none) (hG : hw_G g b s s.heap) (hP : ∀ {x0 : Nat} {σ : hw_S} {τ : hw_S}, kP x0 σ = some τ → Met l yX12_factor (Cond.code yX12_factor cX12_factor 5 none :: wsL_law) (hw_rk RF RL) (hw_P2 D g b σ [hw_vr b (some x0)]) (hw_QV D b τ) 0 0 (fun q => b ≤ q)) {x0 : Nat} {σ : hw_S} {H : Heap} {locs : List Loc} (hm : m12_every_b43 kP x0 σ = some τ) (hR : hw_R D b σ H) (hS : va_S (fun q => b ≤ q) s.heap H locs) {ls : Array Slot} (hl : hw_L ls 1 255 [(0, hw_vr b (some x0))]) : W p l e (rm12_every RF RL) s m args below meth c H locs 0 0 (MQ below (hw_QV D b τ) args s 0 0 (fun q => b ≤ q)) (F0 m 43 ls []) := by
  obtain ⟨hx, hb, hml, hr, hown, hts, hlk, hE, hnm⟩ := id C0
  have hown : s.vm.findClass RX12 = some m.cls := hown
  have hK := hE.1
  unfold m12_every_b43 at hm
  exact hw_rWV hx hb hr hlk hR hS hm dX12_every_43
def m12_every_b4 (kP : Nat → hw_S → Option hw_S) : Nat → Nat → hw_S → Option hw_S
  | 0, _, _ => none
  | n + 1, x0, σ =>
  (hw_gI (hw_q 12) 7 (some x0) σ).bind fun v5 =>
  (if v5 = 0 then
  (hw_rv (hw_q 12) (some x0) σ).bind fun a12 =>
  (m12_here x0 σ).bind fun v12 =>
  (if v12 = (38 : Int32) then
  (hw_gI (hw_q 12) 5 (some x0) σ).bind fun v22 =>
  (hw_pI (hw_q 12) 5 (some x0) (v22 + (1 : Int32)) σ).bind fun σ27 =>
  (hw_rv (hw_q 12) (some x0) σ27).bind fun a31 =>
  (kP x0 σ27).bind fun σ31 =>
  (hw_rv (hw_q 12) (some x0) σ31).bind fun a37 =>
  (m12_emits x0 ((-2) : Int32) σ31).bind fun σ37 =>
  m12_every_b4 kP n x0 σ37
  else
  m12_every_b43 kP x0 σ)
  else
  m12_every_b43 kP x0 σ)
set_option maxRecDepth 100000 in
theorem w12_every_b4 {p : Program} {l : Launch} {e : Env} {s : State} {m : MethodId} {args : Array Value} {below : List Frame} {meth : Method} {c : Code} {D : hw_D} {b : Nat} {g : hw_Sd} {RF RL : Nat} {kP : Nat → hw_S → Option hw_S} {τ : hw_S} (C0 : hw_C p s m args meth c D yX12_every cX12_every 1 none) (hG : hw_G g b s s.heap) (hP : ∀ {x0 : Nat} {σ : hw_S} {τ : hw_S}, kP x0 σ = some τ → Met l yX12_factor (Cond.code yX12_factor cX12_factor 5 none :: wsL_law) (hw_rk RF RL) (hw_P2 D g b σ [hw_vr b (some x0)]) (hw_QV D b τ) 0 0 (fun q => b ≤ q)) : ∀ (n : Nat) {x0 : Nat} {σ : hw_S} {H : Heap} {locs : List Loc} {ls : Array Slot}, m12_every_b4 kP n x0 σ = some τ → hw_R D b σ H → va_S (fun q => b ≤ q) s.heap H locs → hw_L ls 1 255 [(0, hw_vr b (some x0))] → W p l e (rm12_every RF RL) s m args below meth c H locs 0 0 (MQ below (hw_QV D b τ) args s 0 0 (fun q => b ≤ q)) (F0 m 4 ls []) := by
  obtain ⟨hx, hb, hml, hr, hown, hts, hlk, hE, hnm⟩ := id C0
  have hown : s.vm.findClass RX12 = some m.cls := hown
  have hK := hE.1
  intro n
  induction n with
  | zero => intro _ _ _ _ _ hm; cases hm
  | succ n ih =>
    intro x0 σ H locs ls hm hR hS hl
    rw [m12_every_b4] at hm
    refine hw_aload_n hx hb dX12_every_4 rfl (hl.at 0 rfl) ?_
    obtain ⟨v5, e5, hm⟩ := hw_bs hm
    refine hw_getI hx hb hw_cf12 hts hown hK hR e5 (by decide) rfl (hts _ hw_m350) (fun _ h9 => h9) dX12_every_5 ?_
    refine lv_if_ne (tgt := 43) hx hb dX12_every_8 (by decide) (fun c8 => ?_) (fun c8 => ?_)
    · have hm := hw_in hm c8
      exact w12_every_b43 C0 hG hP hm hR hS (hl.sub [0] rfl)
    · have hm := hw_ip hm c8
      refine hw_aload_n hx hb dX12_every_11 rfl (hl.at 0 rfl) ?_
      obtain ⟨a12, g12, hm⟩ := hw_bs hm
      obtain ⟨rfl, ht12⟩ := hw_rv_th g12
      obtain ⟨v12, e12, hm⟩ := hw_bs hm
      refine hw_cRI (va_runV (As := []) (rest := []) ⟨hx, hb, hml, hown, hts⟩ (c12_here l D b e12) (cwV 0 hts (hw_gV hw_m356 hw_m357 hw_m358 hw_m5 hw_m359) rfl rfl rfl (by decide +kernel) ⟨(by first | (dsimp only [hw_rk, rm12_emits, rm12_every, rm12_here]; omega) | dsimp only [hw_rk, rm12_emits, rm12_every, rm12_here]), (by first | (dsimp only [hw_rk, rm12_emits, rm12_every, rm12_here]; omega) | dsimp only [hw_rk, rm12_emits, rm12_every, rm12_here])⟩) (hw_preV (ci := 12) hE hR rfl (by decide) (hw_q_of ht12)) rfl rfl hl.sz rfl (lv_room (Nat.le_of_ble_eq_true rfl)) dX12_every_12 ⟨(Nat.le_of_ble_eq_true rfl), (Nat.le_of_ble_eq_true rfl)⟩) ?_
      refine lv_bipush (v := 38) hx hb dX12_every_15 (by decide) ?_
      refine lv_icmp_ne (tgt := 43) hx hb dX12_every_17 (by decide) (fun c17 => ?_) (fun c17 => ?_)
      · have hm := hw_in hm c17
        exact w12_every_b43 C0 hG hP hm hR hS (hl.sub [0] rfl)
      · have hm := hw_ip hm c17
        refine hw_aload_n hx hb dX12_every_20 rfl (hl.at 0 rfl) ?_
        refine lv_dup hx hb dX12_every_21 (hw_vr_cat _ _) ?_
        obtain ⟨v22, e22, hm⟩ := hw_bs hm
        refine hw_getI hx hb hw_cf12 hts hown hK hR e22 (by decide) rfl (hts _ hw_m349) (fun _ h9 => h9) dX12_every_22 ?_
        refine lv_iconst (v := 1) hx hb dX12_every_25 (by decide) ?_
        refine lv_iadd hx hb dX12_every_26 ?_
        obtain ⟨σ27, e27, hm⟩ := hw_bs hm
        refine hw_putI hx hb hw_cf12 hts hown hK hR hS e27 (by decide) rfl rfl (hts _ hw_m349) (fun _ h9 => h9) (Or.inl rfl) dX12_every_27 (fun _ _ hR hS => ?_)
        refine hw_aload_n hx hb dX12_every_30 rfl (hl.at 0 rfl) ?_
        obtain ⟨a31, g31, hm⟩ := hw_bs hm
        obtain ⟨rfl, ht31⟩ := hw_rv_th g31
        obtain ⟨σ31, e31, hm⟩ := hw_bs hm
        refine hw_cWV (va_runV (As := []) (rest := []) ⟨hx, hb, hml, hown, hts⟩ (hP e31) (cwV 0 hts (hw_gV hw_m390 hw_m391 hw_m392 hw_m5 hw_m393) rfl rfl rfl (by decide +kernel) ⟨(by first | (dsimp only [hw_rk, rm12_emits, rm12_every, rm12_here]; omega) | dsimp only [hw_rk, rm12_emits, rm12_every, rm12_here]), (by first | (dsimp only [hw_rk, rm12_emits, rm12_every, rm12_here]; omega) | dsimp only [hw_rk, rm12_emits, rm12_every, rm12_here])⟩) (hw_preV2 (ci := 12) hE hR (hG.at hS) rfl (by decide) (hw_q_of ht31)) rfl rfl hl.sz rfl (lv_room (Nat.le_of_ble_eq_true rfl)) dX12_every_31 ⟨(Nat.le_of_ble_eq_true rfl), (Nat.le_of_ble_eq_true rfl)⟩) hS (fun _ _ hR hS => ?_)
        refine hw_aload_n hx hb dX12_every_34 rfl (hl.at 0 rfl) ?_
        refine lv_bipush (v := (-2)) hx hb dX12_every_35 (by decide) ?_
        obtain ⟨a37, g37, hm⟩ := hw_bs hm
        obtain ⟨rfl, ht37⟩ := hw_rv_th g37
        obtain ⟨σ37, e37, hm⟩ := hw_bs hm
        refine hw_cWV (va_runV (As := [.int ((-2) : Int32)]) (rest := []) ⟨hx, hb, hml, hown, hts⟩ (c12_emits l D b e37) (cwV 1 hts (hw_gV hw_m385 hw_m386 hw_m387 hw_m5 hw_m388) rfl rfl rfl (by decide +kernel) ⟨(by first | (dsimp only [hw_rk, rm12_emits, rm12_every, rm12_here]; omega) | dsimp only [hw_rk, rm12_emits, rm12_every, rm12_here]), (by first | (dsimp only [hw_rk, rm12_emits, rm12_every, rm12_here]; omega) | dsimp only [hw_rk, rm12_emits, rm12_every, rm12_here])⟩) (hw_preV (ci := 12) hE hR rfl (by decide) (hw_q_of ht37)) rfl rfl hl.sz rfl (lv_room (Nat.le_of_ble_eq_true rfl)) dX12_every_37 ⟨(Nat.le_of_ble_eq_true rfl), (Nat.le_of_ble_eq_true rfl)⟩) hS (fun _ _ hR hS => ?_)
        refine lv_goto (tgt := 4) hx hb dX12_every_40 (by decide) ?_
        exact ih hm hR hS (hl.sub [0] rfl)
def m12_every (kP : Nat → hw_S → Option hw_S) (x0 : Nat) (σ : hw_S) : Option hw_S :=
  (hw_rv (hw_q 12) (some x0) σ).bind fun a1 =>
  (kP x0 σ).bind fun σ1 =>
  m12_every_b4 kP hw_fu x0 σ1
set_option maxRecDepth 100000 in
theorem w12_every_s {p : Program} {l : Launch} {e : Env} {s : State} {m : MethodId} {args : Array Value} {below : List Frame} {meth : Method} {c : Code} {D : hw_D} {b : Nat} {g : hw_Sd} {RF RL : Nat} {kP : Nat → hw_S → Option hw_S} {x0 : Nat} {σ : hw_S} {τ : hw_S} {H : Heap} {locs : List Loc} (hm : m12_every kP x0 σ = some τ) (C0 : hw_C p s m args meth c D yX12_every cX12_every 1 none) (hG : hw_G g b s s.heap) (hP : ∀ {x0 : Nat} {σ : hw_S} {τ : hw_S}, kP x0 σ = some τ → Met l yX12_factor (Cond.code yX12_factor cX12_factor 5 none :: wsL_law) (hw_rk RF RL) (hw_P2 D g b σ [hw_vr b (some x0)]) (hw_QV D b τ) 0 0 (fun q => b ≤ q)) (hR : hw_R D b σ H) (hS : va_S (fun q => b ≤ q) s.heap H locs) {ls : Array Slot} (hl : hw_L ls 1 255 [(0, hw_vr b (some x0))]) : W p l e (rm12_every RF RL) s m args below meth c H locs 0 0 (MQ below (hw_QV D b τ) args s 0 0 (fun q => b ≤ q)) (F0 m 0 ls []) := by
  obtain ⟨hx, hb, hml, hr, hown, hts, hlk, hE, hnm⟩ := id C0
  have hown : s.vm.findClass RX12 = some m.cls := hown
  have hK := hE.1
  unfold m12_every at hm
  refine hw_aload_n hx hb dX12_every_0 rfl (hl.at 0 rfl) ?_
  obtain ⟨a1, g1, hm⟩ := hw_bs hm
  obtain ⟨rfl, ht1⟩ := hw_rv_th g1
  obtain ⟨σ1, e1, hm⟩ := hw_bs hm
  refine hw_cWV (va_runV (As := []) (rest := []) ⟨hx, hb, hml, hown, hts⟩ (hP e1) (cwV 0 hts (hw_gV hw_m390 hw_m391 hw_m392 hw_m5 hw_m393) rfl rfl rfl (by decide +kernel) ⟨(by first | (dsimp only [hw_rk, rm12_emits, rm12_every, rm12_here]; omega) | dsimp only [hw_rk, rm12_emits, rm12_every, rm12_here]), (by first | (dsimp only [hw_rk, rm12_emits, rm12_every, rm12_here]; omega) | dsimp only [hw_rk, rm12_emits, rm12_every, rm12_here])⟩) (hw_preV2 (ci := 12) hE hR (hG.at hS) rfl (by decide) (hw_q_of ht1)) rfl rfl hl.sz rfl (lv_room (Nat.le_of_ble_eq_true rfl)) dX12_every_1 ⟨(Nat.le_of_ble_eq_true rfl), (Nat.le_of_ble_eq_true rfl)⟩) hS (fun _ _ hR hS => ?_)
  exact w12_every_b4 C0 hG hP hw_fu hm hR hS (hl.sub [0] rfl)
set_option maxRecDepth 100000 in
theorem c12_every (l : Launch) (D : hw_D) (g : hw_Sd) (b : Nat) {RF RL : Nat} {kP : Nat → hw_S → Option hw_S} (hP : ∀ {x0 : Nat} {σ : hw_S} {τ : hw_S}, kP x0 σ = some τ → Met l yX12_factor (Cond.code yX12_factor cX12_factor 5 none :: wsL_law) (hw_rk RF RL) (hw_P2 D g b σ [hw_vr b (some x0)]) (hw_QV D b τ) 0 0 (fun q => b ≤ q)) {x0 : Nat} {σ : hw_S} {τ : hw_S} (hm : m12_every kP x0 σ = some τ) : Met l yX12_every (Cond.code yX12_every cX12_every 1 none :: wsL_law) (rm12_every RF RL) (hw_P2 D g b σ [hw_vr b (some x0)]) (hw_QV D b τ) 0 0 (fun q => b ≤ q) := by
  refine hw_start2 (by decide +kernel) (by exact Nat.le_of_ble_eq_true rfl) ?_
  intro p e s m below meth c ls C0 hR hS hG hl
  have hl : lv_has ls 1 [(0, hw_vr b (some x0))] := by exact hl
  exact w12_every_s hm C0 hG hP hR hS ⟨hl, (List.forall_mem_cons.mpr ⟨(fun h => by rw [show (hw_vr b (some x0) : Value).category = 1 from (hw_vr_cat _ _)] at h; cases h), (fun _ h => absurd h List.not_mem_nil)⟩)⟩

abbrev rm12_some (RF RL : Nat) : Room := { frames := RF + 2, cells := 0, slots := 0, locals := RL + 44 }
def m12_some_b43 (kP : Nat → hw_S → Option hw_S) (x0 : Nat) (σ : hw_S) : Option hw_S :=
  some σ
set_option maxRecDepth 100000 in
theorem w12_some_b43 {p : Program} {l : Launch} {e : Env} {s : State} {m : MethodId} {args : Array Value} {below : List Frame} {meth : Method} {c : Code} {D : hw_D} {b : Nat} {g : hw_Sd} {RF RL : Nat} {kP : Nat → hw_S → Option hw_S} {τ : hw_S} (C0 : hw_C p s m args meth c D yX12_some cX12_some 1 none) (hG : hw_G g b s s.heap) (hP : ∀ {x0 : Nat} {σ : hw_S} {τ : hw_S}, kP x0 σ = some τ → Met l yX12_factor (Cond.code yX12_factor cX12_factor 5 none :: wsL_law) (hw_rk RF RL) (hw_P2 D g b σ [hw_vr b (some x0)]) (hw_QV D b τ) 0 0 (fun q => b ≤ q)) {x0 : Nat} {σ : hw_S} {H : Heap} {locs : List Loc} (hm : m12_some_b43 kP x0 σ = some τ) (hR : hw_R D b σ H) (hS : va_S (fun q => b ≤ q) s.heap H locs) {ls : Array Slot} (hl : hw_L ls 1 255 [(0, hw_vr b (some x0))]) : W p l e (rm12_some RF RL) s m args below meth c H locs 0 0 (MQ below (hw_QV D b τ) args s 0 0 (fun q => b ≤ q)) (F0 m 43 ls []) := by
  obtain ⟨hx, hb, hml, hr, hown, hts, hlk, hE, hnm⟩ := id C0
  have hown : s.vm.findClass RX12 = some m.cls := hown
  have hK := hE.1
  unfold m12_some_b43 at hm
  exact hw_rWV hx hb hr hlk hR hS hm dX12_some_43
def m12_some_b4 (kP : Nat → hw_S → Option hw_S) : Nat → Nat → hw_S → Option hw_S
  | 0, _, _ => none
  | n + 1, x0, σ =>
  (hw_gI (hw_q 12) 7 (some x0) σ).bind fun v5 =>
  (if v5 = 0 then
  (hw_rv (hw_q 12) (some x0) σ).bind fun a12 =>
  (m12_here x0 σ).bind fun v12 =>
  (if v12 = (124 : Int32) then
  (hw_gI (hw_q 12) 5 (some x0) σ).bind fun v22 =>
  (hw_pI (hw_q 12) 5 (some x0) (v22 + (1 : Int32)) σ).bind fun σ27 =>
  (hw_rv (hw_q 12) (some x0) σ27).bind fun a31 =>
  (m12_every kP x0 σ27).bind fun σ31 =>
  (hw_rv (hw_q 12) (some x0) σ31).bind fun a37 =>
  (m12_emits x0 ((-3) : Int32) σ31).bind fun σ37 =>
  m12_some_b4 kP n x0 σ37
  else
  m12_some_b43 kP x0 σ)
  else
  m12_some_b43 kP x0 σ)
set_option maxRecDepth 100000 in
theorem w12_some_b4 {p : Program} {l : Launch} {e : Env} {s : State} {m : MethodId} {args : Array Value} {below : List Frame} {meth : Method} {c : Code} {D : hw_D} {b : Nat} {g : hw_Sd} {RF RL : Nat} {kP : Nat → hw_S → Option hw_S} {τ : hw_S} (C0 : hw_C p s m args meth c D yX12_some cX12_some 1 none) (hG : hw_G g b s s.heap) (hP : ∀ {x0 : Nat} {σ : hw_S} {τ : hw_S}, kP x0 σ = some τ → Met l yX12_factor (Cond.code yX12_factor cX12_factor 5 none :: wsL_law) (hw_rk RF RL) (hw_P2 D g b σ [hw_vr b (some x0)]) (hw_QV D b τ) 0 0 (fun q => b ≤ q)) : ∀ (n : Nat) {x0 : Nat} {σ : hw_S} {H : Heap} {locs : List Loc} {ls : Array Slot}, m12_some_b4 kP n x0 σ = some τ → hw_R D b σ H → va_S (fun q => b ≤ q) s.heap H locs → hw_L ls 1 255 [(0, hw_vr b (some x0))] → W p l e (rm12_some RF RL) s m args below meth c H locs 0 0 (MQ below (hw_QV D b τ) args s 0 0 (fun q => b ≤ q)) (F0 m 4 ls []) := by
  obtain ⟨hx, hb, hml, hr, hown, hts, hlk, hE, hnm⟩ := id C0
  have hown : s.vm.findClass RX12 = some m.cls := hown
  have hK := hE.1
  intro n
  induction n with
  | zero => intro _ _ _ _ _ hm; cases hm
  | succ n ih =>
    intro x0 σ H locs ls hm hR hS hl
    rw [m12_some_b4] at hm
    refine hw_aload_n hx hb dX12_some_4 rfl (hl.at 0 rfl) ?_
    obtain ⟨v5, e5, hm⟩ := hw_bs hm
    refine hw_getI hx hb hw_cf12 hts hown hK hR e5 (by decide) rfl (hts _ hw_m350) (fun _ h9 => h9) dX12_some_5 ?_
    refine lv_if_ne (tgt := 43) hx hb dX12_some_8 (by decide) (fun c8 => ?_) (fun c8 => ?_)
    · have hm := hw_in hm c8
      exact w12_some_b43 C0 hG hP hm hR hS (hl.sub [0] rfl)
    · have hm := hw_ip hm c8
      refine hw_aload_n hx hb dX12_some_11 rfl (hl.at 0 rfl) ?_
      obtain ⟨a12, g12, hm⟩ := hw_bs hm
      obtain ⟨rfl, ht12⟩ := hw_rv_th g12
      obtain ⟨v12, e12, hm⟩ := hw_bs hm
      refine hw_cRI (va_runV (As := []) (rest := []) ⟨hx, hb, hml, hown, hts⟩ (c12_here l D b e12) (cwV 0 hts (hw_gV hw_m356 hw_m357 hw_m358 hw_m5 hw_m359) rfl rfl rfl (by decide +kernel) ⟨(by first | (dsimp only [hw_rk, rm12_emits, rm12_every, rm12_here, rm12_some]; omega) | dsimp only [hw_rk, rm12_emits, rm12_every, rm12_here, rm12_some]), (by first | (dsimp only [hw_rk, rm12_emits, rm12_every, rm12_here, rm12_some]; omega) | dsimp only [hw_rk, rm12_emits, rm12_every, rm12_here, rm12_some])⟩) (hw_preV (ci := 12) hE hR rfl (by decide) (hw_q_of ht12)) rfl rfl hl.sz rfl (lv_room (Nat.le_of_ble_eq_true rfl)) dX12_some_12 ⟨(Nat.le_of_ble_eq_true rfl), (Nat.le_of_ble_eq_true rfl)⟩) ?_
      refine lv_bipush (v := 124) hx hb dX12_some_15 (by decide) ?_
      refine lv_icmp_ne (tgt := 43) hx hb dX12_some_17 (by decide) (fun c17 => ?_) (fun c17 => ?_)
      · have hm := hw_in hm c17
        exact w12_some_b43 C0 hG hP hm hR hS (hl.sub [0] rfl)
      · have hm := hw_ip hm c17
        refine hw_aload_n hx hb dX12_some_20 rfl (hl.at 0 rfl) ?_
        refine lv_dup hx hb dX12_some_21 (hw_vr_cat _ _) ?_
        obtain ⟨v22, e22, hm⟩ := hw_bs hm
        refine hw_getI hx hb hw_cf12 hts hown hK hR e22 (by decide) rfl (hts _ hw_m349) (fun _ h9 => h9) dX12_some_22 ?_
        refine lv_iconst (v := 1) hx hb dX12_some_25 (by decide) ?_
        refine lv_iadd hx hb dX12_some_26 ?_
        obtain ⟨σ27, e27, hm⟩ := hw_bs hm
        refine hw_putI hx hb hw_cf12 hts hown hK hR hS e27 (by decide) rfl rfl (hts _ hw_m349) (fun _ h9 => h9) (Or.inl rfl) dX12_some_27 (fun _ _ hR hS => ?_)
        refine hw_aload_n hx hb dX12_some_30 rfl (hl.at 0 rfl) ?_
        obtain ⟨a31, g31, hm⟩ := hw_bs hm
        obtain ⟨rfl, ht31⟩ := hw_rv_th g31
        obtain ⟨σ31, e31, hm⟩ := hw_bs hm
        refine hw_cWV (va_runV (As := []) (rest := []) ⟨hx, hb, hml, hown, hts⟩ (c12_every l D g b hP e31) (cwV 0 hts (hw_gV hw_m382 hw_m383 hw_m384 hw_m5 hw_m389) rfl rfl rfl (by decide +kernel) ⟨(by first | (dsimp only [hw_rk, rm12_emits, rm12_every, rm12_here, rm12_some]; omega) | dsimp only [hw_rk, rm12_emits, rm12_every, rm12_here, rm12_some]), (by first | (dsimp only [hw_rk, rm12_emits, rm12_every, rm12_here, rm12_some]; omega) | dsimp only [hw_rk, rm12_emits, rm12_every, rm12_here, rm12_some])⟩) (hw_preV2 (ci := 12) hE hR (hG.at hS) rfl (by decide) (hw_q_of ht31)) rfl rfl hl.sz rfl (lv_room (Nat.le_of_ble_eq_true rfl)) dX12_some_31 ⟨(Nat.le_of_ble_eq_true rfl), (Nat.le_of_ble_eq_true rfl)⟩) hS (fun _ _ hR hS => ?_)
        refine hw_aload_n hx hb dX12_some_34 rfl (hl.at 0 rfl) ?_
        refine lv_bipush (v := (-3)) hx hb dX12_some_35 (by decide) ?_
        obtain ⟨a37, g37, hm⟩ := hw_bs hm
        obtain ⟨rfl, ht37⟩ := hw_rv_th g37
        obtain ⟨σ37, e37, hm⟩ := hw_bs hm
        refine hw_cWV (va_runV (As := [.int ((-3) : Int32)]) (rest := []) ⟨hx, hb, hml, hown, hts⟩ (c12_emits l D b e37) (cwV 1 hts (hw_gV hw_m385 hw_m386 hw_m387 hw_m5 hw_m388) rfl rfl rfl (by decide +kernel) ⟨(by first | (dsimp only [hw_rk, rm12_emits, rm12_every, rm12_here, rm12_some]; omega) | dsimp only [hw_rk, rm12_emits, rm12_every, rm12_here, rm12_some]), (by first | (dsimp only [hw_rk, rm12_emits, rm12_every, rm12_here, rm12_some]; omega) | dsimp only [hw_rk, rm12_emits, rm12_every, rm12_here, rm12_some])⟩) (hw_preV (ci := 12) hE hR rfl (by decide) (hw_q_of ht37)) rfl rfl hl.sz rfl (lv_room (Nat.le_of_ble_eq_true rfl)) dX12_some_37 ⟨(Nat.le_of_ble_eq_true rfl), (Nat.le_of_ble_eq_true rfl)⟩) hS (fun _ _ hR hS => ?_)
        refine lv_goto (tgt := 4) hx hb dX12_some_40 (by decide) ?_
        exact ih hm hR hS (hl.sub [0] rfl)
def m12_some (kP : Nat → hw_S → Option hw_S) (x0 : Nat) (σ : hw_S) : Option hw_S :=
  (hw_rv (hw_q 12) (some x0) σ).bind fun a1 =>
  (m12_every kP x0 σ).bind fun σ1 =>
  m12_some_b4 kP hw_fu x0 σ1
set_option maxRecDepth 100000 in
theorem w12_some_s {p : Program} {l : Launch} {e : Env} {s : State} {m : MethodId} {args : Array Value} {below : List Frame} {meth : Method} {c : Code} {D : hw_D} {b : Nat} {g : hw_Sd} {RF RL : Nat} {kP : Nat → hw_S → Option hw_S} {x0 : Nat} {σ : hw_S} {τ : hw_S} {H : Heap} {locs : List Loc} (hm : m12_some kP x0 σ = some τ) (C0 : hw_C p s m args meth c D yX12_some cX12_some 1 none) (hG : hw_G g b s s.heap) (hP : ∀ {x0 : Nat} {σ : hw_S} {τ : hw_S}, kP x0 σ = some τ → Met l yX12_factor (Cond.code yX12_factor cX12_factor 5 none :: wsL_law) (hw_rk RF RL) (hw_P2 D g b σ [hw_vr b (some x0)]) (hw_QV D b τ) 0 0 (fun q => b ≤ q)) (hR : hw_R D b σ H) (hS : va_S (fun q => b ≤ q) s.heap H locs) {ls : Array Slot} (hl : hw_L ls 1 255 [(0, hw_vr b (some x0))]) : W p l e (rm12_some RF RL) s m args below meth c H locs 0 0 (MQ below (hw_QV D b τ) args s 0 0 (fun q => b ≤ q)) (F0 m 0 ls []) := by
  obtain ⟨hx, hb, hml, hr, hown, hts, hlk, hE, hnm⟩ := id C0
  have hown : s.vm.findClass RX12 = some m.cls := hown
  have hK := hE.1
  unfold m12_some at hm
  refine hw_aload_n hx hb dX12_some_0 rfl (hl.at 0 rfl) ?_
  obtain ⟨a1, g1, hm⟩ := hw_bs hm
  obtain ⟨rfl, ht1⟩ := hw_rv_th g1
  obtain ⟨σ1, e1, hm⟩ := hw_bs hm
  refine hw_cWV (va_runV (As := []) (rest := []) ⟨hx, hb, hml, hown, hts⟩ (c12_every l D g b hP e1) (cwV 0 hts (hw_gV hw_m382 hw_m383 hw_m384 hw_m5 hw_m389) rfl rfl rfl (by decide +kernel) ⟨(by first | (dsimp only [hw_rk, rm12_emits, rm12_every, rm12_here, rm12_some]; omega) | dsimp only [hw_rk, rm12_emits, rm12_every, rm12_here, rm12_some]), (by first | (dsimp only [hw_rk, rm12_emits, rm12_every, rm12_here, rm12_some]; omega) | dsimp only [hw_rk, rm12_emits, rm12_every, rm12_here, rm12_some])⟩) (hw_preV2 (ci := 12) hE hR (hG.at hS) rfl (by decide) (hw_q_of ht1)) rfl rfl hl.sz rfl (lv_room (Nat.le_of_ble_eq_true rfl)) dX12_some_1 ⟨(Nat.le_of_ble_eq_true rfl), (Nat.le_of_ble_eq_true rfl)⟩) hS (fun _ _ hR hS => ?_)
  exact w12_some_b4 C0 hG hP hw_fu hm hR hS (hl.sub [0] rfl)
set_option maxRecDepth 100000 in
theorem c12_some (l : Launch) (D : hw_D) (g : hw_Sd) (b : Nat) {RF RL : Nat} {kP : Nat → hw_S → Option hw_S} (hP : ∀ {x0 : Nat} {σ : hw_S} {τ : hw_S}, kP x0 σ = some τ → Met l yX12_factor (Cond.code yX12_factor cX12_factor 5 none :: wsL_law) (hw_rk RF RL) (hw_P2 D g b σ [hw_vr b (some x0)]) (hw_QV D b τ) 0 0 (fun q => b ≤ q)) {x0 : Nat} {σ : hw_S} {τ : hw_S} (hm : m12_some kP x0 σ = some τ) : Met l yX12_some (Cond.code yX12_some cX12_some 1 none :: wsL_law) (rm12_some RF RL) (hw_P2 D g b σ [hw_vr b (some x0)]) (hw_QV D b τ) 0 0 (fun q => b ≤ q) := by
  refine hw_start2 (by decide +kernel) (by exact Nat.le_of_ble_eq_true rfl) ?_
  intro p e s m below meth c ls C0 hR hS hG hl
  have hl : lv_has ls 1 [(0, hw_vr b (some x0))] := by exact hl
  exact w12_some_s hm C0 hG hP hR hS ⟨hl, (List.forall_mem_cons.mpr ⟨(fun h => by rw [show (hw_vr b (some x0) : Value).category = 1 from (hw_vr_cat _ _)] at h; cases h), (fun _ h => absurd h List.not_mem_nil)⟩)⟩

abbrev rm12_among : Room := { frames := 4, cells := 0, slots := 0, locals := 87 }
def m12_among_b2 : Nat → Nat → Option Nat → Int32 → hw_S → Option (Int32 × hw_S)
  | 0, _, _, _, _ => none
  | n + 1, x0, l1, l2, σ =>
  (hw_sl l1).bind fun v4 =>
  (if v4 ≤ l2 then
  some (((-1) : Int32), σ)
  else
  (hw_rv (hw_q 12) (some x0) σ).bind fun a11 =>
  (m12_here x0 σ).bind fun v11 =>
  (hw_sc l1 l2).bind fun v16 =>
  (if v11 = v16 then
  (hw_gI (hw_q 12) 5 (some x0) σ).bind fun v24 =>
  (hw_pI (hw_q 12) 5 (some x0) (v24 + (1 : Int32)) σ).bind fun σ29 =>
  some (l2, σ29)
  else
  m12_among_b2 n x0 l1 (l2 + 1) σ))
set_option maxRecDepth 100000 in
theorem w12_among_b2 {p : Program} {l : Launch} {e : Env} {s : State} {m : MethodId} {args : Array Value} {below : List Frame} {meth : Method} {c : Code} {D : hw_D} {b : Nat} {g : hw_Sd} {r : Int32} {τ : hw_S} (C0 : hw_C p s m args meth c D yX12_among cX12_among 3 (some .int)) (hG : hw_G g b s s.heap) : ∀ (n : Nat) {x0 : Nat} {l1 : Option Nat} {l2 : Int32} {σ : hw_S} {H : Heap} {locs : List Loc} {ls : Array Slot}, m12_among_b2 n x0 l1 l2 σ = some (r, τ) → hw_R D b σ H → va_S (fun q => b ≤ q) s.heap H locs → hw_L ls 3 255 [(0, hw_vr b (some x0)), (1, hw_vs g l1), (2, .int l2)] → W p l e rm12_among s m args below meth c H locs 0 0 (MQ below (hw_QI D b τ r) args s 0 0 (fun q => b ≤ q)) (F0 m 2 ls []) := by
  obtain ⟨hx, hb, hml, hr, hown, hts, hlk, hE, hnm⟩ := id C0
  have hown : s.vm.findClass RX12 = some m.cls := hown
  have hK := hE.1
  intro n
  induction n with
  | zero => intro _ _ _ _ _ _ _ hm; cases hm
  | succ n ih =>
    intro x0 l1 l2 σ H locs ls hm hR hS hl
    rw [m12_among_b2] at hm
    refine lv_iload_n hx hb dX12_among_2 rfl (hl.at 2 rfl) ?_
    refine hw_sload_n hx hb dX12_among_3 rfl (hl.at 1 rfl) ?_
    obtain ⟨v4, e4, hm⟩ := hw_bs hm
    obtain ⟨a4, h4, i4, f4⟩ := hw_sl_of e4
    rw [h4]
    refine hw_cRI (va_runV (As := []) (rest := [.int l2]) ⟨hx, hb, hml, hown, hts⟩ (cJ_length l g b f4) (cwV 0 hts (hw_gV hw_m368 hw_m175 hw_m176 hw_m177 hw_m178) rfl rfl rfl (by decide +kernel) ⟨(Nat.le_of_ble_eq_true rfl), (Nat.le_of_ble_eq_true rfl)⟩) (hw_preV3 (hG.at hS) i4) rfl rfl hl.sz rfl (lv_room (Nat.le_of_ble_eq_true rfl)) dX12_among_4 ⟨(Nat.le_of_ble_eq_true rfl), (Nat.le_of_ble_eq_true rfl)⟩) ?_
    refine lv_icmp_ge (tgt := 40) hx hb dX12_among_7 (by decide) (fun c7 => ?_) (fun c7 => ?_)
    · have hm := hw_ip hm c7
      refine lv_iconst (v := (-1)) hx hb dX12_among_40 (by decide) ?_
      exact hw_rWI hx hb hr hlk hR hS hm dX12_among_41
    · have hm := hw_in hm c7
      refine hw_aload_n hx hb dX12_among_10 rfl (hl.at 0 rfl) ?_
      obtain ⟨a11, g11, hm⟩ := hw_bs hm
      obtain ⟨rfl, ht11⟩ := hw_rv_th g11
      obtain ⟨v11, e11, hm⟩ := hw_bs hm
      refine hw_cRI (va_runV (As := []) (rest := []) ⟨hx, hb, hml, hown, hts⟩ (c12_here l D b e11) (cwV 0 hts (hw_gV hw_m356 hw_m357 hw_m358 hw_m5 hw_m359) rfl rfl rfl (by decide +kernel) ⟨(Nat.le_of_ble_eq_true rfl), (Nat.le_of_ble_eq_true rfl)⟩) (hw_preV (ci := 12) hE hR rfl (by decide) (hw_q_of ht11)) rfl rfl hl.sz rfl (lv_room (Nat.le_of_ble_eq_true rfl)) dX12_among_11 ⟨(Nat.le_of_ble_eq_true rfl), (Nat.le_of_ble_eq_true rfl)⟩) ?_
      refine hw_sload_n hx hb dX12_among_14 rfl (hl.at 1 rfl) ?_
      refine lv_iload_n hx hb dX12_among_15 rfl (hl.at 2 rfl) ?_
      obtain ⟨v16, e16, hm⟩ := hw_bs hm
      obtain ⟨a16, h16, i16, f16⟩ := hw_sc_of e16
      rw [h16]
      refine hw_cRI (va_runV (As := [.int l2]) (rest := [.int v11]) ⟨hx, hb, hml, hown, hts⟩ (cJ_charAt l g b f16) (cwV 1 hts (hw_gV hw_m369 hw_m187 hw_m188 hw_m177 hw_m189) rfl rfl rfl (by decide +kernel) ⟨(Nat.le_of_ble_eq_true rfl), (Nat.le_of_ble_eq_true rfl)⟩) (hw_preV3 (hG.at hS) i16) rfl rfl hl.sz rfl (lv_room (Nat.le_of_ble_eq_true rfl)) dX12_among_16 ⟨(Nat.le_of_ble_eq_true rfl), (Nat.le_of_ble_eq_true rfl)⟩) ?_
      refine lv_icmp_ne (tgt := 34) hx hb dX12_among_19 (by decide) (fun c19 => ?_) (fun c19 => ?_)
      · have hm := hw_in hm c19
        refine hw_iinc (v := (l2 + 1)) (lv' := [(2, .int (l2 + 1)), (0, hw_vr b (some x0)), (1, hw_vs g l1)]) hx hb dX12_among_34 hl (k := 2) rfl rfl (by decide) (by decide) rfl (fun ls hl => ?_)
        refine lv_goto (tgt := 2) hx hb dX12_among_37 (by decide) ?_
        exact ih hm hR hS (hl.sub [1, 2, 0] rfl)
      · have hm := hw_ip hm c19
        refine hw_aload_n hx hb dX12_among_22 rfl (hl.at 0 rfl) ?_
        refine lv_dup hx hb dX12_among_23 (hw_vr_cat _ _) ?_
        obtain ⟨v24, e24, hm⟩ := hw_bs hm
        refine hw_getI hx hb hw_cf12 hts hown hK hR e24 (by decide) rfl (hts _ hw_m349) (fun _ h9 => h9) dX12_among_24 ?_
        refine lv_iconst (v := 1) hx hb dX12_among_27 (by decide) ?_
        refine lv_iadd hx hb dX12_among_28 ?_
        obtain ⟨σ29, e29, hm⟩ := hw_bs hm
        refine hw_putI hx hb hw_cf12 hts hown hK hR hS e29 (by decide) rfl rfl (hts _ hw_m349) (fun _ h9 => h9) (Or.inl rfl) dX12_among_29 (fun _ _ hR hS => ?_)
        refine lv_iload_n hx hb dX12_among_32 rfl (hl.at 2 rfl) ?_
        exact hw_rWI hx hb hr hlk hR hS hm dX12_among_33
def m12_among (x0 : Nat) (l1 : Option Nat) (σ : hw_S) : Option (Int32 × hw_S) :=
  m12_among_b2 hw_fu x0 l1 (0 : Int32) σ
set_option maxRecDepth 100000 in
theorem w12_among_s {p : Program} {l : Launch} {e : Env} {s : State} {m : MethodId} {args : Array Value} {below : List Frame} {meth : Method} {c : Code} {D : hw_D} {b : Nat} {g : hw_Sd} {x0 : Nat} {l1 : Option Nat} {σ : hw_S} {r : Int32} {τ : hw_S} {H : Heap} {locs : List Loc} (hm : m12_among x0 l1 σ = some (r, τ)) (C0 : hw_C p s m args meth c D yX12_among cX12_among 3 (some .int)) (hG : hw_G g b s s.heap) (hR : hw_R D b σ H) (hS : va_S (fun q => b ≤ q) s.heap H locs) {ls : Array Slot} (hl : hw_L ls 3 255 [(0, hw_vr b (some x0)), (1, hw_vs g l1)]) : W p l e rm12_among s m args below meth c H locs 0 0 (MQ below (hw_QI D b τ r) args s 0 0 (fun q => b ≤ q)) (F0 m 0 ls []) := by
  obtain ⟨hx, hb, hml, hr, hown, hts, hlk, hE, hnm⟩ := id C0
  have hown : s.vm.findClass RX12 = some m.cls := hown
  have hK := hE.1
  unfold m12_among at hm
  refine lv_iconst (v := 0) hx hb dX12_among_0 (by decide) ?_
  refine hw_istore_n (lv' := [(2, .int (0 : Int32)), (0, hw_vr b (some x0)), (1, hw_vs g l1)]) hx hb dX12_among_1 rfl hl (by decide) (by decide) rfl (fun ls hl => ?_)
  exact w12_among_b2 C0 hG hw_fu hm hR hS (hl.sub [1, 2, 0] rfl)
set_option maxRecDepth 100000 in
theorem c12_among (l : Launch) (D : hw_D) (g : hw_Sd) (b : Nat) {x0 : Nat} {l1 : Option Nat} {σ : hw_S} {r : Int32} {τ : hw_S} (hm : m12_among x0 l1 σ = some (r, τ)) : Met l yX12_among (Cond.code yX12_among cX12_among 3 (some .int) :: wsL_law) rm12_among (hw_P2 D g b σ [hw_vr b (some x0), hw_vs g l1]) (hw_QI D b τ r) 0 0 (fun q => b ≤ q) := by
  refine hw_start2 (by decide +kernel) (by cases l1 <;> exact Nat.le_of_ble_eq_true rfl) ?_
  intro p e s m below meth c ls C0 hR hS hG hl
  have hl : lv_has ls 3 [(0, hw_vr b (some x0)), (1, hw_vs g l1)] := by cases l1 <;> exact hl
  exact w12_among_s hm C0 hG hR hS ⟨hl, (List.forall_mem_cons.mpr ⟨(fun h => by rw [show (hw_vr b (some x0) : Value).category = 1 from (hw_vr_cat _ _)] at h; cases h), (List.forall_mem_cons.mpr ⟨(fun h => by rw [show (hw_vs g l1 : Value).category = 1 from (hw_vs_cat _ _)] at h; cases h), (fun _ h => absurd h List.not_mem_nil)⟩)⟩)⟩
