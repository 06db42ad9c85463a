abbrev rm4_isTest : Room := { frames := 2, cells := 0, slots := 0, locals := 43 }
def m4_isTest (x0 : Nat) (σ : hw_S) : Option (Int32 × hw_S) :=
  (hw_rv (hw_q 4) (some x0) σ).bind fun a1 =>
  (m4_ahead x0 σ).bind fun v1 =>
  (m4_aboutOf v1).bind fun v4 =>
  (if 0 ≤ v4 then
  (hw_gI (hw_q 4) 2 (some x0) σ).bind fun v16 =>
  (hw_pI (hw_q 4) 2 (some x0) (v16 + (1 : Int32)) σ).bind fun σ21 =>
  (hw_rv (hw_q 4) (some x0) σ21).bind fun a25 =>
  (m4_ahead x0 σ21).bind fun v25 =>
  (m4_signOf v25).bind fun v28 =>
  (if 0 ≤ v28 then
  (hw_gI (hw_q 4) 2 (some x0) σ21).bind fun v40 =>
  (hw_pI (hw_q 4) 2 (some x0) (v40 + (1 : Int32)) σ21).bind fun σ45 =>
  (hw_rv (hw_q 4) (some x0) σ45).bind fun a49 =>
  hw_b2 (m4_number x0 σ45) fun v49 σ49 =>
  (if 0 ≤ v49 then
  (hw_rv (hw_q 4) (some x0) σ49).bind fun a75 =>
  (m4_add x0 ((((0 : Int32) ||| (v4 <<< ((3 : Int32) &&& 31))) ||| (v28 <<< ((6 : Int32) &&& 31))) ||| (v49 <<< ((8 : Int32) &&& 31))) σ49).bind fun σ75 =>
  (hw_tf (1 : Int32)).bind fun _ =>
  some ((1 : Int32), σ75)
  else
  (hw_tf (0 : Int32)).bind fun _ =>
  some ((0 : Int32), σ49))
  else
  (hw_tf (0 : Int32)).bind fun _ =>
  some ((0 : Int32), σ21))
  else
  (hw_tf (0 : Int32)).bind fun _ =>
  some ((0 : Int32), σ))
set_option maxRecDepth 100000 in
theorem w4_isTest_s {p : Program} {l : Launch} {e : Env} {s : State} {m : MethodId} {args : Array Value} {below : List Frame} {meth : Method} {c : Code} {D : hw_D} {b : Nat} {x0 : Nat} {σ : hw_S} {r : Int32} {τ : hw_S} {H : Heap} {locs : List Loc} (hm : m4_isTest x0 σ = some (r, τ)) (C0 : hw_C p s m args meth c D yX4_isTest cX4_isTest 4 (some .boolean)) (hR : hw_R D b σ H) (hS : va_S (fun q => b ≤ q) s.heap H locs) {ls : Array Slot} (hl : hw_L ls 4 255 [(0, hw_vr b (some x0))]) : W p l e rm4_isTest s m args below meth c H locs 0 0 (MQ below (hw_QI D b τ r) args s 0 0 (fun q => b ≤ q)) (F0 m 0 ls []) := by
  obtain ⟨hx, hb, hml, hr, hown, hts, hlk, hE, hnm⟩ := id C0
  have hown : s.vm.findClass RX4 = some m.cls := hown
  have hK := hE.1
  unfold m4_isTest at hm
  refine hw_aload_n hx hb dX4_isTest_0 rfl (hl.at 0 rfl) ?_
  obtain ⟨a1, g1, hm⟩ := hw_bs hm
  obtain ⟨rfl, ht1⟩ := hw_rv_th g1
  obtain ⟨v1, e1, hm⟩ := hw_bs hm
  refine hw_cRI (va_runV (As := []) (rest := []) ⟨hx, hb, hml, hown, hts⟩ (c4_ahead l D b e1) (cwV 0 hts (hw_gV hw_m163 hw_m164 hw_m165 hw_m21 hw_m166) rfl rfl rfl (by decide +kernel) ⟨(Nat.le_of_ble_eq_true rfl), (Nat.le_of_ble_eq_true rfl)⟩) (hw_preV (ci := 4) hE hR rfl (by decide) (hw_q_of ht1)) rfl rfl hl.sz rfl (lv_room (Nat.le_of_ble_eq_true rfl)) dX4_isTest_1 ⟨(Nat.le_of_ble_eq_true rfl), (Nat.le_of_ble_eq_true rfl)⟩) ?_
  obtain ⟨v4, e4, hm⟩ := hw_bs hm
  refine hw_cRI (va_runS (As := [.int v1]) (rest := []) ⟨hx, hb, hml, hown, hts⟩ (c4_aboutOf l D e4) (cwS 1 hts (hw_gS hw_m255 hw_m256 hw_m21 hw_m257) rfl rfl rfl (by decide +kernel) ⟨(Nat.le_of_ble_eq_true rfl), (Nat.le_of_ble_eq_true rfl)⟩) (hw_pre0 hE) rfl rfl hl.sz rfl (lv_room (Nat.le_of_ble_eq_true rfl)) dX4_isTest_4 ⟨(Nat.le_of_ble_eq_true rfl), (Nat.le_of_ble_eq_true rfl)⟩) ?_
  refine hw_istore_n (lv' := [(1, .int v4), (0, hw_vr b (some x0))]) hx hb dX4_isTest_7 rfl hl (by decide) (by decide) rfl (fun ls hl => ?_)
  refine lv_iload_n hx hb dX4_isTest_8 rfl (hl.at 0 rfl) ?_
  refine lv_if_ge (tgt := 14) hx hb dX4_isTest_9 (by decide) (fun c9 => ?_) (fun c9 => ?_)
  · have hm := hw_ip hm c9
    refine hw_aload_n hx hb dX4_isTest_14 rfl (hl.at 1 rfl) ?_
    refine lv_dup hx hb dX4_isTest_15 (hw_vr_cat _ _) ?_
    obtain ⟨v16, e16, hm⟩ := hw_bs hm
    refine hw_getI hx hb hw_cf4 hts hown hK hR e16 (by decide) rfl (hts _ hw_m61) (fun _ h9 => h9) dX4_isTest_16 ?_
    refine lv_iconst (v := 1) hx hb dX4_isTest_19 (by decide) ?_
    refine lv_iadd hx hb dX4_isTest_20 ?_
    obtain ⟨σ21, e21, hm⟩ := hw_bs hm
    refine hw_putI hx hb hw_cf4 hts hown hK hR hS e21 (by decide) rfl rfl (hts _ hw_m61) (fun _ h9 => h9) (Or.inl rfl) dX4_isTest_21 (fun _ _ hR hS => ?_)
    refine hw_aload_n hx hb dX4_isTest_24 rfl (hl.at 1 rfl) ?_
    obtain ⟨a25, g25, hm⟩ := hw_bs hm
    obtain ⟨rfl, ht25⟩ := hw_rv_th g25
    obtain ⟨v25, e25, hm⟩ := hw_bs hm
    refine hw_cRI (va_runV (As := []) (rest := []) ⟨hx, hb, hml, hown, hts⟩ (c4_ahead l D b e25) (cwV 0 hts (hw_gV hw_m163 hw_m164 hw_m165 hw_m21 hw_m166) rfl rfl rfl (by decide +kernel) ⟨(Nat.le_of_ble_eq_true rfl), (Nat.le_of_ble_eq_true rfl)⟩) (hw_preV (ci := 4) hE hR rfl (by decide) (hw_q_of ht25)) rfl rfl hl.sz rfl (lv_room (Nat.le_of_ble_eq_true rfl)) dX4_isTest_25 ⟨(Nat.le_of_ble_eq_true rfl), (Nat.le_of_ble_eq_true rfl)⟩) ?_
    obtain ⟨v28, e28, hm⟩ := hw_bs hm
    refine hw_cRI (va_runS (As := [.int v25]) (rest := []) ⟨hx, hb, hml, hown, hts⟩ (c4_signOf l D e28) (cwS 1 hts (hw_gS hw_m258 hw_m259 hw_m21 hw_m260) rfl rfl rfl (by decide +kernel) ⟨(Nat.le_of_ble_eq_true rfl), (Nat.le_of_ble_eq_true rfl)⟩) (hw_pre0 hE) rfl rfl hl.sz rfl (lv_room (Nat.le_of_ble_eq_true rfl)) dX4_isTest_28 ⟨(Nat.le_of_ble_eq_true rfl), (Nat.le_of_ble_eq_true rfl)⟩) ?_
    refine hw_istore_n (lv' := [(2, .int v28), (1, .int v4), (0, hw_vr b (some x0))]) hx hb dX4_isTest_31 rfl hl (by decide) (by decide) rfl (fun ls hl => ?_)
    refine lv_iload_n hx hb dX4_isTest_32 rfl (hl.at 0 rfl) ?_
    refine lv_if_ge (tgt := 38) hx hb dX4_isTest_33 (by decide) (fun c33 => ?_) (fun c33 => ?_)
    · have hm := hw_ip hm c33
      refine hw_aload_n hx hb dX4_isTest_38 rfl (hl.at 2 rfl) ?_
      refine lv_dup hx hb dX4_isTest_39 (hw_vr_cat _ _) ?_
      obtain ⟨v40, e40, hm⟩ := hw_bs hm
      refine hw_getI hx hb hw_cf4 hts hown hK hR e40 (by decide) rfl (hts _ hw_m61) (fun _ h9 => h9) dX4_isTest_40 ?_
      refine lv_iconst (v := 1) hx hb dX4_isTest_43 (by decide) ?_
      refine lv_iadd hx hb dX4_isTest_44 ?_
      obtain ⟨σ45, e45, hm⟩ := hw_bs hm
      refine hw_putI hx hb hw_cf4 hts hown hK hR hS e45 (by decide) rfl rfl (hts _ hw_m61) (fun _ h9 => h9) (Or.inl rfl) dX4_isTest_45 (fun _ _ hR hS => ?_)
      refine hw_aload_n hx hb dX4_isTest_48 rfl (hl.at 2 rfl) ?_
      obtain ⟨a49, g49, hm⟩ := hw_bs hm
      obtain ⟨rfl, ht49⟩ := hw_rv_th g49
      obtain ⟨v49, σ49, e49, hm⟩ := hw_bs2 hm
      refine hw_cWI (va_runV (As := []) (rest := []) ⟨hx, hb, hml, hown, hts⟩ (c4_number l D b e49) (cwV 0 hts (hw_gV hw_m231 hw_m232 hw_m233 hw_m21 hw_m234) rfl rfl rfl (by decide +kernel) ⟨(Nat.le_of_ble_eq_true rfl), (Nat.le_of_ble_eq_true rfl)⟩) (hw_preV (ci := 4) hE hR rfl (by decide) (hw_q_of ht49)) rfl rfl hl.sz rfl (lv_room (Nat.le_of_ble_eq_true rfl)) dX4_isTest_49 ⟨(Nat.le_of_ble_eq_true rfl), (Nat.le_of_ble_eq_true rfl)⟩) hS (fun _ _ hR hS => ?_)
      refine hw_istore_n (lv' := [(3, .int v49), (2, .int v28), (1, .int v4), (0, hw_vr b (some x0))]) hx hb dX4_isTest_52 rfl hl (by decide) (by decide) rfl (fun ls hl => ?_)
      refine lv_iload_n hx hb dX4_isTest_53 rfl (hl.at 0 rfl) ?_
      refine lv_if_ge (tgt := 59) hx hb dX4_isTest_54 (by decide) (fun c54 => ?_) (fun c54 => ?_)
      · have hm := hw_ip hm c54
        refine hw_aload_n hx hb dX4_isTest_59 rfl (hl.at 3 rfl) ?_
        refine lv_iconst (v := 0) hx hb dX4_isTest_60 (by decide) ?_
        refine lv_iload_n hx hb dX4_isTest_61 rfl (hl.at 2 rfl) ?_
        refine lv_iconst (v := 3) hx hb dX4_isTest_62 (by decide) ?_
        refine lv_ishl hx hb dX4_isTest_63 ?_
        refine lv_ior hx hb dX4_isTest_64 ?_
        refine lv_iload_n hx hb dX4_isTest_65 rfl (hl.at 1 rfl) ?_
        refine lv_bipush (v := 6) hx hb dX4_isTest_66 (by decide) ?_
        refine lv_ishl hx hb dX4_isTest_68 ?_
        refine lv_ior hx hb dX4_isTest_69 ?_
        refine lv_iload_n hx hb dX4_isTest_70 rfl (hl.at 0 rfl) ?_
        refine lv_bipush (v := 8) hx hb dX4_isTest_71 (by decide) ?_
        refine lv_ishl hx hb dX4_isTest_73 ?_
        refine lv_ior hx hb dX4_isTest_74 ?_
        obtain ⟨a75, g75, hm⟩ := hw_bs hm
        obtain ⟨rfl, ht75⟩ := hw_rv_th g75
        obtain ⟨σ75, e75, hm⟩ := hw_bs hm
        refine hw_cWV (va_runV (As := [.int ((((0 : Int32) ||| (v4 <<< ((3 : Int32) &&& 31))) ||| (v28 <<< ((6 : Int32) &&& 31))) ||| (v49 <<< ((8 : Int32) &&& 31)))]) (rest := []) ⟨hx, hb, hml, hown, hts⟩ (c4_add l D b e75) (cwV 1 hts (hw_gV hw_m242 hw_m243 hw_m244 hw_m21 hw_m245) rfl rfl rfl (by decide +kernel) ⟨(Nat.le_of_ble_eq_true rfl), (Nat.le_of_ble_eq_true rfl)⟩) (hw_preV (ci := 4) hE hR rfl (by decide) (hw_q_of ht75)) rfl rfl hl.sz rfl (lv_room (Nat.le_of_ble_eq_true rfl)) dX4_isTest_75 ⟨(Nat.le_of_ble_eq_true rfl), (Nat.le_of_ble_eq_true rfl)⟩) hS (fun _ _ hR hS => ?_)
        refine lv_iconst (v := 1) hx hb dX4_isTest_78 (by decide) ?_
        obtain ⟨_, z79, hm⟩ := hw_bs hm
        exact hw_rWZ hx hb hr hlk hR hS z79 hm dX4_isTest_79
      · have hm := hw_in hm c54
        refine lv_iconst (v := 0) hx hb dX4_isTest_57 (by decide) ?_
        obtain ⟨_, z58, hm⟩ := hw_bs hm
        exact hw_rWZ hx hb hr hlk hR hS z58 hm dX4_isTest_58
    · have hm := hw_in hm c33
      refine lv_iconst (v := 0) hx hb dX4_isTest_36 (by decide) ?_
      obtain ⟨_, z37, hm⟩ := hw_bs hm
      exact hw_rWZ hx hb hr hlk hR hS z37 hm dX4_isTest_37
  · have hm := hw_in hm c9
    refine lv_iconst (v := 0) hx hb dX4_isTest_12 (by decide) ?_
    obtain ⟨_, z13, hm⟩ := hw_bs hm
    exact hw_rWZ hx hb hr hlk hR hS z13 hm dX4_isTest_13
set_option maxRecDepth 100000 in
theorem c4_isTest (l : Launch) (D : hw_D) (b : Nat) {x0 : Nat} {σ : hw_S} {r : Int32} {τ : hw_S} (hm : m4_isTest x0 σ = some (r, τ)) : Met l yX4_isTest (Cond.code yX4_isTest cX4_isTest 4 (some .boolean) :: wsL_law) rm4_isTest (hw_P1 D b σ [hw_vr b (some x0)]) (hw_QI D b τ r) 0 0 (fun q => b ≤ q) := by
  refine hw_start1 (by decide +kernel) (by exact Nat.le_of_ble_eq_true rfl) ?_
  intro p e s m below meth c ls C0 hR hS hl
  have hl : lv_has ls 4 [(0, hw_vr b (some x0))] := by exact hl
  exact w4_isTest_s hm C0 hR hS ⟨hl, (List.forall_mem_cons.mpr ⟨(fun h => by rw [show (hw_vr b (some x0) : Value).category = 1 from (hw_vr_cat _ _)] at h; cases h), (fun _ h => absurd h List.not_mem_nil)⟩)⟩

abbrev rm4_isAll (RF RL : Nat) : Room := { frames := RF + 2, cells := 0, slots := 0, locals := RL + 41 }
def m4_isAll_b48 (kP : Nat → Int32 → hw_S → Option (Int32 × hw_S)) (x0 : Nat) (σ : hw_S) : Option (Int32 × hw_S) :=
  (hw_tf (1 : Int32)).bind fun _ =>
  some ((1 : Int32), σ)
set_option maxRecDepth 100000 in
theorem w4_isAll_b48 {p : Program} {l : Launch} {e : Env} {s : State} {m : MethodId} {args : Array Value} {below : List Frame} {meth : Method} {c : Code} {D : hw_D} {b : Nat} {RF RL : Nat} {kP : Nat → Int32 → hw_S → Option (Int32 × hw_S)} {r : Int32} {τ : hw_S} (C0 : hw_C p s m args meth c D yX4_isAll cX4_isAll 3 (some .boolean)) (hP : ∀ {x0 : Nat} {l1 : Int32} {σ : hw_S} {r : Int32} {τ : hw_S}, kP x0 l1 σ = some (r, τ) → Met l yX4_isPart (Cond.code yX4_isPart cX4_isPart 2 (some .boolean) :: wsL_law) (hw_rk RF RL) (hw_P1 D b σ [hw_vr b (some x0), .int l1]) (hw_QI D b τ r) 0 0 (fun q => b ≤ q)) {x0 : Nat} {σ : hw_S} {H : Heap} {locs : List Loc} (hm : m4_isAll_b48 kP x0 σ = some (r, τ)) (hR : hw_R D b σ H) (hS : va_S (fun q => b ≤ q) s.heap H locs) {ls : Array Slot} (hl : hw_L ls 3 255 [(0, hw_vr b (some x0))]) : W p l e (rm4_isAll RF RL) s m args below meth c H locs 0 0 (MQ below (hw_QI D b τ r) args s 0 0 (fun q => b ≤ q)) (F0 m 48 ls []) := by
  obtain ⟨hx, hb, hml, hr, hown, hts, hlk, hE, hnm⟩ := id C0
  have hown : s.vm.findClass RX4 = some m.cls := hown
  have hK := hE.1
  unfold m4_isAll_b48 at hm
  refine lv_iconst (v := 1) hx hb dX4_isAll_48 (by decide) ?_
  obtain ⟨_, z49, hm⟩ := hw_bs hm
  exact hw_rWZ hx hb hr hlk hR hS z49 hm dX4_isAll_49
def m4_isAll_b12 (kP : Nat → Int32 → hw_S → Option (Int32 × hw_S)) : Nat → Nat → Int32 → Int32 → hw_S → Option (Int32 × hw_S)
  | 0, _, _, _, _ => none
  | n + 1, x0, l1, l2, σ =>
  (if (120 : Int32) ≤ l2 then
  m4_isAll_b48 kP x0 σ
  else
  (hw_rv (hw_q 4) (some x0) σ).bind fun a21 =>
  hw_b2 (m4_comes x0 (38 : Int32) σ) fun v21 σ21 =>
  (if v21 = 0 then
  m4_isAll_b48 kP x0 σ21
  else
  (hw_rv (hw_q 4) (some x0) σ21).bind fun a29 =>
  hw_b2 (kP x0 l1 σ21) fun v29 σ29 =>
  (if v29 = 0 then
  (hw_tf (0 : Int32)).bind fun _ =>
  some ((0 : Int32), σ29)
  else
  (hw_rv (hw_q 4) (some x0) σ29).bind fun a39 =>
  (m4_add x0 (2 : Int32) σ29).bind fun σ39 =>
  m4_isAll_b12 kP n x0 l1 (l2 + 1) σ39)))
set_option maxRecDepth 100000 in
theorem w4_isAll_b12 {p : Program} {l : Launch} {e : Env} {s : State} {m : MethodId} {args : Array Value} {below : List Frame} {meth : Method} {c : Code} {D : hw_D} {b : Nat} {RF RL : Nat} {kP : Nat → Int32 → hw_S → Option (Int32 × hw_S)} {r : Int32} {τ : hw_S} (C0 : hw_C p s m args meth c D yX4_isAll cX4_isAll 3 (some .boolean)) (hP : ∀ {x0 : Nat} {l1 : Int32} {σ : hw_S} {r : Int32} {τ : hw_S}, kP x0 l1 σ = some (r, τ) → Met l yX4_isPart (Cond.code yX4_isPart cX4_isPart 2 (some .boolean) :: wsL_law) (hw_rk RF RL) (hw_P1 D b σ [hw_vr b (some x0), .int l1]) (hw_QI D b τ r) 0 0 (fun q => b ≤ q)) : ∀ (n : Nat) {x0 : Nat} {l1 : Int32} {l2 : Int32} {σ : hw_S} {H : Heap} {locs : List Loc} {ls : Array Slot}, m4_isAll_b12 kP n x0 l1 l2 σ = some (r, τ) → hw_R D b σ H → va_S (fun q => b ≤ q) s.heap H locs → hw_L ls 3 255 [(0, hw_vr b (some x0)), (1, .int l1), (2, .int l2)] → W p l e (rm4_isAll RF RL) s m args below meth c H locs 0 0 (MQ below (hw_QI D b τ r) args s 0 0 (fun q => b ≤ q)) (F0 m 12 ls []) := by
  obtain ⟨hx, hb, hml, hr, hown, hts, hlk, hE, hnm⟩ := id C0
  have hown : s.vm.findClass RX4 = some m.cls := hown
  have hK := hE.1
  intro n
  induction n with
  | zero => intro _ _ _ _ _ _ _ hm; cases hm
  | succ n ih =>
    intro x0 l1 l2 σ H locs ls hm hR hS hl
    rw [m4_isAll_b12] at hm
    refine lv_iload_n hx hb dX4_isAll_12 rfl (hl.at 2 rfl) ?_
    refine lv_bipush (v := 120) hx hb dX4_isAll_13 (by decide) ?_
    refine lv_icmp_ge (tgt := 48) hx hb dX4_isAll_15 (by decide) (fun c15 => ?_) (fun c15 => ?_)
    · have hm := hw_ip hm c15
      exact w4_isAll_b48 C0 hP hm hR hS (hl.sub [0] rfl)
    · have hm := hw_in hm c15
      refine hw_aload_n hx hb dX4_isAll_18 rfl (hl.at 0 rfl) ?_
      refine lv_bipush (v := 38) hx hb dX4_isAll_19 (by decide) ?_
      obtain ⟨a21, g21, hm⟩ := hw_bs hm
      obtain ⟨rfl, ht21⟩ := hw_rv_th g21
      obtain ⟨v21, σ21, e21, hm⟩ := hw_bs2 hm
      refine hw_cWI (va_runV (As := [.int (38 : Int32)]) (rest := []) ⟨hx, hb, hml, hown, hts⟩ (c4_comes l D b e21) (cwV 1 hts (hw_gV hw_m223 hw_m224 hw_m225 hw_m21 hw_m226) rfl rfl rfl (by decide +kernel) ⟨(by first | (dsimp only [hw_rk, rm4_add, rm4_comes, rm4_isAll]; omega) | dsimp only [hw_rk, rm4_add, rm4_comes, rm4_isAll]), (by first | (dsimp only [hw_rk, rm4_add, rm4_comes, rm4_isAll]; omega) | dsimp only [hw_rk, rm4_add, rm4_comes, rm4_isAll])⟩) (hw_preV (ci := 4) hE hR rfl (by decide) (hw_q_of ht21)) rfl rfl hl.sz rfl (lv_room (Nat.le_of_ble_eq_true rfl)) dX4_isAll_21 ⟨(Nat.le_of_ble_eq_true rfl), (Nat.le_of_ble_eq_true rfl)⟩) hS (fun _ _ hR hS => ?_)
      refine lv_if_eq (tgt := 48) hx hb dX4_isAll_24 (by decide) (fun c24 => ?_) (fun c24 => ?_)
      · have hm := hw_ip hm c24
        exact w4_isAll_b48 C0 hP hm hR hS (hl.sub [0] rfl)
      · have hm := hw_in hm c24
        refine hw_aload_n hx hb dX4_isAll_27 rfl (hl.at 0 rfl) ?_
        refine lv_iload_n hx hb dX4_isAll_28 rfl (hl.at 1 rfl) ?_
        obtain ⟨a29, g29, hm⟩ := hw_bs hm
        obtain ⟨rfl, ht29⟩ := hw_rv_th g29
        obtain ⟨v29, σ29, e29, hm⟩ := hw_bs2 hm
        refine hw_cWI (va_runV (As := [.int l1]) (rest := []) ⟨hx, hb, hml, hown, hts⟩ (hP e29) (cwV 1 hts (hw_gV hw_m247 hw_m248 hw_m249 hw_m21 hw_m250) rfl rfl rfl (by decide +kernel) ⟨(by first | (dsimp only [hw_rk, rm4_add, rm4_comes, rm4_isAll]; omega) | dsimp only [hw_rk, rm4_add, rm4_comes, rm4_isAll]), (by first | (dsimp only [hw_rk, rm4_add, rm4_comes, rm4_isAll]; omega) | dsimp only [hw_rk, rm4_add, rm4_comes, rm4_isAll])⟩) (hw_preV (ci := 4) hE hR rfl (by decide) (hw_q_of ht29)) rfl rfl hl.sz rfl (lv_room (Nat.le_of_ble_eq_true rfl)) dX4_isAll_29 ⟨(Nat.le_of_ble_eq_true rfl), (Nat.le_of_ble_eq_true rfl)⟩) hS (fun _ _ hR hS => ?_)
        refine lv_if_ne (tgt := 37) hx hb dX4_isAll_32 (by decide) (fun c32 => ?_) (fun c32 => ?_)
        · have hm := hw_in hm c32
          refine hw_aload_n hx hb dX4_isAll_37 rfl (hl.at 0 rfl) ?_
          refine lv_iconst (v := 2) hx hb dX4_isAll_38 (by decide) ?_
          obtain ⟨a39, g39, hm⟩ := hw_bs hm
          obtain ⟨rfl, ht39⟩ := hw_rv_th g39
          obtain ⟨σ39, e39, hm⟩ := hw_bs hm
          refine hw_cWV (va_runV (As := [.int (2 : Int32)]) (rest := []) ⟨hx, hb, hml, hown, hts⟩ (c4_add l D b e39) (cwV 1 hts (hw_gV hw_m242 hw_m243 hw_m244 hw_m21 hw_m245) rfl rfl rfl (by decide +kernel) ⟨(by first | (dsimp only [hw_rk, rm4_add, rm4_comes, rm4_isAll]; omega) | dsimp only [hw_rk, rm4_add, rm4_comes, rm4_isAll]), (by first | (dsimp only [hw_rk, rm4_add, rm4_comes, rm4_isAll]; omega) | dsimp only [hw_rk, rm4_add, rm4_comes, rm4_isAll])⟩) (hw_preV (ci := 4) hE hR rfl (by decide) (hw_q_of ht39)) rfl rfl hl.sz rfl (lv_room (Nat.le_of_ble_eq_true rfl)) dX4_isAll_39 ⟨(Nat.le_of_ble_eq_true rfl), (Nat.le_of_ble_eq_true rfl)⟩) hS (fun _ _ hR hS => ?_)
          refine hw_iinc (v := (l2 + 1)) (lv' := [(2, .int (l2 + 1)), (0, hw_vr b (some x0)), (1, .int l1)]) hx hb dX4_isAll_42 hl (k := 2) rfl rfl (by decide) (by decide) rfl (fun ls hl => ?_)
          refine lv_goto (tgt := 12) hx hb dX4_isAll_45 (by decide) ?_
          exact ih hm hR hS (hl.sub [1, 2, 0] rfl)
        · have hm := hw_ip hm c32
          refine lv_iconst (v := 0) hx hb dX4_isAll_35 (by decide) ?_
          obtain ⟨_, z36, hm⟩ := hw_bs hm
          exact hw_rWZ hx hb hr hlk hR hS z36 hm dX4_isAll_36
def m4_isAll (kP : Nat → Int32 → hw_S → Option (Int32 × hw_S)) (x0 : Nat) (l1 : Int32) (σ : hw_S) : Option (Int32 × hw_S) :=
  (hw_rv (hw_q 4) (some x0) σ).bind fun a2 =>
  hw_b2 (kP x0 l1 σ) fun v2 σ2 =>
  (if v2 = 0 then
  (hw_tf (0 : Int32)).bind fun _ =>
  some ((0 : Int32), σ2)
  else
  m4_isAll_b12 kP hw_fu x0 l1 (0 : Int32) σ2)
set_option maxRecDepth 100000 in
theorem w4_isAll_s {p : Program} {l : Launch} {e : Env} {s : State} {m : MethodId} {args : Array Value} {below : List Frame} {meth : Method} {c : Code} {D : hw_D} {b : Nat} {RF RL : Nat} {kP : Nat → Int32 → hw_S → Option (Int32 × hw_S)} {x0 : Nat} {l1 : Int32} {σ : hw_S} {r : Int32} {τ : hw_S} {H : Heap} {locs : List Loc} (hm : m4_isAll kP x0 l1 σ = some (r, τ)) (C0 : hw_C p s m args meth c D yX4_isAll cX4_isAll 3 (some .boolean)) (hP : ∀ {x0 : Nat} {l1 : Int32} {σ : hw_S} {r : Int32} {τ : hw_S}, kP x0 l1 σ = some (r, τ) → Met l yX4_isPart (Cond.code yX4_isPart cX4_isPart 2 (some .boolean) :: wsL_law) (hw_rk RF RL) (hw_P1 D b σ [hw_vr b (some x0), .int l1]) (hw_QI D b τ r) 0 0 (fun q => b ≤ q)) (hR : hw_R D b σ H) (hS : va_S (fun q => b ≤ q) s.heap H locs) {ls : Array Slot} (hl : hw_L ls 3 255 [(0, hw_vr b (some x0)), (1, .int l1)]) : W p l e (rm4_isAll RF RL) s m args below meth c H locs 0 0 (MQ below (hw_QI D b τ r) args s 0 0 (fun q => b ≤ q)) (F0 m 0 ls []) := by
  obtain ⟨hx, hb, hml, hr, hown, hts, hlk, hE, hnm⟩ := id C0
  have hown : s.vm.findClass RX4 = some m.cls := hown
  have hK := hE.1
  unfold m4_isAll at hm
  refine hw_aload_n hx hb dX4_isAll_0 rfl (hl.at 0 rfl) ?_
  refine lv_iload_n hx hb dX4_isAll_1 rfl (hl.at 1 rfl) ?_
  obtain ⟨a2, g2, hm⟩ := hw_bs hm
  obtain ⟨rfl, ht2⟩ := hw_rv_th g2
  obtain ⟨v2, σ2, e2, hm⟩ := hw_bs2 hm
  refine hw_cWI (va_runV (As := [.int l1]) (rest := []) ⟨hx, hb, hml, hown, hts⟩ (hP e2) (cwV 1 hts (hw_gV hw_m247 hw_m248 hw_m249 hw_m21 hw_m250) rfl rfl rfl (by decide +kernel) ⟨(by first | (dsimp only [hw_rk, rm4_add, rm4_comes, rm4_isAll]; omega) | dsimp only [hw_rk, rm4_add, rm4_comes, rm4_isAll]), (by first | (dsimp only [hw_rk, rm4_add, rm4_comes, rm4_isAll]; omega) | dsimp only [hw_rk, rm4_add, rm4_comes, rm4_isAll])⟩) (hw_preV (ci := 4) hE hR rfl (by decide) (hw_q_of ht2)) rfl rfl hl.sz rfl (lv_room (Nat.le_of_ble_eq_true rfl)) dX4_isAll_2 ⟨(Nat.le_of_ble_eq_true rfl), (Nat.le_of_ble_eq_true rfl)⟩) hS (fun _ _ hR hS => ?_)
  refine lv_if_ne (tgt := 10) hx hb dX4_isAll_5 (by decide) (fun c5 => ?_) (fun c5 => ?_)
  · have hm := hw_in hm c5
    refine lv_iconst (v := 0) hx hb dX4_isAll_10 (by decide) ?_
    refine hw_istore_n (lv' := [(2, .int (0 : Int32)), (0, hw_vr b (some x0)), (1, .int l1)]) hx hb dX4_isAll_11 rfl hl (by decide) (by decide) rfl (fun ls hl => ?_)
    exact w4_isAll_b12 C0 hP hw_fu hm hR hS (hl.sub [1, 2, 0] rfl)
  · have hm := hw_ip hm c5
    refine lv_iconst (v := 0) hx hb dX4_isAll_8 (by decide) ?_
    obtain ⟨_, z9, hm⟩ := hw_bs hm
    exact hw_rWZ hx hb hr hlk hR hS z9 hm dX4_isAll_9
set_option maxRecDepth 100000 in
theorem c4_isAll (l : Launch) (D : hw_D) (b : Nat) {RF RL : Nat} {kP : Nat → Int32 → hw_S → Option (Int32 × hw_S)} (hP : ∀ {x0 : Nat} {l1 : Int32} {σ : hw_S} {r : Int32} {τ : hw_S}, kP x0 l1 σ = some (r, τ) → Met l yX4_isPart (Cond.code yX4_isPart cX4_isPart 2 (some .boolean) :: wsL_law) (hw_rk RF RL) (hw_P1 D b σ [hw_vr b (some x0), .int l1]) (hw_QI D b τ r) 0 0 (fun q => b ≤ q)) {x0 : Nat} {l1 : Int32} {σ : hw_S} {r : Int32} {τ : hw_S} (hm : m4_isAll kP x0 l1 σ = some (r, τ)) : Met l yX4_isAll (Cond.code yX4_isAll cX4_isAll 3 (some .boolean) :: wsL_law) (rm4_isAll RF RL) (hw_P1 D b σ [hw_vr b (some x0), .int l1]) (hw_QI D b τ r) 0 0 (fun q => b ≤ q) := by
  refine hw_start1 (by decide +kernel) (by exact Nat.le_of_ble_eq_true rfl) ?_
  intro p e s m below meth c ls C0 hR hS hl
  have hl : lv_has ls 3 [(0, hw_vr b (some x0)), (1, .int l1)] := by exact hl
  exact w4_isAll_s hm C0 hP hR hS ⟨hl, (List.forall_mem_cons.mpr ⟨(fun h => by rw [show (hw_vr b (some x0) : Value).category = 1 from (hw_vr_cat _ _)] at h; cases h), (List.forall_mem_cons.mpr ⟨(fun h => absurd (show (1 : Nat) = 2 from h) (by decide)), (fun _ h => absurd h List.not_mem_nil)⟩)⟩)⟩

abbrev rm4_isAny (RF RL : Nat) : Room := { frames := RF + 3, cells := 0, slots := 0, locals := RL + 63 }
def m4_isAny_b48 (kP : Nat → Int32 → hw_S → Option (Int32 × hw_S)) (x0 : Nat) (σ : hw_S) : Option (Int32 × hw_S) :=
  (hw_tf (1 : Int32)).bind fun _ =>
  some ((1 : Int32), σ)
set_option maxRecDepth 100000 in
theorem w4_isAny_b48 {p : Program} {l : Launch} {e : Env} {s : State} {m : MethodId} {args : Array Value} {below : List Frame} {meth : Method} {c : Code} {D : hw_D} {b : Nat} {RF RL : Nat} {kP : Nat → Int32 → hw_S → Option (Int32 × hw_S)} {r : Int32} {τ : hw_S} (C0 : hw_C p s m args meth c D yX4_isAny cX4_isAny 3 (some .boolean)) (hP : ∀ {x0 : Nat} {l1 : Int32} {σ : hw_S} {r : Int32} {τ : hw_S}, kP x0 l1 σ = some (r, τ) → Met l yX4_isPart (Cond.code yX4_isPart cX4_isPart 2 (some .boolean) :: wsL_law) (hw_rk RF RL) (hw_P1 D b σ [hw_vr b (some x0), .int l1]) (hw_QI D b τ r) 0 0 (fun q => b ≤ q)) {x0 : Nat} {σ : hw_S} {H : Heap} {locs : List Loc} (hm : m4_isAny_b48 kP x0 σ = some (r, τ)) (hR : hw_R D b σ H) (hS : va_S (fun q => b ≤ q) s.heap H locs) {ls : Array Slot} (hl : hw_L ls 3 255 [(0, hw_vr b (some x0))]) : W p l e (rm4_isAny RF RL) s m args below meth c H locs 0 0 (MQ below (hw_QI D b τ r) args s 0 0 (fun q => b ≤ q)) (F0 m 48 ls []) := by
  obtain ⟨hx, hb, hml, hr, hown, hts, hlk, hE, hnm⟩ := id C0
  have hown : s.vm.findClass RX4 = some m.cls := hown
  have hK := hE.1
  unfold m4_isAny_b48 at hm
  refine lv_iconst (v := 1) hx hb dX4_isAny_48 (by decide) ?_
  obtain ⟨_, z49, hm⟩ := hw_bs hm
  exact hw_rWZ hx hb hr hlk hR hS z49 hm dX4_isAny_49
def m4_isAny_b12 (kP : Nat → Int32 → hw_S → Option (Int32 × hw_S)) : Nat → Nat → Int32 → Int32 → hw_S → Option (Int32 × hw_S)
  | 0, _, _, _, _ => none
  | n + 1, x0, l1, l2, σ =>
  (if (120 : Int32) ≤ l2 then
  m4_isAny_b48 kP x0 σ
  else
  (hw_rv (hw_q 4) (some x0) σ).bind fun a21 =>
  hw_b2 (m4_comes x0 (124 : Int32) σ) fun v21 σ21 =>
  (if v21 = 0 then
  m4_isAny_b48 kP x0 σ21
  else
  (hw_rv (hw_q 4) (some x0) σ21).bind fun a29 =>
  hw_b2 (m4_isAll kP x0 l1 σ21) fun v29 σ29 =>
  (if v29 = 0 then
  (hw_tf (0 : Int32)).bind fun _ =>
  some ((0 : Int32), σ29)
  else
  (hw_rv (hw_q 4) (some x0) σ29).bind fun a39 =>
  (m4_add x0 (3 : Int32) σ29).bind fun σ39 =>
  m4_isAny_b12 kP n x0 l1 (l2 + 1) σ39)))
set_option maxRecDepth 100000 in
theorem w4_isAny_b12 {p : Program} {l : Launch} {e : Env} {s : State} {m : MethodId} {args : Array Value} {below : List Frame} {meth : Method} {c : Code} {D : hw_D} {b : Nat} {RF RL : Nat} {kP : Nat → Int32 → hw_S → Option (Int32 × hw_S)} {r : Int32} {τ : hw_S} (C0 : hw_C p s m args meth c D yX4_isAny cX4_isAny 3 (some .boolean)) (hP : ∀ {x0 : Nat} {l1 : Int32} {σ : hw_S} {r : Int32} {τ : hw_S}, kP x0 l1 σ = some (r, τ) → Met l yX4_isPart (Cond.code yX4_isPart cX4_isPart 2 (some .boolean) :: wsL_law) (hw_rk RF RL) (hw_P1 D b σ [hw_vr b (some x0), .int l1]) (hw_QI D b τ r) 0 0 (fun q => b ≤ q)) : ∀ (n : Nat) {x0 : Nat} {l1 : Int32} {l2 : Int32} {σ : hw_S} {H : Heap} {locs : List Loc} {ls : Array Slot}, m4_isAny_b12 kP n x0 l1 l2 σ = some (r, τ) → hw_R D b σ H → va_S (fun q => b ≤ q) s.heap H locs → hw_L ls 3 255 [(0, hw_vr b (some x0)), (1, .int l1), (2, .int l2)] → W p l e (rm4_isAny RF RL) s m args below meth c H locs 0 0 (MQ below (hw_QI D b τ r) args s 0 0 (fun q => b ≤ q)) (F0 m 12 ls []) := by
  obtain ⟨hx, hb, hml, hr, hown, hts, hlk, hE, hnm⟩ := id C0
  have hown : s.vm.findClass RX4 = some m.cls := hown
  have hK := hE.1
  intro n
  induction n with
  | zero => intro _ _ _ _ _ _ _ hm; cases hm
  | succ n ih =>
    intro x0 l1 l2 σ H locs ls hm hR hS hl
    rw [m4_isAny_b12] at hm
    refine lv_iload_n hx hb dX4_isAny_12 rfl (hl.at 2 rfl) ?_
    refine lv_bipush (v := 120) hx hb dX4_isAny_13 (by decide) ?_
    refine lv_icmp_ge (tgt := 48) hx hb dX4_isAny_15 (by decide) (fun c15 => ?_) (fun c15 => ?_)
    · have hm := hw_ip hm c15
      exact w4_isAny_b48 C0 hP hm hR hS (hl.sub [0] rfl)
    · have hm := hw_in hm c15
      refine hw_aload_n hx hb dX4_isAny_18 rfl (hl.at 0 rfl) ?_
      refine lv_bipush (v := 124) hx hb dX4_isAny_19 (by decide) ?_
      obtain ⟨a21, g21, hm⟩ := hw_bs hm
      obtain ⟨rfl, ht21⟩ := hw_rv_th g21
      obtain ⟨v21, σ21, e21, hm⟩ := hw_bs2 hm
      refine hw_cWI (va_runV (As := [.int (124 : Int32)]) (rest := []) ⟨hx, hb, hml, hown, hts⟩ (c4_comes l D b e21) (cwV 1 hts (hw_gV hw_m223 hw_m224 hw_m225 hw_m21 hw_m226) rfl rfl rfl (by decide +kernel) ⟨(by first | (dsimp only [hw_rk, rm4_add, rm4_comes, rm4_isAll, rm4_isAny]; omega) | dsimp only [hw_rk, rm4_add, rm4_comes, rm4_isAll, rm4_isAny]), (by first | (dsimp only [hw_rk, rm4_add, rm4_comes, rm4_isAll, rm4_isAny]; omega) | dsimp only [hw_rk, rm4_add, rm4_comes, rm4_isAll, rm4_isAny])⟩) (hw_preV (ci := 4) hE hR rfl (by decide) (hw_q_of ht21)) rfl rfl hl.sz rfl (lv_room (Nat.le_of_ble_eq_true rfl)) dX4_isAny_21 ⟨(Nat.le_of_ble_eq_true rfl), (Nat.le_of_ble_eq_true rfl)⟩) hS (fun _ _ hR hS => ?_)
      refine lv_if_eq (tgt := 48) hx hb dX4_isAny_24 (by decide) (fun c24 => ?_) (fun c24 => ?_)
      · have hm := hw_ip hm c24
        exact w4_isAny_b48 C0 hP hm hR hS (hl.sub [0] rfl)
      · have hm := hw_in hm c24
        refine hw_aload_n hx hb dX4_isAny_27 rfl (hl.at 0 rfl) ?_
        refine lv_iload_n hx hb dX4_isAny_28 rfl (hl.at 1 rfl) ?_
        obtain ⟨a29, g29, hm⟩ := hw_bs hm
        obtain ⟨rfl, ht29⟩ := hw_rv_th g29
        obtain ⟨v29, σ29, e29, hm⟩ := hw_bs2 hm
        refine hw_cWI (va_runV (As := [.int l1]) (rest := []) ⟨hx, hb, hml, hown, hts⟩ (c4_isAll l D b hP e29) (cwV 1 hts (hw_gV hw_m239 hw_m240 hw_m241 hw_m21 hw_m246) rfl rfl rfl (by decide +kernel) ⟨(by first | (dsimp only [hw_rk, rm4_add, rm4_comes, rm4_isAll, rm4_isAny]; omega) | dsimp only [hw_rk, rm4_add, rm4_comes, rm4_isAll, rm4_isAny]), (by first | (dsimp only [hw_rk, rm4_add, rm4_comes, rm4_isAll, rm4_isAny]; omega) | dsimp only [hw_rk, rm4_add, rm4_comes, rm4_isAll, rm4_isAny])⟩) (hw_preV (ci := 4) hE hR rfl (by decide) (hw_q_of ht29)) rfl rfl hl.sz rfl (lv_room (Nat.le_of_ble_eq_true rfl)) dX4_isAny_29 ⟨(Nat.le_of_ble_eq_true rfl), (Nat.le_of_ble_eq_true rfl)⟩) hS (fun _ _ hR hS => ?_)
        refine lv_if_ne (tgt := 37) hx hb dX4_isAny_32 (by decide) (fun c32 => ?_) (fun c32 => ?_)
        · have hm := hw_in hm c32
          refine hw_aload_n hx hb dX4_isAny_37 rfl (hl.at 0 rfl) ?_
          refine lv_iconst (v := 3) hx hb dX4_isAny_38 (by decide) ?_
          obtain ⟨a39, g39, hm⟩ := hw_bs hm
          obtain ⟨rfl, ht39⟩ := hw_rv_th g39
          obtain ⟨σ39, e39, hm⟩ := hw_bs hm
          refine hw_cWV (va_runV (As := [.int (3 : Int32)]) (rest := []) ⟨hx, hb, hml, hown, hts⟩ (c4_add l D b e39) (cwV 1 hts (hw_gV hw_m242 hw_m243 hw_m244 hw_m21 hw_m245) rfl rfl rfl (by decide +kernel) ⟨(by first | (dsimp only [hw_rk, rm4_add, rm4_comes, rm4_isAll, rm4_isAny]; omega) | dsimp only [hw_rk, rm4_add, rm4_comes, rm4_isAll, rm4_isAny]), (by first | (dsimp only [hw_rk, rm4_add, rm4_comes, rm4_isAll, rm4_isAny]; omega) | dsimp only [hw_rk, rm4_add, rm4_comes, rm4_isAll, rm4_isAny])⟩) (hw_preV (ci := 4) hE hR rfl (by decide) (hw_q_of ht39)) rfl rfl hl.sz rfl (lv_room (Nat.le_of_ble_eq_true rfl)) dX4_isAny_39 ⟨(Nat.le_of_ble_eq_true rfl), (Nat.le_of_ble_eq_true rfl)⟩) hS (fun _ _ hR hS => ?_)
          refine hw_iinc (v := (l2 + 1)) (lv' := [(2, .int (l2 + 1)), (0, hw_vr b (some x0)), (1, .int l1)]) hx hb dX4_isAny_42 hl (k := 2) rfl rfl (by decide) (by decide) rfl (fun ls hl => ?_)
          refine lv_goto (tgt := 12) hx hb dX4_isAny_45 (by decide) ?_
          exact ih hm hR hS (hl.sub [1, 2, 0] rfl)
        · have hm := hw_ip hm c32
          refine lv_iconst (v := 0) hx hb dX4_isAny_35 (by decide) ?_
          obtain ⟨_, z36, hm⟩ := hw_bs hm
          exact hw_rWZ hx hb hr hlk hR hS z36 hm dX4_isAny_36
def m4_isAny (kP : Nat → Int32 → hw_S → Option (Int32 × hw_S)) (x0 : Nat) (l1 : Int32) (σ : hw_S) : Option (Int32 × hw_S) :=
  (hw_rv (hw_q 4) (some x0) σ).bind fun a2 =>
  hw_b2 (m4_isAll kP x0 l1 σ) fun v2 σ2 =>
  (if v2 = 0 then
  (hw_tf (0 : Int32)).bind fun _ =>
  some ((0 : Int32), σ2)
  else
  m4_isAny_b12 kP hw_fu x0 l1 (0 : Int32) σ2)
set_option maxRecDepth 100000 in
theorem w4_isAny_s {p : Program} {l : Launch} {e : Env} {s : State} {m : MethodId} {args : Array Value} {below : List Frame} {meth : Method} {c : Code} {D : hw_D} {b : Nat} {RF RL : Nat} {kP : Nat → Int32 → hw_S → Option (Int32 × hw_S)} {x0 : Nat} {l1 : Int32} {σ : hw_S} {r : Int32} {τ : hw_S} {H : Heap} {locs : List Loc} (hm : m4_isAny kP x0 l1 σ = some (r, τ)) (C0 : hw_C p s m args meth c D yX4_isAny cX4_isAny 3 (some .boolean)) (hP : ∀ {x0 : Nat} {l1 : Int32} {σ : hw_S} {r : Int32} {τ : hw_S}, kP x0 l1 σ = some (r, τ) → Met l yX4_isPart (Cond.code yX4_isPart cX4_isPart 2 (some .boolean) :: wsL_law) (hw_rk RF RL) (hw_P1 D b σ [hw_vr b (some x0), .int l1]) (hw_QI D b τ r) 0 0 (fun q => b ≤ q)) (hR : hw_R D b σ H) (hS : va_S (fun q => b ≤ q) s.heap H locs) {ls : Array Slot} (hl : hw_L ls 3 255 [(0, hw_vr b (some x0)), (1, .int l1)]) : W p l e (rm4_isAny RF RL) s m args below meth c H locs 0 0 (MQ below (hw_QI D b τ r) args s 0 0 (fun q => b ≤ q)) (F0 m 0 ls []) := by
  obtain ⟨hx, hb, hml, hr, hown, hts, hlk, hE, hnm⟩ := id C0
  have hown : s.vm.findClass RX4 = some m.cls := hown
  have hK := hE.1
  unfold m4_isAny at hm
  refine hw_aload_n hx hb dX4_isAny_0 rfl (hl.at 0 rfl) ?_
  refine lv_iload_n hx hb dX4_isAny_1 rfl (hl.at 1 rfl) ?_
  obtain ⟨a2, g2, hm⟩ := hw_bs hm
  obtain ⟨rfl, ht2⟩ := hw_rv_th g2
  obtain ⟨v2, σ2, e2, hm⟩ := hw_bs2 hm
  refine hw_cWI (va_runV (As := [.int l1]) (rest := []) ⟨hx, hb, hml, hown, hts⟩ (c4_isAll l D b hP e2) (cwV 1 hts (hw_gV hw_m239 hw_m240 hw_m241 hw_m21 hw_m246) rfl rfl rfl (by decide +kernel) ⟨(by first | (dsimp only [hw_rk, rm4_add, rm4_comes, rm4_isAll, rm4_isAny]; omega) | dsimp only [hw_rk, rm4_add, rm4_comes, rm4_isAll, rm4_isAny]), (by first | (dsimp only [hw_rk, rm4_add, rm4_comes, rm4_isAll, rm4_isAny]; omega) | dsimp only [hw_rk, rm4_add, rm4_comes, rm4_isAll, rm4_isAny])⟩) (hw_preV (ci := 4) hE hR rfl (by decide) (hw_q_of ht2)) rfl rfl hl.sz rfl (lv_room (Nat.le_of_ble_eq_true rfl)) dX4_isAny_2 ⟨(Nat.le_of_ble_eq_true rfl), (Nat.le_of_ble_eq_true rfl)⟩) hS (fun _ _ hR hS => ?_)
  refine lv_if_ne (tgt := 10) hx hb dX4_isAny_5 (by decide) (fun c5 => ?_) (fun c5 => ?_)
  · have hm := hw_in hm c5
    refine lv_iconst (v := 0) hx hb dX4_isAny_10 (by decide) ?_
    refine hw_istore_n (lv' := [(2, .int (0 : Int32)), (0, hw_vr b (some x0)), (1, .int l1)]) hx hb dX4_isAny_11 rfl hl (by decide) (by decide) rfl (fun ls hl => ?_)
    exact w4_isAny_b12 C0 hP hw_fu hm hR hS (hl.sub [1, 2, 0] rfl)
  · have hm := hw_ip hm c5
    refine lv_iconst (v := 0) hx hb dX4_isAny_8 (by decide) ?_
    obtain ⟨_, z9, hm⟩ := hw_bs hm
    exact hw_rWZ hx hb hr hlk hR hS z9 hm dX4_isAny_9
set_option maxRecDepth 100000 in
theorem c4_isAny (l : Launch) (D : hw_D) (b : Nat) {RF RL : Nat} {kP : Nat → Int32 → hw_S → Option (Int32 × hw_S)} (hP : ∀ {x0 : Nat} {l1 : Int32} {σ : hw_S} {r : Int32} {τ : hw_S}, kP x0 l1 σ = some (r, τ) → Met l yX4_isPart (Cond.code yX4_isPart cX4_isPart 2 (some .boolean) :: wsL_law) (hw_rk RF RL) (hw_P1 D b σ [hw_vr b (some x0), .int l1]) (hw_QI D b τ r) 0 0 (fun q => b ≤ q)) {x0 : Nat} {l1 : Int32} {σ : hw_S} {r : Int32} {τ : hw_S} (hm : m4_isAny kP x0 l1 σ = some (r, τ)) : Met l yX4_isAny (Cond.code yX4_isAny cX4_isAny 3 (some .boolean) :: wsL_law) (rm4_isAny RF RL) (hw_P1 D b σ [hw_vr b (some x0), .int l1]) (hw_QI D b τ r) 0 0 (fun q => b ≤ q) := by
  refine hw_start1 (by decide +kernel) (by exact Nat.le_of_ble_eq_true rfl) ?_
  intro p e s m below meth c ls C0 hR hS hl
  have hl : lv_has ls 3 [(0, hw_vr b (some x0)), (1, .int l1)] := by exact hl
  exact w4_isAny_s hm C0 hP hR hS ⟨hl, (List.forall_mem_cons.mpr ⟨(fun h => by rw [show (hw_vr b (some x0) : Value).category = 1 from (hw_vr_cat _ _)] at h; cases h), (List.forall_mem_cons.mpr ⟨(fun h => absurd (show (1 : Nat) = 2 from h) (by decide)), (fun _ h => absurd h List.not_mem_nil)⟩)⟩)⟩

abbrev rm4_isPartF (RF RL : Nat) : Room := { frames := RF + 4, cells := 0, slots := 0, locals := RL + 85 }
def m4_isPartF_b63 (kP : Nat → Int32 → hw_S → Option (Int32 × hw_S)) (x0 : Nat) (t0 : Int32) (σ : hw_S) : Option (Int32 × hw_S) :=
  (hw_tf t0).bind fun _ =>
  some (t0, σ)
set_option maxRecDepth 100000 in
theorem w4_isPartF_b63 {p : Program} {l : Launch} {e : Env} {s : State} {m : MethodId} {args : Array Value} {below : List Frame} {meth : Method} {c : Code} {D : hw_D} {b : Nat} {RF RL : Nat} {kP : Nat → Int32 → hw_S → Option (Int32 × hw_S)} {r : Int32} {τ : hw_S} (C0 : hw_C p s m args meth c D yX4_isPart cX4_isPart 2 (some .boolean)) (hP : ∀ {x0 : Nat} {l1 : Int32} {σ : hw_S} {r : Int32} {τ : hw_S}, kP x0 l1 σ = some (r, τ) → Met l yX4_isPart (Cond.code yX4_isPart cX4_isPart 2 (some .boolean) :: wsL_law) (hw_rk RF RL) (hw_P1 D b σ [hw_vr b (some x0), .int l1]) (hw_QI D b τ r) 0 0 (fun q => b ≤ q)) {x0 : Nat} {t0 : Int32} {σ : hw_S} {H : Heap} {locs : List Loc} (hm : m4_isPartF_b63 kP x0 t0 σ = some (r, τ)) (hR : hw_R D b σ H) (hS : va_S (fun q => b ≤ q) s.heap H locs) {ls : Array Slot} (hl : hw_L ls 2 255 [(0, hw_vr b (some x0))]) : W p l e (rm4_isPartF RF RL) s m args below meth c H locs 0 0 (MQ below (hw_QI D b τ r) args s 0 0 (fun q => b ≤ q)) (F0 m 63 ls [.int t0]) := by
  obtain ⟨hx, hb, hml, hr, hown, hts, hlk, hE, hnm⟩ := id C0
  have hown : s.vm.findClass RX4 = some m.cls := hown
  have hK := hE.1
  unfold m4_isPartF_b63 at hm
  obtain ⟨_, z63, hm⟩ := hw_bs hm
  exact hw_rWZ hx hb hr hlk hR hS z63 hm dX4_isPart_63
def m4_isPartF_b62 (kP : Nat → Int32 → hw_S → Option (Int32 × hw_S)) (x0 : Nat) (σ : hw_S) : Option (Int32 × hw_S) :=
  m4_isPartF_b63 kP x0 (0 : Int32) σ
set_option maxRecDepth 100000 in
theorem w4_isPartF_b62 {p : Program} {l : Launch} {e : Env} {s : State} {m : MethodId} {args : Array Value} {below : List Frame} {meth : Method} {c : Code} {D : hw_D} {b : Nat} {RF RL : Nat} {kP : Nat → Int32 → hw_S → Option (Int32 × hw_S)} {r : Int32} {τ : hw_S} (C0 : hw_C p s m args meth c D yX4_isPart cX4_isPart 2 (some .boolean)) (hP : ∀ {x0 : Nat} {l1 : Int32} {σ : hw_S} {r : Int32} {τ : hw_S}, kP x0 l1 σ = some (r, τ) → Met l yX4_isPart (Cond.code yX4_isPart cX4_isPart 2 (some .boolean) :: wsL_law) (hw_rk RF RL) (hw_P1 D b σ [hw_vr b (some x0), .int l1]) (hw_QI D b τ r) 0 0 (fun q => b ≤ q)) {x0 : Nat} {σ : hw_S} {H : Heap} {locs : List Loc} (hm : m4_isPartF_b62 kP x0 σ = some (r, τ)) (hR : hw_R D b σ H) (hS : va_S (fun q => b ≤ q) s.heap H locs) {ls : Array Slot} (hl : hw_L ls 2 255 [(0, hw_vr b (some x0))]) : W p l e (rm4_isPartF RF RL) s m args below meth c H locs 0 0 (MQ below (hw_QI D b τ r) args s 0 0 (fun q => b ≤ q)) (F0 m 62 ls []) := by
  obtain ⟨hx, hb, hml, hr, hown, hts, hlk, hE, hnm⟩ := id C0
  have hown : s.vm.findClass RX4 = some m.cls := hown
  have hK := hE.1
  unfold m4_isPartF_b62 at hm
  refine lv_iconst (v := 0) hx hb dX4_isPart_62 (by decide) ?_
  exact w4_isPartF_b63 C0 hP hm hR hS (hl.sub [0] rfl)
def m4_isPartF_b23 (kP : Nat → Int32 → hw_S → Option (Int32 × hw_S)) (x0 : Nat) (l1 : Int32) (σ : hw_S) : Option (Int32 × hw_S) :=
  (if l1 < (5 : Int32) then
  (hw_rv (hw_q 4) (some x0) σ).bind fun a33 =>
  hw_b2 (m4_comes x0 (40 : Int32) σ) fun v33 σ33 =>
  (if v33 = 0 then
  (hw_gI (hw_q 4) 2 (some x0) σ33).bind fun v66 =>
  (hw_pI (hw_q 4) 2 (some x0) (v66 + (1 : Int32)) σ33).bind fun σ71 =>
  (hw_rv (hw_q 4) (some x0) σ71).bind fun a78 =>
  hw_b2 (kP x0 (l1 + (1 : Int32)) σ71) fun v78 σ78 =>
  (if v78 = 0 then
  (hw_tf (0 : Int32)).bind fun _ =>
  some ((0 : Int32), σ78)
  else
  (hw_rv (hw_q 4) (some x0) σ78).bind fun a88 =>
  (m4_add x0 (1 : Int32) σ78).bind fun σ88 =>
  (hw_tf (1 : Int32)).bind fun _ =>
  some ((1 : Int32), σ88))
  else
  (hw_rv (hw_q 4) (some x0) σ33).bind fun a43 =>
  hw_b2 (m4_isAny kP x0 (l1 + (1 : Int32)) σ33) fun v43 σ43 =>
  (if v43 = 0 then
  m4_isPartF_b62 kP x0 σ43
  else
  (hw_rv (hw_q 4) (some x0) σ43).bind fun a52 =>
  hw_b2 (m4_comes x0 (41 : Int32) σ43) fun v52 σ52 =>
  (if v52 = 0 then
  m4_isPartF_b62 kP x0 σ52
  else
  m4_isPartF_b63 kP x0 (1 : Int32) σ52)))
  else
  (hw_tf (0 : Int32)).bind fun _ =>
  some ((0 : Int32), σ))
set_option maxRecDepth 100000 in
theorem w4_isPartF_b23 {p : Program} {l : Launch} {e : Env} {s : State} {m : MethodId} {args : Array Value} {below : List Frame} {meth : Method} {c : Code} {D : hw_D} {b : Nat} {RF RL : Nat} {kP : Nat → Int32 → hw_S → Option (Int32 × hw_S)} {r : Int32} {τ : hw_S} (C0 : hw_C p s m args meth c D yX4_isPart cX4_isPart 2 (some .boolean)) (hP : ∀ {x0 : Nat} {l1 : Int32} {σ : hw_S} {r : Int32} {τ : hw_S}, kP x0 l1 σ = some (r, τ) → Met l yX4_isPart (Cond.code yX4_isPart cX4_isPart 2 (some .boolean) :: wsL_law) (hw_rk RF RL) (hw_P1 D b σ [hw_vr b (some x0), .int l1]) (hw_QI D b τ r) 0 0 (fun q => b ≤ q)) {x0 : Nat} {l1 : Int32} {σ : hw_S} {H : Heap} {locs : List Loc} (hm : m4_isPartF_b23 kP x0 l1 σ = some (r, τ)) (hR : hw_R D b σ H) (hS : va_S (fun q => b ≤ q) s.heap H locs) {ls : Array Slot} (hl : hw_L ls 2 255 [(0, hw_vr b (some x0)), (1, .int l1)]) : W p l e (rm4_isPartF RF RL) s m args below meth c H locs 0 0 (MQ below (hw_QI D b τ r) args s 0 0 (fun q => b ≤ q)) (F0 m 23 ls []) := by
  obtain ⟨hx, hb, hml, hr, hown, hts, hlk, hE, hnm⟩ := id C0
  have hown : s.vm.findClass RX4 = some m.cls := hown
  have hK := hE.1
  unfold m4_isPartF_b23 at hm
  refine lv_iload_n hx hb dX4_isPart_23 rfl (hl.at 1 rfl) ?_
  refine lv_iconst (v := 5) hx hb dX4_isPart_24 (by decide) ?_
  refine lv_icmp_lt (tgt := 30) hx hb dX4_isPart_25 (by decide) (fun c25 => ?_) (fun c25 => ?_)
  · have hm := hw_ip hm c25
    refine hw_aload_n hx hb dX4_isPart_30 rfl (hl.at 0 rfl) ?_
    refine lv_bipush (v := 40) hx hb dX4_isPart_31 (by decide) ?_
    obtain ⟨a33, g33, hm⟩ := hw_bs hm
    obtain ⟨rfl, ht33⟩ := hw_rv_th g33
    obtain ⟨v33, σ33, e33, hm⟩ := hw_bs2 hm
    refine hw_cWI (va_runV (As := [.int (40 : Int32)]) (rest := []) ⟨hx, hb, hml, hown, hts⟩ (c4_comes l D b e33) (cwV 1 hts (hw_gV hw_m223 hw_m224 hw_m225 hw_m21 hw_m226) rfl rfl rfl (by decide +kernel) ⟨(by first | (dsimp only [hw_rk, rm4_add, rm4_ahead, rm4_comes, rm4_isAny, rm4_isPartF, rm4_isTest]; omega) | dsimp only [hw_rk, rm4_add, rm4_ahead, rm4_comes, rm4_isAny, rm4_isPartF, rm4_isTest]), (by first | (dsimp only [hw_rk, rm4_add, rm4_ahead, rm4_comes, rm4_isAny, rm4_isPartF, rm4_isTest]; omega) | dsimp only [hw_rk, rm4_add, rm4_ahead, rm4_comes, rm4_isAny, rm4_isPartF, rm4_isTest])⟩) (hw_preV (ci := 4) hE hR rfl (by decide) (hw_q_of ht33)) rfl rfl hl.sz rfl (lv_room (Nat.le_of_ble_eq_true rfl)) dX4_isPart_33 ⟨(Nat.le_of_ble_eq_true rfl), (Nat.le_of_ble_eq_true rfl)⟩) hS (fun _ _ hR hS => ?_)
    refine lv_if_eq (tgt := 64) hx hb dX4_isPart_36 (by decide) (fun c36 => ?_) (fun c36 => ?_)
    · have hm := hw_ip hm c36
      refine hw_aload_n hx hb dX4_isPart_64 rfl (hl.at 0 rfl) ?_
      refine lv_dup hx hb dX4_isPart_65 (hw_vr_cat _ _) ?_
      obtain ⟨v66, e66, hm⟩ := hw_bs hm
      refine hw_getI hx hb hw_cf4 hts hown hK hR e66 (by decide) rfl (hts _ hw_m61) (fun _ h9 => h9) dX4_isPart_66 ?_
      refine lv_iconst (v := 1) hx hb dX4_isPart_69 (by decide) ?_
      refine lv_iadd hx hb dX4_isPart_70 ?_
      obtain ⟨σ71, e71, hm⟩ := hw_bs hm
      refine hw_putI hx hb hw_cf4 hts hown hK hR hS e71 (by decide) rfl rfl (hts _ hw_m61) (fun _ h9 => h9) (Or.inl rfl) dX4_isPart_71 (fun _ _ hR hS => ?_)
      refine hw_aload_n hx hb dX4_isPart_74 rfl (hl.at 0 rfl) ?_
      refine lv_iload_n hx hb dX4_isPart_75 rfl (hl.at 1 rfl) ?_
      refine lv_iconst (v := 1) hx hb dX4_isPart_76 (by decide) ?_
      refine lv_iadd hx hb dX4_isPart_77 ?_
      obtain ⟨a78, g78, hm⟩ := hw_bs hm
      obtain ⟨rfl, ht78⟩ := hw_rv_th g78
      obtain ⟨v78, σ78, e78, hm⟩ := hw_bs2 hm
      refine hw_cWI (va_runV (As := [.int (l1 + (1 : Int32))]) (rest := []) ⟨hx, hb, hml, hown, hts⟩ (hP e78) (cwV 1 hts (hw_gV hw_m247 hw_m248 hw_m249 hw_m21 hw_m250) rfl rfl rfl (by decide +kernel) ⟨(by first | (dsimp only [hw_rk, rm4_add, rm4_ahead, rm4_comes, rm4_isAny, rm4_isPartF, rm4_isTest]; omega) | dsimp only [hw_rk, rm4_add, rm4_ahead, rm4_comes, rm4_isAny, rm4_isPartF, rm4_isTest]), (by first | (dsimp only [hw_rk, rm4_add, rm4_ahead, rm4_comes, rm4_isAny, rm4_isPartF, rm4_isTest]; omega) | dsimp only [hw_rk, rm4_add, rm4_ahead, rm4_comes, rm4_isAny, rm4_isPartF, rm4_isTest])⟩) (hw_preV (ci := 4) hE hR rfl (by decide) (hw_q_of ht78)) rfl rfl hl.sz rfl (lv_room (Nat.le_of_ble_eq_true rfl)) dX4_isPart_78 ⟨(Nat.le_of_ble_eq_true rfl), (Nat.le_of_ble_eq_true rfl)⟩) hS (fun _ _ hR hS => ?_)
      refine lv_if_ne (tgt := 86) hx hb dX4_isPart_81 (by decide) (fun c81 => ?_) (fun c81 => ?_)
      · have hm := hw_in hm c81
        refine hw_aload_n hx hb dX4_isPart_86 rfl (hl.at 0 rfl) ?_
        refine lv_iconst (v := 1) hx hb dX4_isPart_87 (by decide) ?_
        obtain ⟨a88, g88, hm⟩ := hw_bs hm
        obtain ⟨rfl, ht88⟩ := hw_rv_th g88
        obtain ⟨σ88, e88, hm⟩ := hw_bs hm
        refine hw_cWV (va_runV (As := [.int (1 : Int32)]) (rest := []) ⟨hx, hb, hml, hown, hts⟩ (c4_add l D b e88) (cwV 1 hts (hw_gV hw_m242 hw_m243 hw_m244 hw_m21 hw_m245) rfl rfl rfl (by decide +kernel) ⟨(by first | (dsimp only [hw_rk, rm4_add, rm4_ahead, rm4_comes, rm4_isAny, rm4_isPartF, rm4_isTest]; omega) | dsimp only [hw_rk, rm4_add, rm4_ahead, rm4_comes, rm4_isAny, rm4_isPartF, rm4_isTest]), (by first | (dsimp only [hw_rk, rm4_add, rm4_ahead, rm4_comes, rm4_isAny, rm4_isPartF, rm4_isTest]; omega) | dsimp only [hw_rk, rm4_add, rm4_ahead, rm4_comes, rm4_isAny, rm4_isPartF, rm4_isTest])⟩) (hw_preV (ci := 4) hE hR rfl (by decide) (hw_q_of ht88)) rfl rfl hl.sz rfl (lv_room (Nat.le_of_ble_eq_true rfl)) dX4_isPart_88 ⟨(Nat.le_of_ble_eq_true rfl), (Nat.le_of_ble_eq_true rfl)⟩) hS (fun _ _ hR hS => ?_)
        refine lv_iconst (v := 1) hx hb dX4_isPart_91 (by decide) ?_
        obtain ⟨_, z92, hm⟩ := hw_bs hm
        exact hw_rWZ hx hb hr hlk hR hS z92 hm dX4_isPart_92
      · have hm := hw_ip hm c81
        refine lv_iconst (v := 0) hx hb dX4_isPart_84 (by decide) ?_
        obtain ⟨_, z85, hm⟩ := hw_bs hm
        exact hw_rWZ hx hb hr hlk hR hS z85 hm dX4_isPart_85
    · have hm := hw_in hm c36
      refine hw_aload_n hx hb dX4_isPart_39 rfl (hl.at 0 rfl) ?_
      refine lv_iload_n hx hb dX4_isPart_40 rfl (hl.at 1 rfl) ?_
      refine lv_iconst (v := 1) hx hb dX4_isPart_41 (by decide) ?_
      refine lv_iadd hx hb dX4_isPart_42 ?_
      obtain ⟨a43, g43, hm⟩ := hw_bs hm
      obtain ⟨rfl, ht43⟩ := hw_rv_th g43
      obtain ⟨v43, σ43, e43, hm⟩ := hw_bs2 hm
      refine hw_cWI (va_runV (As := [.int (l1 + (1 : Int32))]) (rest := []) ⟨hx, hb, hml, hown, hts⟩ (c4_isAny l D b hP e43) (cwV 1 hts (hw_gV hw_m235 hw_m236 hw_m237 hw_m21 hw_m238) rfl rfl rfl (by decide +kernel) ⟨(by first | (dsimp only [hw_rk, rm4_add, rm4_ahead, rm4_comes, rm4_isAny, rm4_isPartF, rm4_isTest]; omega) | dsimp only [hw_rk, rm4_add, rm4_ahead, rm4_comes, rm4_isAny, rm4_isPartF, rm4_isTest]), (by first | (dsimp only [hw_rk, rm4_add, rm4_ahead, rm4_comes, rm4_isAny, rm4_isPartF, rm4_isTest]; omega) | dsimp only [hw_rk, rm4_add, rm4_ahead, rm4_comes, rm4_isAny, rm4_isPartF, rm4_isTest])⟩) (hw_preV (ci := 4) hE hR rfl (by decide) (hw_q_of ht43)) rfl rfl hl.sz rfl (lv_room (Nat.le_of_ble_eq_true rfl)) dX4_isPart_43 ⟨(Nat.le_of_ble_eq_true rfl), (Nat.le_of_ble_eq_true rfl)⟩) hS (fun _ _ hR hS => ?_)
      refine lv_if_eq (tgt := 62) hx hb dX4_isPart_46 (by decide) (fun c46 => ?_) (fun c46 => ?_)
      · have hm := hw_ip hm c46
        exact w4_isPartF_b62 C0 hP hm hR hS (hl.sub [0] rfl)
      · have hm := hw_in hm c46
        refine hw_aload_n hx hb dX4_isPart_49 rfl (hl.at 0 rfl) ?_
        refine lv_bipush (v := 41) hx hb dX4_isPart_50 (by decide) ?_
        obtain ⟨a52, g52, hm⟩ := hw_bs hm
        obtain ⟨rfl, ht52⟩ := hw_rv_th g52
        obtain ⟨v52, σ52, e52, hm⟩ := hw_bs2 hm
        refine hw_cWI (va_runV (As := [.int (41 : Int32)]) (rest := []) ⟨hx, hb, hml, hown, hts⟩ (c4_comes l D b e52) (cwV 1 hts (hw_gV hw_m223 hw_m224 hw_m225 hw_m21 hw_m226) rfl rfl rfl (by decide +kernel) ⟨(by first | (dsimp only [hw_rk, rm4_add, rm4_ahead, rm4_comes, rm4_isAny, rm4_isPartF, rm4_isTest]; omega) | dsimp only [hw_rk, rm4_add, rm4_ahead, rm4_comes, rm4_isAny, rm4_isPartF, rm4_isTest]), (by first | (dsimp only [hw_rk, rm4_add, rm4_ahead, rm4_comes, rm4_isAny, rm4_isPartF, rm4_isTest]; omega) | dsimp only [hw_rk, rm4_add, rm4_ahead, rm4_comes, rm4_isAny, rm4_isPartF, rm4_isTest])⟩) (hw_preV (ci := 4) hE hR rfl (by decide) (hw_q_of ht52)) rfl rfl hl.sz rfl (lv_room (Nat.le_of_ble_eq_true rfl)) dX4_isPart_52 ⟨(Nat.le_of_ble_eq_true rfl), (Nat.le_of_ble_eq_true rfl)⟩) hS (fun _ _ hR hS => ?_)
        refine lv_if_eq (tgt := 62) hx hb dX4_isPart_55 (by decide) (fun c55 => ?_) (fun c55 => ?_)
        · have hm := hw_ip hm c55
          exact w4_isPartF_b62 C0 hP hm hR hS (hl.sub [0] rfl)
        · have hm := hw_in hm c55
          refine lv_iconst (v := 1) hx hb dX4_isPart_58 (by decide) ?_
          refine lv_goto (tgt := 63) hx hb dX4_isPart_59 (by decide) ?_
          exact w4_isPartF_b63 C0 hP hm hR hS (hl.sub [0] rfl)
  · have hm := hw_in hm c25
    refine lv_iconst (v := 0) hx hb dX4_isPart_28 (by decide) ?_
    obtain ⟨_, z29, hm⟩ := hw_bs hm
    exact hw_rWZ hx hb hr hlk hR hS z29 hm dX4_isPart_29
def m4_isPartF (kP : Nat → Int32 → hw_S → Option (Int32 × hw_S)) (x0 : Nat) (l1 : Int32) (σ : hw_S) : Option (Int32 × hw_S) :=
  (hw_rv (hw_q 4) (some x0) σ).bind fun a1 =>
  (m4_ahead x0 σ).bind fun v1 =>
  (if v1 = (33 : Int32) then
  m4_isPartF_b23 kP x0 l1 σ
  else
  (hw_rv (hw_q 4) (some x0) σ).bind fun a10 =>
  (m4_ahead x0 σ).bind fun v10 =>
  (if v10 = (40 : Int32) then
  m4_isPartF_b23 kP x0 l1 σ
  else
  (hw_rv (hw_q 4) (some x0) σ).bind fun a19 =>
  hw_b2 (m4_isTest x0 σ) fun v19 σ19 =>
  (hw_tf v19).bind fun _ =>
  some (v19, σ19)))
set_option maxRecDepth 100000 in
theorem w4_isPartF_s {p : Program} {l : Launch} {e : Env} {s : State} {m : MethodId} {args : Array Value} {below : List Frame} {meth : Method} {c : Code} {D : hw_D} {b : Nat} {RF RL : Nat} {kP : Nat → Int32 → hw_S → Option (Int32 × hw_S)} {x0 : Nat} {l1 : Int32} {σ : hw_S} {r : Int32} {τ : hw_S} {H : Heap} {locs : List Loc} (hm : m4_isPartF kP x0 l1 σ = some (r, τ)) (C0 : hw_C p s m args meth c D yX4_isPart cX4_isPart 2 (some .boolean)) (hP : ∀ {x0 : Nat} {l1 : Int32} {σ : hw_S} {r : Int32} {τ : hw_S}, kP x0 l1 σ = some (r, τ) → Met l yX4_isPart (Cond.code yX4_isPart cX4_isPart 2 (some .boolean) :: wsL_law) (hw_rk RF RL) (hw_P1 D b σ [hw_vr b (some x0), .int l1]) (hw_QI D b τ r) 0 0 (fun q => b ≤ q)) (hR : hw_R D b σ H) (hS : va_S (fun q => b ≤ q) s.heap H locs) {ls : Array Slot} (hl : hw_L ls 2 255 [(0, hw_vr b (some x0)), (1, .int l1)]) : W p l e (rm4_isPartF RF RL) s m args below meth c H locs 0 0 (MQ below (hw_QI D b τ r) args s 0 0 (fun q => b ≤ q)) (F0 m 0 ls []) := by
  obtain ⟨hx, hb, hml, hr, hown, hts, hlk, hE, hnm⟩ := id C0
  have hown : s.vm.findClass RX4 = some m.cls := hown
  have hK := hE.1
  unfold m4_isPartF at hm
  refine hw_aload_n hx hb dX4_isPart_0 rfl (hl.at 0 rfl) ?_
  obtain ⟨a1, g1, hm⟩ := hw_bs hm
  obtain ⟨rfl, ht1⟩ := hw_rv_th g1
  obtain ⟨v1, e1, hm⟩ := hw_bs hm
  refine hw_cRI (va_runV (As := []) (rest := []) ⟨hx, hb, hml, hown, hts⟩ (c4_ahead l D b e1) (cwV 0 hts (hw_gV hw_m163 hw_m164 hw_m165 hw_m21 hw_m166) rfl rfl rfl (by decide +kernel) ⟨(by first | (dsimp only [hw_rk, rm4_add, rm4_ahead, rm4_comes, rm4_isAny, rm4_isPartF, rm4_isTest]; omega) | dsimp only [hw_rk, rm4_add, rm4_ahead, rm4_comes, rm4_isAny, rm4_isPartF, rm4_isTest]), (by first | (dsimp only [hw_rk, rm4_add, rm4_ahead, rm4_comes, rm4_isAny, rm4_isPartF, rm4_isTest]; omega) | dsimp only [hw_rk, rm4_add, rm4_ahead, rm4_comes, rm4_isAny, rm4_isPartF, rm4_isTest])⟩) (hw_preV (ci := 4) hE hR rfl (by decide) (hw_q_of ht1)) rfl rfl hl.sz rfl (lv_room (Nat.le_of_ble_eq_true rfl)) dX4_isPart_1 ⟨(Nat.le_of_ble_eq_true rfl), (Nat.le_of_ble_eq_true rfl)⟩) ?_
  refine lv_bipush (v := 33) hx hb dX4_isPart_4 (by decide) ?_
  refine lv_icmp_eq (tgt := 23) hx hb dX4_isPart_6 (by decide) (fun c6 => ?_) (fun c6 => ?_)
  · have hm := hw_ip hm c6
    exact w4_isPartF_b23 C0 hP hm hR hS (hl.sub [0, 1] rfl)
  · have hm := hw_in hm c6
    refine hw_aload_n hx hb dX4_isPart_9 rfl (hl.at 0 rfl) ?_
    obtain ⟨a10, g10, hm⟩ := hw_bs hm
    obtain ⟨rfl, ht10⟩ := hw_rv_th g10
    obtain ⟨v10, e10, hm⟩ := hw_bs hm
    refine hw_cRI (va_runV (As := []) (rest := []) ⟨hx, hb, hml, hown, hts⟩ (c4_ahead l D b e10) (cwV 0 hts (hw_gV hw_m163 hw_m164 hw_m165 hw_m21 hw_m166) rfl rfl rfl (by decide +kernel) ⟨(by first | (dsimp only [hw_rk, rm4_add, rm4_ahead, rm4_comes, rm4_isAny, rm4_isPartF, rm4_isTest]; omega) | dsimp only [hw_rk, rm4_add, rm4_ahead, rm4_comes, rm4_isAny, rm4_isPartF, rm4_isTest]), (by first | (dsimp only [hw_rk, rm4_add, rm4_ahead, rm4_comes, rm4_isAny, rm4_isPartF, rm4_isTest]; omega) | dsimp only [hw_rk, rm4_add, rm4_ahead, rm4_comes, rm4_isAny, rm4_isPartF, rm4_isTest])⟩) (hw_preV (ci := 4) hE hR rfl (by decide) (hw_q_of ht10)) rfl rfl hl.sz rfl (lv_room (Nat.le_of_ble_eq_true rfl)) dX4_isPart_10 ⟨(Nat.le_of_ble_eq_true rfl), (Nat.le_of_ble_eq_true rfl)⟩) ?_
    refine lv_bipush (v := 40) hx hb dX4_isPart_13 (by decide) ?_
    refine lv_icmp_eq (tgt := 23) hx hb dX4_isPart_15 (by decide) (fun c15 => ?_) (fun c15 => ?_)
    · have hm := hw_ip hm c15
      exact w4_isPartF_b23 C0 hP hm hR hS (hl.sub [0, 1] rfl)
    · have hm := hw_in hm c15
      refine hw_aload_n hx hb dX4_isPart_18 rfl (hl.at 0 rfl) ?_
      obtain ⟨a19, g19, hm⟩ := hw_bs hm
      obtain ⟨rfl, ht19⟩ := hw_rv_th g19
      obtain ⟨v19, σ19, e19, hm⟩ := hw_bs2 hm
      refine hw_cWI (va_runV (As := []) (rest := []) ⟨hx, hb, hml, hown, hts⟩ (c4_isTest l D b e19) (cwV 0 hts (hw_gV hw_m251 hw_m252 hw_m253 hw_m21 hw_m254) rfl rfl rfl (by decide +kernel) ⟨(by first | (dsimp only [hw_rk, rm4_add, rm4_ahead, rm4_comes, rm4_isAny, rm4_isPartF, rm4_isTest]; omega) | dsimp only [hw_rk, rm4_add, rm4_ahead, rm4_comes, rm4_isAny, rm4_isPartF, rm4_isTest]), (by first | (dsimp only [hw_rk, rm4_add, rm4_ahead, rm4_comes, rm4_isAny, rm4_isPartF, rm4_isTest]; omega) | dsimp only [hw_rk, rm4_add, rm4_ahead, rm4_comes, rm4_isAny, rm4_isPartF, rm4_isTest])⟩) (hw_preV (ci := 4) hE hR rfl (by decide) (hw_q_of ht19)) rfl rfl hl.sz rfl (lv_room (Nat.le_of_ble_eq_true rfl)) dX4_isPart_19 ⟨(Nat.le_of_ble_eq_true rfl), (Nat.le_of_ble_eq_true rfl)⟩) hS (fun _ _ hR hS => ?_)
      obtain ⟨_, z22, hm⟩ := hw_bs hm
      exact hw_rWZ hx hb hr hlk hR hS z22 hm dX4_isPart_22
set_option maxRecDepth 100000 in
theorem c4_isPartF (l : Launch) (D : hw_D) (b : Nat) {RF RL : Nat} {kP : Nat → Int32 → hw_S → Option (Int32 × hw_S)} (hP : ∀ {x0 : Nat} {l1 : Int32} {σ : hw_S} {r : Int32} {τ : hw_S}, kP x0 l1 σ = some (r, τ) → Met l yX4_isPart (Cond.code yX4_isPart cX4_isPart 2 (some .boolean) :: wsL_law) (hw_rk RF RL) (hw_P1 D b σ [hw_vr b (some x0), .int l1]) (hw_QI D b τ r) 0 0 (fun q => b ≤ q)) {x0 : Nat} {l1 : Int32} {σ : hw_S} {r : Int32} {τ : hw_S} (hm : m4_isPartF kP x0 l1 σ = some (r, τ)) : Met l yX4_isPart (Cond.code yX4_isPart cX4_isPart 2 (some .boolean) :: wsL_law) (rm4_isPartF RF RL) (hw_P1 D b σ [hw_vr b (some x0), .int l1]) (hw_QI D b τ r) 0 0 (fun q => b ≤ q) := by
  refine hw_start1 (by decide +kernel) (by exact Nat.le_of_ble_eq_true rfl) ?_
  intro p e s m below meth c ls C0 hR hS hl
  have hl : lv_has ls 2 [(0, hw_vr b (some x0)), (1, .int l1)] := by exact hl
  exact w4_isPartF_s hm C0 hP hR hS ⟨hl, (List.forall_mem_cons.mpr ⟨(fun h => by rw [show (hw_vr b (some x0) : Value).category = 1 from (hw_vr_cat _ _)] at h; cases h), (List.forall_mem_cons.mpr ⟨(fun h => absurd (show (1 : Nat) = 2 from h) (by decide)), (fun _ h => absurd h List.not_mem_nil)⟩)⟩)⟩
def m4_isPart : Nat → Nat → Int32 → hw_S → Option (Int32 × hw_S)
  | 0, _, _, _ => none
  | n + 1, x0, l1, σ => m4_isPartF (m4_isPart n) x0 l1 σ
theorem c4_isPart (l : Launch) (D : hw_D) (b : Nat) : ∀ (n : Nat), ∀ {x0 : Nat} {l1 : Int32} {σ : hw_S} {r : Int32} {τ : hw_S}, m4_isPart n x0 l1 σ = some (r, τ) → Met l yX4_isPart (Cond.code yX4_isPart cX4_isPart 2 (some .boolean) :: wsL_law) (hw_rk (4 * n) (85 * n)) (hw_P1 D b σ [hw_vr b (some x0), .int l1]) (hw_QI D b τ r) 0 0 (fun q => b ≤ q) := by
  intro n
  induction n with
  | zero => intro _ _ _ _ _ h; cases h
  | succ n ih => intro _ _ _ _ _ h; exact c4_isPartF l D b ih h

abbrev rm4_isClause : Room := { frames := 36, cells := 0, slots := 0, locals := 765 }
def m4_isClause_b22 (x0 : Nat) (σ : hw_S) : Option (Int32 × hw_S) :=
  (hw_tf (0 : Int32)).bind fun _ =>
  some ((0 : Int32), σ)
set_option maxRecDepth 100000 in
theorem w4_isClause_b22 {p : Program} {l : Launch} {e : Env} {s : State} {m : MethodId} {args : Array Value} {below : List Frame} {meth : Method} {c : Code} {D : hw_D} {b : Nat} {g : hw_Sd} {r : Int32} {τ : hw_S} (C0 : hw_C p s m args meth c D yX4_isClause cX4_isClause 5 (some .boolean)) (hG : hw_G g b s s.heap) {x0 : Nat} {σ : hw_S} {H : Heap} {locs : List Loc} (hm : m4_isClause_b22 x0 σ = some (r, τ)) (hR : hw_R D b σ H) (hS : va_S (fun q => b ≤ q) s.heap H locs) {ls : Array Slot} (hl : hw_L ls 5 255 [(0, hw_vr b (some x0))]) : W p l e rm4_isClause s m args below meth c H locs 0 0 (MQ below (hw_QI D b τ r) args s 0 0 (fun q => b ≤ q)) (F0 m 22 ls []) := by
  obtain ⟨hx, hb, hml, hr, hown, hts, hlk, hE, hnm⟩ := id C0
  have hown : s.vm.findClass RX4 = some m.cls := hown
  have hK := hE.1
  unfold m4_isClause_b22 at hm
  refine lv_iconst (v := 0) hx hb dX4_isClause_22 (by decide) ?_
  obtain ⟨_, z23, hm⟩ := hw_bs hm
  exact hw_rWZ hx hb hr hlk hR hS z23 hm dX4_isClause_23
def m4_isClause_b139 (x0 : Nat) (σ : hw_S) : Option (Int32 × hw_S) :=
  (hw_tf (0 : Int32)).bind fun _ =>
  some ((0 : Int32), σ)
set_option maxRecDepth 100000 in
theorem w4_isClause_b139 {p : Program} {l : Launch} {e : Env} {s : State} {m : MethodId} {args : Array Value} {below : List Frame} {meth : Method} {c : Code} {D : hw_D} {b : Nat} {g : hw_Sd} {r : Int32} {τ : hw_S} (C0 : hw_C p s m args meth c D yX4_isClause cX4_isClause 5 (some .boolean)) (hG : hw_G g b s s.heap) {x0 : Nat} {σ : hw_S} {H : Heap} {locs : List Loc} (hm : m4_isClause_b139 x0 σ = some (r, τ)) (hR : hw_R D b σ H) (hS : va_S (fun q => b ≤ q) s.heap H locs) {ls : Array Slot} (hl : hw_L ls 5 255 [(0, hw_vr b (some x0))]) : W p l e rm4_isClause s m args below meth c H locs 0 0 (MQ below (hw_QI D b τ r) args s 0 0 (fun q => b ≤ q)) (F0 m 139 ls []) := by
  obtain ⟨hx, hb, hml, hr, hown, hts, hlk, hE, hnm⟩ := id C0
  have hown : s.vm.findClass RX4 = some m.cls := hown
  have hK := hE.1
  unfold m4_isClause_b139 at hm
  refine lv_iconst (v := 0) hx hb dX4_isClause_139 (by decide) ?_
  obtain ⟨_, z140, hm⟩ := hw_bs hm
  exact hw_rWZ hx hb hr hlk hR hS z140 hm dX4_isClause_140
def m4_isClause_b153 (x0 : Nat) (l4 : Int32) (t0 : Nat) (t1 : Int32) (σ : hw_S) : Option (Int32 × hw_S) :=
  (hw_rv (hw_q 4) (some t0) σ).bind fun a159 =>
  (m4_add t0 (t1 ||| (l4 <<< ((8 : Int32) &&& 31))) σ).bind fun σ159 =>
  (hw_tf (1 : Int32)).bind fun _ =>
  some ((1 : Int32), σ159)
set_option maxRecDepth 100000 in
theorem w4_isClause_b153 {p : Program} {l : Launch} {e : Env} {s : State} {m : MethodId} {args : Array Value} {below : List Frame} {meth : Method} {c : Code} {D : hw_D} {b : Nat} {g : hw_Sd} {r : Int32} {τ : hw_S} (C0 : hw_C p s m args meth c D yX4_isClause cX4_isClause 5 (some .boolean)) (hG : hw_G g b s s.heap) {x0 : Nat} {l4 : Int32} {t0 : Nat} {t1 : Int32} {σ : hw_S} {H : Heap} {locs : List Loc} (hm : m4_isClause_b153 x0 l4 t0 t1 σ = some (r, τ)) (hR : hw_R D b σ H) (hS : va_S (fun q => b ≤ q) s.heap H locs) {ls : Array Slot} (hl : hw_L ls 5 255 [(0, hw_vr b (some x0)), (4, .int l4)]) : W p l e rm4_isClause s m args below meth c H locs 0 0 (MQ below (hw_QI D b τ r) args s 0 0 (fun q => b ≤ q)) (F0 m 153 ls [.int t1, hw_vr b (some t0)]) := by
  obtain ⟨hx, hb, hml, hr, hown, hts, hlk, hE, hnm⟩ := id C0
  have hown : s.vm.findClass RX4 = some m.cls := hown
  have hK := hE.1
  unfold m4_isClause_b153 at hm
  refine lv_iload hx hb dX4_isClause_153 (hl.at 1 rfl) ?_
  refine lv_bipush (v := 8) hx hb dX4_isClause_155 (by decide) ?_
  refine lv_ishl hx hb dX4_isClause_157 ?_
  refine lv_ior hx hb dX4_isClause_158 ?_
  obtain ⟨a159, g159, hm⟩ := hw_bs hm
  obtain ⟨rfl, ht159⟩ := hw_rv_th g159
  obtain ⟨σ159, e159, hm⟩ := hw_bs hm
  refine hw_cWV (va_runV (As := [.int (t1 ||| (l4 <<< ((8 : Int32) &&& 31)))]) (rest := []) ⟨hx, hb, hml, hown, hts⟩ (c4_add l D b e159) (cwV 1 hts (hw_gV hw_m242 hw_m243 hw_m244 hw_m21 hw_m245) rfl rfl rfl (by decide +kernel) ⟨(Nat.le_of_ble_eq_true rfl), (Nat.le_of_ble_eq_true rfl)⟩) (hw_preV (ci := 4) hE hR rfl (by decide) (hw_q_of ht159)) rfl rfl hl.sz rfl (lv_room (Nat.le_of_ble_eq_true rfl)) dX4_isClause_159 ⟨(Nat.le_of_ble_eq_true rfl), (Nat.le_of_ble_eq_true rfl)⟩) hS (fun _ _ hR hS => ?_)
  refine lv_iconst (v := 1) hx hb dX4_isClause_162 (by decide) ?_
  obtain ⟨_, z163, hm⟩ := hw_bs hm
  exact hw_rWZ hx hb hr hlk hR hS z163 hm dX4_isClause_163
def m4_isClause_b51 (x0 : Nat) (l1 : Int32) (l3 : Int32) (t0 : Int32) (σ : hw_S) : Option (Int32 × hw_S) :=
  (if 0 ≤ t0 then
  (if l1 = 99 then
  (hw_pI (hw_q 4) 7 (some x0) t0 σ).bind fun σ117 =>
  (hw_tf (1 : Int32)).bind fun _ =>
  some ((1 : Int32), σ117)
  else
  (if l1 = 102 then
  (hw_gP (hw_q 4) 5 (some x0) σ).bind fun v97 =>
  (hw_sI v97 l3 t0 σ).bind fun σ103 =>
  (hw_tf (1 : Int32)).bind fun _ =>
  some ((1 : Int32), σ103)
  else
  (if l1 = 104 then
  (hw_pI (hw_q 4) 6 (some x0) t0 σ).bind fun σ109 =>
  (hw_tf (1 : Int32)).bind fun _ =>
  some ((1 : Int32), σ109)
  else
  (hw_rv (hw_q 4) (some x0) σ).bind fun a125 =>
  hw_b2 (m4_comes x0 (32 : Int32) σ) fun v125 σ125 =>
  (if v125 = 0 then
  m4_isClause_b139 x0 σ125
  else
  (hw_rv (hw_q 4) (some x0) σ125).bind fun a133 =>
  hw_b2 (m4_isAny (m4_isPart 8) x0 (0 : Int32) σ125) fun v133 σ133 =>
  (if v133 = 0 then
  m4_isClause_b139 x0 σ133
  else
  (if l1 = (119 : Int32) then
  m4_isClause_b153 x0 t0 x0 (4 : Int32) σ133
  else
  m4_isClause_b153 x0 t0 x0 (5 : Int32) σ133))))))
  else
  (hw_tf (0 : Int32)).bind fun _ =>
  some ((0 : Int32), σ))
set_option maxRecDepth 100000 in
theorem w4_isClause_b51 {p : Program} {l : Launch} {e : Env} {s : State} {m : MethodId} {args : Array Value} {below : List Frame} {meth : Method} {c : Code} {D : hw_D} {b : Nat} {g : hw_Sd} {r : Int32} {τ : hw_S} (C0 : hw_C p s m args meth c D yX4_isClause cX4_isClause 5 (some .boolean)) (hG : hw_G g b s s.heap) {x0 : Nat} {l1 : Int32} {l3 : Int32} {t0 : Int32} {σ : hw_S} {H : Heap} {locs : List Loc} (hm : m4_isClause_b51 x0 l1 l3 t0 σ = some (r, τ)) (hR : hw_R D b σ H) (hS : va_S (fun q => b ≤ q) s.heap H locs) {ls : Array Slot} (hl : hw_L ls 5 255 [(0, hw_vr b (some x0)), (1, .int l1), (3, .int l3)]) : W p l e rm4_isClause s m args below meth c H locs 0 0 (MQ below (hw_QI D b τ r) args s 0 0 (fun q => b ≤ q)) (F0 m 51 ls [.int t0]) := by
  obtain ⟨hx, hb, hml, hr, hown, hts, hlk, hE, hnm⟩ := id C0
  have hown : s.vm.findClass RX4 = some m.cls := hown
  have hK := hE.1
  unfold m4_isClause_b51 at hm
  refine hw_istore (lv' := [(4, .int t0), (0, hw_vr b (some x0)), (1, .int l1), (3, .int l3)]) hx hb dX4_isClause_51 hl (by decide) (by decide) rfl (fun ls hl => ?_)
  refine lv_iload hx hb dX4_isClause_53 (hl.at 0 rfl) ?_
  refine lv_if_ge (tgt := 60) hx hb dX4_isClause_55 (by decide) (fun c55 => ?_) (fun c55 => ?_)
  · have hm := hw_ip hm c55
    refine lv_iload_n hx hb dX4_isClause_60 rfl (hl.at 2 rfl) ?_
    refine hw_case l1 (99) (fun c61_0 => ?_) (fun c61_0 => ?_)
    · have hm := hw_ip hm c61_0
      refine lv_lookup (off := 53) (tgt := 114) hx hb dX4_isClause_61 (by decide) (by rw [c61_0]; decide) (by decide) ?_
      refine hw_aload_n hx hb dX4_isClause_114 rfl (hl.at 1 rfl) ?_
      refine lv_iload hx hb dX4_isClause_115 (hl.at 0 rfl) ?_
      obtain ⟨σ117, e117, hm⟩ := hw_bs hm
      refine hw_putI hx hb hw_cf4 hts hown hK hR hS e117 (by decide) rfl rfl (hts _ hw_m66) (fun _ h9 => h9) (Or.inl rfl) dX4_isClause_117 (fun _ _ hR hS => ?_)
      refine lv_iconst (v := 1) hx hb dX4_isClause_120 (by decide) ?_
      obtain ⟨_, z121, hm⟩ := hw_bs hm
      exact hw_rWZ hx hb hr hlk hR hS z121 hm dX4_isClause_121
    · have hm := hw_in hm c61_0
      refine hw_case l1 (102) (fun c61_1 => ?_) (fun c61_1 => ?_)
      · have hm := hw_ip hm c61_1
        refine lv_lookup (off := 35) (tgt := 96) hx hb dX4_isClause_61 (by decide) (by rw [c61_1]; decide) (by decide) ?_
        refine hw_aload_n hx hb dX4_isClause_96 rfl (hl.at 1 rfl) ?_
        obtain ⟨v97, e97, hm⟩ := hw_bs hm
        refine hw_getP hx hb hw_cf4 hts hown hK hR e97 (by decide) rfl (hts _ hw_m64) (fun _ h9 => h9) dX4_isClause_97 ?_
        refine lv_iload_n hx hb dX4_isClause_100 rfl (hl.at 3 rfl) ?_
        refine lv_iload hx hb dX4_isClause_101 (hl.at 0 rfl) ?_
        obtain ⟨σ103, e103, hm⟩ := hw_bs hm
        refine hw_iast hx hb hK hR hS e103 dX4_isClause_103 (fun _ _ hR hS => ?_)
        refine lv_iconst (v := 1) hx hb dX4_isClause_104 (by decide) ?_
        obtain ⟨_, z105, hm⟩ := hw_bs hm
        exact hw_rWZ hx hb hr hlk hR hS z105 hm dX4_isClause_105
      · have hm := hw_in hm c61_1
        refine hw_case l1 (104) (fun c61_2 => ?_) (fun c61_2 => ?_)
        · have hm := hw_ip hm c61_2
          refine lv_lookup (off := 45) (tgt := 106) hx hb dX4_isClause_61 (by decide) (by rw [c61_2]; decide) (by decide) ?_
          refine hw_aload_n hx hb dX4_isClause_106 rfl (hl.at 1 rfl) ?_
          refine lv_iload hx hb dX4_isClause_107 (hl.at 0 rfl) ?_
          obtain ⟨σ109, e109, hm⟩ := hw_bs hm
          refine hw_putI hx hb hw_cf4 hts hown hK hR hS e109 (by decide) rfl rfl (hts _ hw_m65) (fun _ h9 => h9) (Or.inl rfl) dX4_isClause_109 (fun _ _ hR hS => ?_)
          refine lv_iconst (v := 1) hx hb dX4_isClause_112 (by decide) ?_
          obtain ⟨_, z113, hm⟩ := hw_bs hm
          exact hw_rWZ hx hb hr hlk hR hS z113 hm dX4_isClause_113
        · have hm := hw_in hm c61_2
          refine lv_lookup (off := 61) (tgt := 122) hx hb dX4_isClause_61 (by decide) (by show Op.lookupswitch.offset [(99, 53), (102, 35), (104, 45)] _ _ = _; rw [lv_osw c61_0 (a := 99) rfl, lv_osw c61_1 (a := 102) rfl, lv_osw c61_2 (a := 104) rfl]; rfl) (by decide) ?_
          refine hw_aload_n hx hb dX4_isClause_122 rfl (hl.at 1 rfl) ?_
          refine lv_bipush (v := 32) hx hb dX4_isClause_123 (by decide) ?_
          obtain ⟨a125, g125, hm⟩ := hw_bs hm
          obtain ⟨rfl, ht125⟩ := hw_rv_th g125
          obtain ⟨v125, σ125, e125, hm⟩ := hw_bs2 hm
          refine hw_cWI (va_runV (As := [.int (32 : Int32)]) (rest := []) ⟨hx, hb, hml, hown, hts⟩ (c4_comes l D b e125) (cwV 1 hts (hw_gV hw_m223 hw_m224 hw_m225 hw_m21 hw_m226) rfl rfl rfl (by decide +kernel) ⟨(Nat.le_of_ble_eq_true rfl), (Nat.le_of_ble_eq_true rfl)⟩) (hw_preV (ci := 4) hE hR rfl (by decide) (hw_q_of ht125)) rfl rfl hl.sz rfl (lv_room (Nat.le_of_ble_eq_true rfl)) dX4_isClause_125 ⟨(Nat.le_of_ble_eq_true rfl), (Nat.le_of_ble_eq_true rfl)⟩) hS (fun _ _ hR hS => ?_)
          refine lv_if_eq (tgt := 139) hx hb dX4_isClause_128 (by decide) (fun c128 => ?_) (fun c128 => ?_)
          · have hm := hw_ip hm c128
            exact w4_isClause_b139 C0 hG hm hR hS (hl.sub [1] rfl)
          · have hm := hw_in hm c128
            refine hw_aload_n hx hb dX4_isClause_131 rfl (hl.at 1 rfl) ?_
            refine lv_iconst (v := 0) hx hb dX4_isClause_132 (by decide) ?_
            obtain ⟨a133, g133, hm⟩ := hw_bs hm
            obtain ⟨rfl, ht133⟩ := hw_rv_th g133
            obtain ⟨v133, σ133, e133, hm⟩ := hw_bs2 hm
            refine hw_cWI (va_runV (As := [.int (0 : Int32)]) (rest := []) ⟨hx, hb, hml, hown, hts⟩ (c4_isAny l D b (c4_isPart l D b 8) e133) (cwV 1 hts (hw_gV hw_m235 hw_m236 hw_m237 hw_m21 hw_m238) rfl rfl rfl (by decide +kernel) ⟨(Nat.le_of_ble_eq_true rfl), (Nat.le_of_ble_eq_true rfl)⟩) (hw_preV (ci := 4) hE hR rfl (by decide) (hw_q_of ht133)) rfl rfl hl.sz rfl (lv_room (Nat.le_of_ble_eq_true rfl)) dX4_isClause_133 ⟨(Nat.le_of_ble_eq_true rfl), (Nat.le_of_ble_eq_true rfl)⟩) hS (fun _ _ hR hS => ?_)
            refine lv_if_ne (tgt := 141) hx hb dX4_isClause_136 (by decide) (fun c136 => ?_) (fun c136 => ?_)
            · have hm := hw_in hm c136
              refine hw_aload_n hx hb dX4_isClause_141 rfl (hl.at 1 rfl) ?_
              refine lv_iload_n hx hb dX4_isClause_142 rfl (hl.at 2 rfl) ?_
              refine lv_bipush (v := 119) hx hb dX4_isClause_143 (by decide) ?_
              refine lv_icmp_ne (tgt := 152) hx hb dX4_isClause_145 (by decide) (fun c145 => ?_) (fun c145 => ?_)
              · have hm := hw_in hm c145
                refine lv_iconst (v := 5) hx hb dX4_isClause_152 (by decide) ?_
                exact w4_isClause_b153 C0 hG hm hR hS (hl.sub [1, 0] rfl)
              · have hm := hw_ip hm c145
                refine lv_iconst (v := 4) hx hb dX4_isClause_148 (by decide) ?_
                refine lv_goto (tgt := 153) hx hb dX4_isClause_149 (by decide) ?_
                exact w4_isClause_b153 C0 hG hm hR hS (hl.sub [1, 0] rfl)
            · have hm := hw_ip hm c136
              exact w4_isClause_b139 C0 hG hm hR hS (hl.sub [1] rfl)
  · have hm := hw_in hm c55
    refine lv_iconst (v := 0) hx hb dX4_isClause_58 (by decide) ?_
    obtain ⟨_, z59, hm⟩ := hw_bs hm
    exact hw_rWZ hx hb hr hlk hR hS z59 hm dX4_isClause_59
def m4_isClause_b38 (x0 : Nat) (l1 : Int32) (t0 : Int32) (σ : hw_S) : Option (Int32 × hw_S) :=
  (if 0 ≤ t0 then
  (hw_rv (hw_q 4) (some x0) σ).bind fun a48 =>
  hw_b2 (m4_number x0 σ) fun v48 σ48 =>
  m4_isClause_b51 x0 l1 t0 v48 σ48
  else
  m4_isClause_b51 x0 l1 t0 ((-1) : Int32) σ)
set_option maxRecDepth 100000 in
theorem w4_isClause_b38 {p : Program} {l : Launch} {e : Env} {s : State} {m : MethodId} {args : Array Value} {below : List Frame} {meth : Method} {c : Code} {D : hw_D} {b : Nat} {g : hw_Sd} {r : Int32} {τ : hw_S} (C0 : hw_C p s m args meth c D yX4_isClause cX4_isClause 5 (some .boolean)) (hG : hw_G g b s s.heap) {x0 : Nat} {l1 : Int32} {t0 : Int32} {σ : hw_S} {H : Heap} {locs : List Loc} (hm : m4_isClause_b38 x0 l1 t0 σ = some (r, τ)) (hR : hw_R D b σ H) (hS : va_S (fun q => b ≤ q) s.heap H locs) {ls : Array Slot} (hl : hw_L ls 5 255 [(0, hw_vr b (some x0)), (1, .int l1)]) : W p l e rm4_isClause s m args below meth c H locs 0 0 (MQ below (hw_QI D b τ r) args s 0 0 (fun q => b ≤ q)) (F0 m 38 ls [.int t0]) := by
  obtain ⟨hx, hb, hml, hr, hown, hts, hlk, hE, hnm⟩ := id C0
  have hown : s.vm.findClass RX4 = some m.cls := hown
  have hK := hE.1
  unfold m4_isClause_b38 at hm
  refine hw_istore_n (lv' := [(3, .int t0), (0, hw_vr b (some x0)), (1, .int l1)]) hx hb dX4_isClause_38 rfl hl (by decide) (by decide) rfl (fun ls hl => ?_)
  refine lv_iload_n hx hb dX4_isClause_39 rfl (hl.at 0 rfl) ?_
  refine lv_if_ge (tgt := 47) hx hb dX4_isClause_40 (by decide) (fun c40 => ?_) (fun c40 => ?_)
  · have hm := hw_ip hm c40
    refine hw_aload_n hx hb dX4_isClause_47 rfl (hl.at 1 rfl) ?_
    obtain ⟨a48, g48, hm⟩ := hw_bs hm
    obtain ⟨rfl, ht48⟩ := hw_rv_th g48
    obtain ⟨v48, σ48, e48, hm⟩ := hw_bs2 hm
    refine hw_cWI (va_runV (As := []) (rest := []) ⟨hx, hb, hml, hown, hts⟩ (c4_number l D b e48) (cwV 0 hts (hw_gV hw_m231 hw_m232 hw_m233 hw_m21 hw_m234) rfl rfl rfl (by decide +kernel) ⟨(Nat.le_of_ble_eq_true rfl), (Nat.le_of_ble_eq_true rfl)⟩) (hw_preV (ci := 4) hE hR rfl (by decide) (hw_q_of ht48)) rfl rfl hl.sz rfl (lv_room (Nat.le_of_ble_eq_true rfl)) dX4_isClause_48 ⟨(Nat.le_of_ble_eq_true rfl), (Nat.le_of_ble_eq_true rfl)⟩) hS (fun _ _ hR hS => ?_)
    exact w4_isClause_b51 C0 hG hm hR hS (hl.sub [1, 2, 0] rfl)
  · have hm := hw_in hm c40
    refine lv_iconst (v := (-1)) hx hb dX4_isClause_43 (by decide) ?_
    refine lv_goto (tgt := 51) hx hb dX4_isClause_44 (by decide) ?_
    exact w4_isClause_b51 C0 hG hm hR hS (hl.sub [1, 2, 0] rfl)
def m4_isClause (x0 : Nat) (σ : hw_S) : Option (Int32 × hw_S) :=
  (hw_rv (hw_q 4) (some x0) σ).bind fun a1 =>
  (m4_ahead x0 σ).bind fun v1 =>
  (m4_wordOf v1 σ).bind fun v6 =>
  (if v6 = none then
  m4_isClause_b22 x0 σ
  else
  (hw_rv (hw_q 4) (some x0) σ).bind fun a16 =>
  hw_b2 (m4_comesWord x0 v6 σ) fun v16 σ16 =>
  (if v16 = 0 then
  m4_isClause_b22 x0 σ16
  else
  (if v1 = (102 : Int32) then
  (hw_rv (hw_q 4) (some x0) σ16).bind fun a31 =>
  hw_b2 (m4_formTold x0 σ16) fun v31 σ31 =>
  m4_isClause_b38 x0 v1 v31 σ31
  else
  m4_isClause_b38 x0 v1 (0 : Int32) σ16)))
set_option maxRecDepth 100000 in
theorem w4_isClause_s {p : Program} {l : Launch} {e : Env} {s : State} {m : MethodId} {args : Array Value} {below : List Frame} {meth : Method} {c : Code} {D : hw_D} {b : Nat} {g : hw_Sd} {x0 : Nat} {σ : hw_S} {r : Int32} {τ : hw_S} {H : Heap} {locs : List Loc} (hm : m4_isClause x0 σ = some (r, τ)) (C0 : hw_C p s m args meth c D yX4_isClause cX4_isClause 5 (some .boolean)) (hG : hw_G g b s s.heap) (hR : hw_R D b σ H) (hS : va_S (fun q => b ≤ q) s.heap H locs) {ls : Array Slot} (hl : hw_L ls 5 255 [(0, hw_vr b (some x0))]) : W p l e rm4_isClause s m args below meth c H locs 0 0 (MQ below (hw_QI D b τ r) args s 0 0 (fun q => b ≤ q)) (F0 m 0 ls []) := by
  obtain ⟨hx, hb, hml, hr, hown, hts, hlk, hE, hnm⟩ := id C0
  have hown : s.vm.findClass RX4 = some m.cls := hown
  have hK := hE.1
  unfold m4_isClause at hm
  refine hw_aload_n hx hb dX4_isClause_0 rfl (hl.at 0 rfl) ?_
  obtain ⟨a1, g1, hm⟩ := hw_bs hm
  obtain ⟨rfl, ht1⟩ := hw_rv_th g1
  obtain ⟨v1, e1, hm⟩ := hw_bs hm
  refine hw_cRI (va_runV (As := []) (rest := []) ⟨hx, hb, hml, hown, hts⟩ (c4_ahead l D b e1) (cwV 0 hts (hw_gV hw_m163 hw_m164 hw_m165 hw_m21 hw_m166) rfl rfl rfl (by decide +kernel) ⟨(Nat.le_of_ble_eq_true rfl), (Nat.le_of_ble_eq_true rfl)⟩) (hw_preV (ci := 4) hE hR rfl (by decide) (hw_q_of ht1)) rfl rfl hl.sz rfl (lv_room (Nat.le_of_ble_eq_true rfl)) dX4_isClause_1 ⟨(Nat.le_of_ble_eq_true rfl), (Nat.le_of_ble_eq_true rfl)⟩) ?_
  refine hw_istore_n (lv' := [(1, .int v1), (0, hw_vr b (some x0))]) hx hb dX4_isClause_4 rfl hl (by decide) (by decide) rfl (fun ls hl => ?_)
  refine lv_iload_n hx hb dX4_isClause_5 rfl (hl.at 0 rfl) ?_
  obtain ⟨v6, e6, hm⟩ := hw_bs hm
  refine hw_cSP (r := v6) (va_runS (As := [.int v1]) (rest := []) ⟨hx, hb, hml, hown, hts⟩ (c4_wordOf l D g b e6) (cwS 1 hts (hw_gS hw_m167 hw_m168 hw_m21 hw_m169) rfl rfl rfl (by decide +kernel) ⟨(Nat.le_of_ble_eq_true rfl), (Nat.le_of_ble_eq_true rfl)⟩) (hw_pre2 hE hR (hG.at hS)) rfl rfl hl.sz rfl (lv_room (Nat.le_of_ble_eq_true rfl)) dX4_isClause_6 ⟨(Nat.le_of_ble_eq_true rfl), (Nat.le_of_ble_eq_true rfl)⟩) ?_
  refine hw_ssto_n (lv' := [(2, hw_vs g v6), (1, .int v1), (0, hw_vr b (some x0))]) hx hb dX4_isClause_9 rfl hl (by decide) (by decide) rfl (fun ls hl => ?_)
  refine hw_sload_n hx hb dX4_isClause_10 rfl (hl.at 0 rfl) ?_
  refine hw_sifnull (tgt := 22) hx hb dX4_isClause_11 (by decide) (fun c11 => ?_) (fun c11 => ?_)
  · have hm := hw_ip hm c11
    exact w4_isClause_b22 C0 hG hm hR hS (hl.sub [2] rfl)
  · have hm := hw_in hm c11
    refine hw_aload_n hx hb dX4_isClause_14 rfl (hl.at 2 rfl) ?_
    refine hw_sload_n hx hb dX4_isClause_15 rfl (hl.at 0 rfl) ?_
    obtain ⟨a16, g16, hm⟩ := hw_bs hm
    obtain ⟨rfl, ht16⟩ := hw_rv_th g16
    obtain ⟨v16, σ16, e16, hm⟩ := hw_bs2 hm
    refine hw_cWI (va_runV (As := [hw_vs g v6]) (rest := []) ⟨hx, hb, hml, hown, hts⟩ (c4_comesWord l D g b e16) (cwV 1 hts (hw_gV hw_m170 hw_m171 hw_m172 hw_m21 hw_m173) rfl rfl rfl (by decide +kernel) ⟨(Nat.le_of_ble_eq_true rfl), (Nat.le_of_ble_eq_true rfl)⟩) (hw_preV2 (ci := 4) hE hR (hG.at hS) rfl (by decide) (hw_q_of ht16)) rfl rfl hl.sz rfl (lv_room (Nat.le_of_ble_eq_true rfl)) dX4_isClause_16 ⟨(Nat.le_of_ble_eq_true rfl), (Nat.le_of_ble_eq_true rfl)⟩) hS (fun _ _ hR hS => ?_)
    refine lv_if_ne (tgt := 24) hx hb dX4_isClause_19 (by decide) (fun c19 => ?_) (fun c19 => ?_)
    · have hm := hw_in hm c19
      refine lv_iload_n hx hb dX4_isClause_24 rfl (hl.at 1 rfl) ?_
      refine lv_bipush (v := 102) hx hb dX4_isClause_25 (by decide) ?_
      refine lv_icmp_ne (tgt := 37) hx hb dX4_isClause_27 (by decide) (fun c27 => ?_) (fun c27 => ?_)
      · have hm := hw_in hm c27
        refine lv_iconst (v := 0) hx hb dX4_isClause_37 (by decide) ?_
        exact w4_isClause_b38 C0 hG hm hR hS (hl.sub [2, 1] rfl)
      · have hm := hw_ip hm c27
        refine hw_aload_n hx hb dX4_isClause_30 rfl (hl.at 2 rfl) ?_
        obtain ⟨a31, g31, hm⟩ := hw_bs hm
        obtain ⟨rfl, ht31⟩ := hw_rv_th g31
        obtain ⟨v31, σ31, e31, hm⟩ := hw_bs2 hm
        refine hw_cWI (va_runV (As := []) (rest := []) ⟨hx, hb, hml, hown, hts⟩ (c4_formTold l D b e31) (cwV 0 hts (hw_gV hw_m227 hw_m228 hw_m229 hw_m21 hw_m230) rfl rfl rfl (by decide +kernel) ⟨(Nat.le_of_ble_eq_true rfl), (Nat.le_of_ble_eq_true rfl)⟩) (hw_preV (ci := 4) hE hR rfl (by decide) (hw_q_of ht31)) rfl rfl hl.sz rfl (lv_room (Nat.le_of_ble_eq_true rfl)) dX4_isClause_31 ⟨(Nat.le_of_ble_eq_true rfl), (Nat.le_of_ble_eq_true rfl)⟩) hS (fun _ _ hR hS => ?_)
        refine lv_goto (tgt := 38) hx hb dX4_isClause_34 (by decide) ?_
        exact w4_isClause_b38 C0 hG hm hR hS (hl.sub [2, 1] rfl)
    · have hm := hw_ip hm c19
      exact w4_isClause_b22 C0 hG hm hR hS (hl.sub [2] rfl)
set_option maxRecDepth 100000 in
theorem c4_isClause (l : Launch) (D : hw_D) (g : hw_Sd) (b : Nat) {x0 : Nat} {σ : hw_S} {r : Int32} {τ : hw_S} (hm : m4_isClause x0 σ = some (r, τ)) : Met l yX4_isClause (Cond.code yX4_isClause cX4_isClause 5 (some .boolean) :: wsL_law) rm4_isClause (hw_P2 D g b σ [hw_vr b (some x0)]) (hw_QI D b τ r) 0 0 (fun q => b ≤ q) := by
  refine hw_start2 (by decide +kernel) (by exact Nat.le_of_ble_eq_true rfl) ?_
  intro p e s m below meth c ls C0 hR hS hG hl
  have hl : lv_has ls 5 [(0, hw_vr b (some x0))] := by exact hl
  exact w4_isClause_s hm C0 hG hR hS ⟨hl, (List.forall_mem_cons.mpr ⟨(fun h => by rw [show (hw_vr b (some x0) : Value).category = 1 from (hw_vr_cat _ _)] at h; cases h), (fun _ h => absurd h List.not_mem_nil)⟩)⟩

abbrev rm4_isLaw : Room := { frames := 37, cells := 0, slots := 0, locals := 789 }
def m4_isLaw_b105 (x0 : Nat) (σ : hw_S) : Option (Int32 × hw_S) :=
  (hw_tf (0 : Int32)).bind fun _ =>
  some ((0 : Int32), σ)
set_option maxRecDepth 100000 in
theorem w4_isLaw_b105 {p : Program} {l : Launch} {e : Env} {s : State} {m : MethodId} {args : Array Value} {below : List Frame} {meth : Method} {c : Code} {D : hw_D} {b : Nat} {g : hw_Sd} {r : Int32} {τ : hw_S} (C0 : hw_C p s m args meth c D yX4_isLaw cX4_isLaw 4 (some .boolean)) (hG : hw_G g b s s.heap) {x0 : Nat} {σ : hw_S} {H : Heap} {locs : List Loc} (hm : m4_isLaw_b105 x0 σ = some (r, τ)) (hR : hw_R D b σ H) (hS : va_S (fun q => b ≤ q) s.heap H locs) {ls : Array Slot} (hl : hw_L ls 4 255 [(0, hw_vr b (some x0))]) : W p l e rm4_isLaw s m args below meth c H locs 0 0 (MQ below (hw_QI D b τ r) args s 0 0 (fun q => b ≤ q)) (F0 m 105 ls []) := by
  obtain ⟨hx, hb, hml, hr, hown, hts, hlk, hE, hnm⟩ := id C0
  have hown : s.vm.findClass RX4 = some m.cls := hown
  have hK := hE.1
  unfold m4_isLaw_b105 at hm
  refine lv_iconst (v := 0) hx hb dX4_isLaw_105 (by decide) ?_
  obtain ⟨_, z106, hm⟩ := hw_bs hm
  exact hw_rWZ hx hb hr hlk hR hS z106 hm dX4_isLaw_106
def m4_isLaw_b62 : Nat → Nat → Int32 → hw_S → Option (Int32 × hw_S)
  | 0, _, _, _ => none
  | n + 1, x0, l3, σ =>
  (if (10 : Int32) < l3 then
  (hw_tf (0 : Int32)).bind fun _ =>
  some ((0 : Int32), σ)
  else
  (hw_rv (hw_q 4) (some x0) σ).bind fun a69 =>
  hw_b2 (m4_isClause x0 σ) fun v69 σ69 =>
  (if v69 = 0 then
  (hw_tf (0 : Int32)).bind fun _ =>
  some ((0 : Int32), σ69)
  else
  (hw_gI (hw_q 4) 2 (some x0) σ69).bind fun v78 =>
  (hw_gI (hw_q 4) 1 (some x0) σ69).bind fun v82 =>
  (if v78 = v82 then
  (hw_tf (1 : Int32)).bind fun _ =>
  some ((1 : Int32), σ69)
  else
  (if l3 = (10 : Int32) then
  m4_isLaw_b105 x0 σ69
  else
  (hw_rv (hw_q 4) (some x0) σ69).bind fun a99 =>
  hw_b2 (m4_comes x0 (59 : Int32) σ69) fun v99 σ99 =>
  (if v99 = 0 then
  m4_isLaw_b105 x0 σ99
  else
  m4_isLaw_b62 n x0 (l3 + 1) σ99)))))
set_option maxRecDepth 100000 in
theorem w4_isLaw_b62 {p : Program} {l : Launch} {e : Env} {s : State} {m : MethodId} {args : Array Value} {below : List Frame} {meth : Method} {c : Code} {D : hw_D} {b : Nat} {g : hw_Sd} {r : Int32} {τ : hw_S} (C0 : hw_C p s m args meth c D yX4_isLaw cX4_isLaw 4 (some .boolean)) (hG : hw_G g b s s.heap) : ∀ (n : Nat) {x0 : Nat} {l3 : Int32} {σ : hw_S} {H : Heap} {locs : List Loc} {ls : Array Slot}, m4_isLaw_b62 n x0 l3 σ = some (r, τ) → hw_R D b σ H → va_S (fun q => b ≤ q) s.heap H locs → hw_L ls 4 255 [(0, hw_vr b (some x0)), (3, .int l3)] → W p l e rm4_isLaw s m args below meth c H locs 0 0 (MQ below (hw_QI D b τ r) args s 0 0 (fun q => b ≤ q)) (F0 m 62 ls []) := by
  obtain ⟨hx, hb, hml, hr, hown, hts, hlk, hE, hnm⟩ := id C0
  have hown : s.vm.findClass RX4 = some m.cls := hown
  have hK := hE.1
  intro n
  induction n with
  | zero => intro _ _ _ _ _ _ hm; cases hm
  | succ n ih =>
    intro x0 l3 σ H locs ls hm hR hS hl
    rw [m4_isLaw_b62] at hm
    refine lv_iload_n hx hb dX4_isLaw_62 rfl (hl.at 1 rfl) ?_
    refine lv_bipush (v := 10) hx hb dX4_isLaw_63 (by decide) ?_
    refine lv_icmp_gt (tgt := 113) hx hb dX4_isLaw_65 (by decide) (fun c65 => ?_) (fun c65 => ?_)
    · have hm := hw_ip hm c65
      refine lv_iconst (v := 0) hx hb dX4_isLaw_113 (by decide) ?_
      obtain ⟨_, z114, hm⟩ := hw_bs hm
      exact hw_rWZ hx hb hr hlk hR hS z114 hm dX4_isLaw_114
    · have hm := hw_in hm c65
      refine hw_aload_n hx hb dX4_isLaw_68 rfl (hl.at 0 rfl) ?_
      obtain ⟨a69, g69, hm⟩ := hw_bs hm
      obtain ⟨rfl, ht69⟩ := hw_rv_th g69
      obtain ⟨v69, σ69, e69, hm⟩ := hw_bs2 hm
      refine hw_cWI (va_runV (As := []) (rest := []) ⟨hx, hb, hml, hown, hts⟩ (c4_isClause l D g b e69) (cwV 0 hts (hw_gV hw_m159 hw_m160 hw_m161 hw_m21 hw_m162) rfl rfl rfl (by decide +kernel) ⟨(Nat.le_of_ble_eq_true rfl), (Nat.le_of_ble_eq_true rfl)⟩) (hw_preV2 (ci := 4) hE hR (hG.at hS) rfl (by decide) (hw_q_of ht69)) rfl rfl hl.sz rfl (lv_room (Nat.le_of_ble_eq_true rfl)) dX4_isLaw_69 ⟨(Nat.le_of_ble_eq_true rfl), (Nat.le_of_ble_eq_true rfl)⟩) hS (fun _ _ hR hS => ?_)
      refine lv_if_ne (tgt := 77) hx hb dX4_isLaw_72 (by decide) (fun c72 => ?_) (fun c72 => ?_)
      · have hm := hw_in hm c72
        refine hw_aload_n hx hb dX4_isLaw_77 rfl (hl.at 0 rfl) ?_
        obtain ⟨v78, e78, hm⟩ := hw_bs hm
        refine hw_getI hx hb hw_cf4 hts hown hK hR e78 (by decide) rfl (hts _ hw_m61) (fun _ h9 => h9) dX4_isLaw_78 ?_
        refine hw_aload_n hx hb dX4_isLaw_81 rfl (hl.at 0 rfl) ?_
        obtain ⟨v82, e82, hm⟩ := hw_bs hm
        refine hw_getI hx hb hw_cf4 hts hown hK hR e82 (by decide) rfl (hts _ hw_m60) (fun _ h9 => h9) dX4_isLaw_82 ?_
        refine lv_icmp_ne (tgt := 90) hx hb dX4_isLaw_85 (by decide) (fun c85 => ?_) (fun c85 => ?_)
        · have hm := hw_in hm c85
          refine lv_iload_n hx hb dX4_isLaw_90 rfl (hl.at 1 rfl) ?_
          refine lv_bipush (v := 10) hx hb dX4_isLaw_91 (by decide) ?_
          refine lv_icmp_eq (tgt := 105) hx hb dX4_isLaw_93 (by decide) (fun c93 => ?_) (fun c93 => ?_)
          · have hm := hw_ip hm c93
            exact w4_isLaw_b105 C0 hG hm hR hS (hl.sub [0] rfl)
          · have hm := hw_in hm c93
            refine hw_aload_n hx hb dX4_isLaw_96 rfl (hl.at 0 rfl) ?_
            refine lv_bipush (v := 59) hx hb dX4_isLaw_97 (by decide) ?_
            obtain ⟨a99, g99, hm⟩ := hw_bs hm
            obtain ⟨rfl, ht99⟩ := hw_rv_th g99
            obtain ⟨v99, σ99, e99, hm⟩ := hw_bs2 hm
            refine hw_cWI (va_runV (As := [.int (59 : Int32)]) (rest := []) ⟨hx, hb, hml, hown, hts⟩ (c4_comes l D b e99) (cwV 1 hts (hw_gV hw_m223 hw_m224 hw_m225 hw_m21 hw_m226) rfl rfl rfl (by decide +kernel) ⟨(Nat.le_of_ble_eq_true rfl), (Nat.le_of_ble_eq_true rfl)⟩) (hw_preV (ci := 4) hE hR rfl (by decide) (hw_q_of ht99)) rfl rfl hl.sz rfl (lv_room (Nat.le_of_ble_eq_true rfl)) dX4_isLaw_99 ⟨(Nat.le_of_ble_eq_true rfl), (Nat.le_of_ble_eq_true rfl)⟩) hS (fun _ _ hR hS => ?_)
            refine lv_if_ne (tgt := 107) hx hb dX4_isLaw_102 (by decide) (fun c102 => ?_) (fun c102 => ?_)
            · have hm := hw_in hm c102
              refine hw_iinc (v := (l3 + 1)) (lv' := [(3, .int (l3 + 1)), (0, hw_vr b (some x0))]) hx hb dX4_isLaw_107 hl (k := 1) rfl rfl (by decide) (by decide) rfl (fun ls hl => ?_)
              refine lv_goto (tgt := 62) hx hb dX4_isLaw_110 (by decide) ?_
              exact ih hm hR hS (hl.sub [1, 0] rfl)
            · have hm := hw_ip hm c102
              exact w4_isLaw_b105 C0 hG hm hR hS (hl.sub [0] rfl)
        · have hm := hw_ip hm c85
          refine lv_iconst (v := 1) hx hb dX4_isLaw_88 (by decide) ?_
          obtain ⟨_, z89, hm⟩ := hw_bs hm
          exact hw_rWZ hx hb hr hlk hR hS z89 hm dX4_isLaw_89
      · have hm := hw_ip hm c72
        refine lv_iconst (v := 0) hx hb dX4_isLaw_75 (by decide) ?_
        obtain ⟨_, z76, hm⟩ := hw_bs hm
        exact hw_rWZ hx hb hr hlk hR hS z76 hm dX4_isLaw_76
def m4_isLaw_b38 : Nat → Nat → Int32 → hw_S → Option (Int32 × hw_S)
  | 0, _, _, _ => none
  | n + 1, x0, l3, σ =>
  (if (4 : Int32) ≤ l3 then
  m4_isLaw_b62 hw_fu x0 (1 : Int32) σ
  else
  (hw_gP (hw_q 4) 5 (some x0) σ).bind fun v44 =>
  (hw_sI v44 l3 ((3 : Int32) * (l3 + (1 : Int32))) σ).bind fun σ53 =>
  m4_isLaw_b38 n x0 (l3 + 1) σ53)
set_option maxRecDepth 100000 in
theorem w4_isLaw_b38 {p : Program} {l : Launch} {e : Env} {s : State} {m : MethodId} {args : Array Value} {below : List Frame} {meth : Method} {c : Code} {D : hw_D} {b : Nat} {g : hw_Sd} {r : Int32} {τ : hw_S} (C0 : hw_C p s m args meth c D yX4_isLaw cX4_isLaw 4 (some .boolean)) (hG : hw_G g b s s.heap) : ∀ (n : Nat) {x0 : Nat} {l3 : Int32} {σ : hw_S} {H : Heap} {locs : List Loc} {ls : Array Slot}, m4_isLaw_b38 n x0 l3 σ = some (r, τ) → hw_R D b σ H → va_S (fun q => b ≤ q) s.heap H locs → hw_L ls 4 255 [(0, hw_vr b (some x0)), (3, .int l3)] → W p l e rm4_isLaw s m args below meth c H locs 0 0 (MQ below (hw_QI D b τ r) args s 0 0 (fun q => b ≤ q)) (F0 m 38 ls []) := by
  obtain ⟨hx, hb, hml, hr, hown, hts, hlk, hE, hnm⟩ := id C0
  have hown : s.vm.findClass RX4 = some m.cls := hown
  have hK := hE.1
  intro n
  induction n with
  | zero => intro _ _ _ _ _ _ hm; cases hm
  | succ n ih =>
    intro x0 l3 σ H locs ls hm hR hS hl
    rw [m4_isLaw_b38] at hm
    refine lv_iload_n hx hb dX4_isLaw_38 rfl (hl.at 1 rfl) ?_
    refine lv_iconst (v := 4) hx hb dX4_isLaw_39 (by decide) ?_
    refine lv_icmp_ge (tgt := 60) hx hb dX4_isLaw_40 (by decide) (fun c40 => ?_) (fun c40 => ?_)
    · have hm := hw_ip hm c40
      refine lv_iconst (v := 1) hx hb dX4_isLaw_60 (by decide) ?_
      refine hw_istore_n (lv' := [(3, .int (1 : Int32)), (0, hw_vr b (some x0))]) hx hb dX4_isLaw_61 rfl hl (by decide) (by decide) rfl (fun ls hl => ?_)
      exact w4_isLaw_b62 C0 hG hw_fu hm hR hS (hl.sub [1, 0] rfl)
    · have hm := hw_in hm c40
      refine hw_aload_n hx hb dX4_isLaw_43 rfl (hl.at 0 rfl) ?_
      obtain ⟨v44, e44, hm⟩ := hw_bs hm
      refine hw_getP hx hb hw_cf4 hts hown hK hR e44 (by decide) rfl (hts _ hw_m64) (fun _ h9 => h9) dX4_isLaw_44 ?_
      refine lv_iload_n hx hb dX4_isLaw_47 rfl (hl.at 1 rfl) ?_
      refine lv_iconst (v := 3) hx hb dX4_isLaw_48 (by decide) ?_
      refine lv_iload_n hx hb dX4_isLaw_49 rfl (hl.at 1 rfl) ?_
      refine lv_iconst (v := 1) hx hb dX4_isLaw_50 (by decide) ?_
      refine lv_iadd hx hb dX4_isLaw_51 ?_
      refine lv_imul hx hb dX4_isLaw_52 ?_
      obtain ⟨σ53, e53, hm⟩ := hw_bs hm
      refine hw_iast hx hb hK hR hS e53 dX4_isLaw_53 (fun _ _ hR hS => ?_)
      refine hw_iinc (v := (l3 + 1)) (lv' := [(3, .int (l3 + 1)), (0, hw_vr b (some x0))]) hx hb dX4_isLaw_54 hl (k := 1) rfl rfl (by decide) (by decide) rfl (fun ls hl => ?_)
      refine lv_goto (tgt := 38) hx hb dX4_isLaw_57 (by decide) ?_
      exact ih hm hR hS (hl.sub [1, 0] rfl)
def m4_isLaw (x0 : Nat) (l1 : Option Nat) (l2 : Int32) (σ : hw_S) : Option (Int32 × hw_S) :=
  (hw_pP (hw_q 4) 0 (some x0) l1 σ).bind fun σ2 =>
  (hw_aL l1 σ2).bind fun v8 =>
  (hw_pI (hw_q 4) 1 (some x0) (hw_min l2 v8) σ2).bind fun σ12 =>
  (hw_pI (hw_q 4) 2 (some x0) (0 : Int32) σ12).bind fun σ17 =>
  (hw_pI (hw_q 4) 4 (some x0) (0 : Int32) σ17).bind fun σ22 =>
  (hw_pI (hw_q 4) 6 (some x0) (20 : Int32) σ22).bind fun σ28 =>
  (hw_pI (hw_q 4) 7 (some x0) (0 : Int32) σ28).bind fun σ33 =>
  m4_isLaw_b38 hw_fu x0 (0 : Int32) σ33
set_option maxRecDepth 100000 in
theorem w4_isLaw_s {p : Program} {l : Launch} {e : Env} {s : State} {m : MethodId} {args : Array Value} {below : List Frame} {meth : Method} {c : Code} {D : hw_D} {b : Nat} {g : hw_Sd} {x0 : Nat} {l1 : Option Nat} {l2 : Int32} {σ : hw_S} {r : Int32} {τ : hw_S} {H : Heap} {locs : List Loc} (hm : m4_isLaw x0 l1 l2 σ = some (r, τ)) (C0 : hw_C p s m args meth c D yX4_isLaw cX4_isLaw 4 (some .boolean)) (hG : hw_G g b s s.heap) (hR : hw_R D b σ H) (hS : va_S (fun q => b ≤ q) s.heap H locs) {ls : Array Slot} (hl : hw_L ls 4 255 [(0, hw_vr b (some x0)), (1, hw_vr b l1), (2, .int l2)]) : W p l e rm4_isLaw s m args below meth c H locs 0 0 (MQ below (hw_QI D b τ r) args s 0 0 (fun q => b ≤ q)) (F0 m 0 ls []) := by
  obtain ⟨hx, hb, hml, hr, hown, hts, hlk, hE, hnm⟩ := id C0
  have hown : s.vm.findClass RX4 = some m.cls := hown
  have hK := hE.1
  unfold m4_isLaw at hm
  refine hw_aload_n hx hb dX4_isLaw_0 rfl (hl.at 0 rfl) ?_
  refine hw_aload_n hx hb dX4_isLaw_1 rfl (hl.at 1 rfl) ?_
  obtain ⟨σ2, e2, hm⟩ := hw_bs hm
  refine hw_putP hx hb hw_cf4 hts hown hK hR hS e2 (by decide) rfl rfl (hts _ hw_m59) (fun _ h9 => h9) (Or.inl rfl) dX4_isLaw_2 (fun _ _ hR hS => ?_)
  refine hw_aload_n hx hb dX4_isLaw_5 rfl (hl.at 0 rfl) ?_
  refine lv_iload_n hx hb dX4_isLaw_6 rfl (hl.at 2 rfl) ?_
  refine hw_aload_n hx hb dX4_isLaw_7 rfl (hl.at 1 rfl) ?_
  obtain ⟨v8, e8, hm⟩ := hw_bs hm
  refine hw_alen hx hb hK hR e8 dX4_isLaw_8 ?_
  refine hw_mmin hx hb hml hl hown (hts _ hw_m155) (hts _ hw_m156) (hts _ hw_m157) (hts _ hw_m158) (Nat.le_of_ble_eq_true rfl) ⟨hw_sm (List.forall_mem_cons.mpr ⟨(hw_vr_cat _ _), (fun _ h => absurd h List.not_mem_nil)⟩) (Nat.le_of_ble_eq_true rfl), (Nat.le_of_ble_eq_true rfl)⟩ (Nat.le_of_ble_eq_true rfl) (Nat.le_of_ble_eq_true rfl) dX4_isLaw_9 ?_
  obtain ⟨σ12, e12, hm⟩ := hw_bs hm
  refine hw_putI hx hb hw_cf4 hts hown hK hR hS e12 (by decide) rfl rfl (hts _ hw_m60) (fun _ h9 => h9) (Or.inl rfl) dX4_isLaw_12 (fun _ _ hR hS => ?_)
  refine hw_aload_n hx hb dX4_isLaw_15 rfl (hl.at 0 rfl) ?_
  refine lv_iconst (v := 0) hx hb dX4_isLaw_16 (by decide) ?_
  obtain ⟨σ17, e17, hm⟩ := hw_bs hm
  refine hw_putI hx hb hw_cf4 hts hown hK hR hS e17 (by decide) rfl rfl (hts _ hw_m61) (fun _ h9 => h9) (Or.inl rfl) dX4_isLaw_17 (fun _ _ hR hS => ?_)
  refine hw_aload_n hx hb dX4_isLaw_20 rfl (hl.at 0 rfl) ?_
  refine lv_iconst (v := 0) hx hb dX4_isLaw_21 (by decide) ?_
  obtain ⟨σ22, e22, hm⟩ := hw_bs hm
  refine hw_putI hx hb hw_cf4 hts hown hK hR hS e22 (by decide) rfl rfl (hts _ hw_m63) (fun _ h9 => h9) (Or.inl rfl) dX4_isLaw_22 (fun _ _ hR hS => ?_)
  refine hw_aload_n hx hb dX4_isLaw_25 rfl (hl.at 0 rfl) ?_
  refine lv_bipush (v := 20) hx hb dX4_isLaw_26 (by decide) ?_
  obtain ⟨σ28, e28, hm⟩ := hw_bs hm
  refine hw_putI hx hb hw_cf4 hts hown hK hR hS e28 (by decide) rfl rfl (hts _ hw_m65) (fun _ h9 => h9) (Or.inl rfl) dX4_isLaw_28 (fun _ _ hR hS => ?_)
  refine hw_aload_n hx hb dX4_isLaw_31 rfl (hl.at 0 rfl) ?_
  refine lv_iconst (v := 0) hx hb dX4_isLaw_32 (by decide) ?_
  obtain ⟨σ33, e33, hm⟩ := hw_bs hm
  refine hw_putI hx hb hw_cf4 hts hown hK hR hS e33 (by decide) rfl rfl (hts _ hw_m66) (fun _ h9 => h9) (Or.inl rfl) dX4_isLaw_33 (fun _ _ hR hS => ?_)
  refine lv_iconst (v := 0) hx hb dX4_isLaw_36 (by decide) ?_
  refine hw_istore_n (lv' := [(3, .int (0 : Int32)), (0, hw_vr b (some x0)), (1, hw_vr b l1), (2, .int l2)]) hx hb dX4_isLaw_37 rfl hl (by decide) (by decide) rfl (fun ls hl => ?_)
  exact w4_isLaw_b38 C0 hG hw_fu hm hR hS (hl.sub [1, 0] rfl)
set_option maxRecDepth 100000 in
theorem c4_isLaw (l : Launch) (D : hw_D) (g : hw_Sd) (b : Nat) {x0 : Nat} {l1 : Option Nat} {l2 : Int32} {σ : hw_S} {r : Int32} {τ : hw_S} (hm : m4_isLaw x0 l1 l2 σ = some (r, τ)) : Met l yX4_isLaw (Cond.code yX4_isLaw cX4_isLaw 4 (some .boolean) :: wsL_law) rm4_isLaw (hw_P2 D g b σ [hw_vr b (some x0), hw_vr b l1, .int l2]) (hw_QI D b τ r) 0 0 (fun q => b ≤ q) := by
  refine hw_start2 (by decide +kernel) (by cases l1 <;> exact Nat.le_of_ble_eq_true rfl) ?_
  intro p e s m below meth c ls C0 hR hS hG hl
  have hl : lv_has ls 4 [(0, hw_vr b (some x0)), (1, hw_vr b l1), (2, .int l2)] := by cases l1 <;> exact hl
  exact w4_isLaw_s hm C0 hG hR hS ⟨hl, (List.forall_mem_cons.mpr ⟨(fun h => by rw [show (hw_vr b (some x0) : Value).category = 1 from (hw_vr_cat _ _)] at h; cases h), (List.forall_mem_cons.mpr ⟨(fun h => by rw [show (hw_vr b l1 : Value).category = 1 from (hw_vr_cat _ _)] at h; cases h), (List.forall_mem_cons.mpr ⟨(fun h => absurd (show (1 : Nat) = 2 from h) (by decide)), (fun _ h => absurd h List.not_mem_nil)⟩)⟩)⟩)⟩

abbrev rm3_isTestedAt : Room := { frames := 1, cells := 0, slots := 0, locals := 22 }
def m3_isTestedAt_b61 (k2 : Nat → Int32 → Int32 → hw_S → Option Int32) (x0 : Nat) (l1 : Int32) (l2 : Int32) (σ : hw_S) : Option Int32 :=
  k2 x0 l1 (l2 + 1) σ
set_option maxRecDepth 100000 in
theorem w3_isTestedAt_b61 {p : Program} {l : Launch} {e : Env} {s : State} {m : MethodId} {args : Array Value} {below : List Frame} {meth : Method} {c : Code} {D : hw_D} {b : Nat} {k2 : Nat → Int32 → Int32 → hw_S → Option Int32} {r : Int32} (C0 : hw_C p s m args meth c D yX3_isTestedAt cX3_isTestedAt 4 (some .boolean)) (hk2 : ∀ {x0 : Nat} {l1 : Int32} {l2 : Int32} {σ : hw_S} {ls : Array Slot}, k2 x0 l1 l2 σ = some r → hw_R D b σ s.heap → hw_L ls 4 255 [(0, hw_vr b (some x0)), (1, .int l1), (2, .int l2)] → W p l e rm3_isTestedAt s m args below meth c s.heap [] 0 0 (MQ below (hw_RI r) args s 0 0 hw_nof) (F0 m 2 ls [])) {x0 : Nat} {l1 : Int32} {l2 : Int32} {σ : hw_S} (hm : m3_isTestedAt_b61 k2 x0 l1 l2 σ = some r) (hR : hw_R D b σ s.heap) {ls : Array Slot} (hl : hw_L ls 4 255 [(0, hw_vr b (some x0)), (1, .int l1), (2, .int l2)]) : W p l e rm3_isTestedAt s m args below meth c s.heap [] 0 0 (MQ below (hw_RI r) args s 0 0 hw_nof) (F0 m 61 ls []) := by
  obtain ⟨hx, hb, hml, hr, hown, hts, hlk, hE, hnm⟩ := id C0
  have hown : s.vm.findClass RX3 = some m.cls := hown
  have hK := hE.1
  unfold m3_isTestedAt_b61 at hm
  refine hw_iinc (v := (l2 + 1)) (lv' := [(2, .int (l2 + 1)), (0, hw_vr b (some x0)), (1, .int l1)]) hx hb dX3_isTestedAt_61 hl (k := 2) rfl rfl (by decide) (by decide) rfl (fun ls hl => ?_)
  refine lv_goto (tgt := 2) hx hb dX3_isTestedAt_64 (by decide) ?_
  exact hk2 hm hR (hl.sub [1, 2, 0] rfl)
def m3_isTestedAt_b2 : Nat → Nat → Int32 → Int32 → hw_S → Option Int32
  | 0, _, _, _, _ => none
  | n + 1, x0, l1, l2, σ =>
  (hw_gP hw_qL 6 (some x0) σ).bind fun v4 =>
  (hw_aL v4 σ).bind fun v7 =>
  (if v7 ≤ l2 then
  (hw_tf (0 : Int32)).bind fun _ =>
  some (0 : Int32)
  else
  (hw_gP hw_qL 6 (some x0) σ).bind fun v12 =>
  (hw_aI 0 v12 l2 σ).bind fun v16 =>
  (hw_gP hw_qL 6 (some x0) σ).bind fun v22 =>
  (hw_aI 0 v22 l2 σ).bind fun v26 =>
  (if (v26 &&& (7 : Int32)) = 0 then
  (hw_gP hw_qL 6 (some x0) σ).bind fun v34 =>
  (hw_aI 0 v34 l2 σ).bind fun v38 =>
  (if ((v38 >>> ((3 : Int32) &&& 31)) &&& (7 : Int32)) = (2 : Int32) then
  (m11_isWithin l1 (v16 >>> ((8 : Int32) &&& 31)) ((v16 >>> ((8 : Int32) &&& 31)) + (1 : Int32))).bind fun v53 =>
  (if v53 = 0 then
  m3_isTestedAt_b61 (m3_isTestedAt_b2 n) x0 l1 l2 σ
  else
  (hw_tf (1 : Int32)).bind fun _ =>
  some (1 : Int32))
  else
  m3_isTestedAt_b61 (m3_isTestedAt_b2 n) x0 l1 l2 σ)
  else
  m3_isTestedAt_b61 (m3_isTestedAt_b2 n) x0 l1 l2 σ))
set_option maxRecDepth 100000 in
theorem w3_isTestedAt_b2 {p : Program} {l : Launch} {e : Env} {s : State} {m : MethodId} {args : Array Value} {below : List Frame} {meth : Method} {c : Code} {D : hw_D} {b : Nat} {r : Int32} (C0 : hw_C p s m args meth c D yX3_isTestedAt cX3_isTestedAt 4 (some .boolean)) : ∀ (n : Nat) {x0 : Nat} {l1 : Int32} {l2 : Int32} {σ : hw_S} {ls : Array Slot}, m3_isTestedAt_b2 n x0 l1 l2 σ = some r → hw_R D b σ s.heap → hw_L ls 4 255 [(0, hw_vr b (some x0)), (1, .int l1), (2, .int l2)] → W p l e rm3_isTestedAt s m args below meth c s.heap [] 0 0 (MQ below (hw_RI r) args s 0 0 hw_nof) (F0 m 2 ls []) := by
  obtain ⟨hx, hb, hml, hr, hown, hts, hlk, hE, hnm⟩ := id C0
  have hown : s.vm.findClass RX3 = some m.cls := hown
  have hK := hE.1
  intro n
  induction n with
  | zero => intro _ _ _ _ _ hm; cases hm
  | succ n ih =>
    intro x0 l1 l2 σ ls hm hR hl
    rw [m3_isTestedAt_b2] at hm
    refine lv_iload_n hx hb dX3_isTestedAt_2 rfl (hl.at 2 rfl) ?_
    refine hw_aload_n hx hb dX3_isTestedAt_3 rfl (hl.at 0 rfl) ?_
    obtain ⟨v4, e4, hm⟩ := hw_bs hm
    refine hw_getP hx hb hw_cfL hts hown hK hR e4 (by decide) rfl (hts _ hw_m305) (fun _ h9 => h9) dX3_isTestedAt_4 ?_
    obtain ⟨v7, e7, hm⟩ := hw_bs hm
    refine hw_alen hx hb hK hR e7 dX3_isTestedAt_7 ?_
    refine lv_icmp_ge (tgt := 67) hx hb dX3_isTestedAt_8 (by decide) (fun c8 => ?_) (fun c8 => ?_)
    · have hm := hw_ip hm c8
      refine lv_iconst (v := 0) hx hb dX3_isTestedAt_67 (by decide) ?_
      obtain ⟨_, z68, hm⟩ := hw_bs hm
      exact hw_rRZ hx hb hr hlk z68 hm dX3_isTestedAt_68
    · have hm := hw_in hm c8
      refine hw_aload_n hx hb dX3_isTestedAt_11 rfl (hl.at 0 rfl) ?_
      obtain ⟨v12, e12, hm⟩ := hw_bs hm
      refine hw_getP hx hb hw_cfL hts hown hK hR e12 (by decide) rfl (hts _ hw_m305) (fun _ h9 => h9) dX3_isTestedAt_12 ?_
      refine lv_iload_n hx hb dX3_isTestedAt_15 rfl (hl.at 2 rfl) ?_
      obtain ⟨v16, e16, hm⟩ := hw_bs hm
      refine hw_iald hx hb hK hR e16 dX3_isTestedAt_16 ?_
      refine lv_bipush (v := 8) hx hb dX3_isTestedAt_17 (by decide) ?_
      refine lv_ishr hx hb dX3_isTestedAt_19 ?_
      refine hw_istore_n (lv' := [(3, .int (v16 >>> ((8 : Int32) &&& 31))), (0, hw_vr b (some x0)), (1, .int l1), (2, .int l2)]) hx hb dX3_isTestedAt_20 rfl hl (by decide) (by decide) rfl (fun ls hl => ?_)
      refine hw_aload_n hx hb dX3_isTestedAt_21 rfl (hl.at 1 rfl) ?_
      obtain ⟨v22, e22, hm⟩ := hw_bs hm
      refine hw_getP hx hb hw_cfL hts hown hK hR e22 (by decide) rfl (hts _ hw_m305) (fun _ h9 => h9) dX3_isTestedAt_22 ?_
      refine lv_iload_n hx hb dX3_isTestedAt_25 rfl (hl.at 3 rfl) ?_
      obtain ⟨v26, e26, hm⟩ := hw_bs hm
      refine hw_iald hx hb hK hR e26 dX3_isTestedAt_26 ?_
      refine lv_bipush (v := 7) hx hb dX3_isTestedAt_27 (by decide) ?_
      refine lv_iand hx hb dX3_isTestedAt_29 ?_
      refine lv_if_ne (tgt := 61) hx hb dX3_isTestedAt_30 (by decide) (fun c30 => ?_) (fun c30 => ?_)
      · have hm := hw_in hm c30
        exact w3_isTestedAt_b61 C0 ih hm hR (hl.sub [1, 2, 3] rfl)
      · have hm := hw_ip hm c30
        refine hw_aload_n hx hb dX3_isTestedAt_33 rfl (hl.at 1 rfl) ?_
        obtain ⟨v34, e34, hm⟩ := hw_bs hm
        refine hw_getP hx hb hw_cfL hts hown hK hR e34 (by decide) rfl (hts _ hw_m305) (fun _ h9 => h9) dX3_isTestedAt_34 ?_
        refine lv_iload_n hx hb dX3_isTestedAt_37 rfl (hl.at 3 rfl) ?_
        obtain ⟨v38, e38, hm⟩ := hw_bs hm
        refine hw_iald hx hb hK hR e38 dX3_isTestedAt_38 ?_
        refine lv_iconst (v := 3) hx hb dX3_isTestedAt_39 (by decide) ?_
        refine lv_ishr hx hb dX3_isTestedAt_40 ?_
        refine lv_bipush (v := 7) hx hb dX3_isTestedAt_41 (by decide) ?_
        refine lv_iand hx hb dX3_isTestedAt_43 ?_
        refine lv_iconst (v := 2) hx hb dX3_isTestedAt_44 (by decide) ?_
        refine lv_icmp_ne (tgt := 61) hx hb dX3_isTestedAt_45 (by decide) (fun c45 => ?_) (fun c45 => ?_)
        · have hm := hw_in hm c45
          exact w3_isTestedAt_b61 C0 ih hm hR (hl.sub [1, 2, 3] rfl)
        · have hm := hw_ip hm c45
          refine lv_iload_n hx hb dX3_isTestedAt_48 rfl (hl.at 2 rfl) ?_
          refine lv_iload_n hx hb dX3_isTestedAt_49 rfl (hl.at 0 rfl) ?_
          refine lv_iload_n hx hb dX3_isTestedAt_50 rfl (hl.at 0 rfl) ?_
          refine lv_iconst (v := 1) hx hb dX3_isTestedAt_51 (by decide) ?_
          refine lv_iadd hx hb dX3_isTestedAt_52 ?_
          obtain ⟨v53, e53, hm⟩ := hw_bs hm
          refine hw_cRI (va_runSN (As := [.int l1, .int (v16 >>> ((8 : Int32) &&& 31)), .int ((v16 >>> ((8 : Int32) &&& 31)) + (1 : Int32))]) (rest := []) ⟨hx, hb, hml, hown, hts⟩ (c11_isWithin l D e53) ⟨va_cnB 3 hts (hw_gC hw_m101) rfl rfl rfl (hE.2.1 _ (List.mem_of_getElem? (i := 16) rfl)) (hts _ hw_m2) (by decide +kernel) ⟨(Nat.le_of_ble_eq_true rfl), (Nat.le_of_ble_eq_true rfl)⟩, hts _ hw_m100, trivial⟩ (hw_pre0 hE) rfl rfl hl.sz rfl (lv_room (Nat.le_of_ble_eq_true rfl)) dX3_isTestedAt_53 ⟨(Nat.le_of_ble_eq_true rfl), (Nat.le_of_ble_eq_true rfl)⟩) ?_
          refine lv_if_eq (tgt := 61) hx hb dX3_isTestedAt_56 (by decide) (fun c56 => ?_) (fun c56 => ?_)
          · have hm := hw_ip hm c56
            exact w3_isTestedAt_b61 C0 ih hm hR (hl.sub [1, 2, 3] rfl)
          · have hm := hw_in hm c56
            refine lv_iconst (v := 1) hx hb dX3_isTestedAt_59 (by decide) ?_
            obtain ⟨_, z60, hm⟩ := hw_bs hm
            exact hw_rRZ hx hb hr hlk z60 hm dX3_isTestedAt_60
def m3_isTestedAt (x0 : Nat) (l1 : Int32) (σ : hw_S) : Option Int32 :=
  m3_isTestedAt_b2 hw_fu x0 l1 (0 : Int32) σ
set_option maxRecDepth 100000 in
theorem w3_isTestedAt_s {p : Program} {l : Launch} {e : Env} {s : State} {m : MethodId} {args : Array Value} {below : List Frame} {meth : Method} {c : Code} {D : hw_D} {b : Nat} {x0 : Nat} {l1 : Int32} {σ : hw_S} {r : Int32} (hm : m3_isTestedAt x0 l1 σ = some r) (C0 : hw_C p s m args meth c D yX3_isTestedAt cX3_isTestedAt 4 (some .boolean)) (hR : hw_R D b σ s.heap) {ls : Array Slot} (hl : hw_L ls 4 255 [(0, hw_vr b (some x0)), (1, .int l1)]) : W p l e rm3_isTestedAt s m args below meth c s.heap [] 0 0 (MQ below (hw_RI r) args s 0 0 hw_nof) (F0 m 0 ls []) := by
  obtain ⟨hx, hb, hml, hr, hown, hts, hlk, hE, hnm⟩ := id C0
  have hown : s.vm.findClass RX3 = some m.cls := hown
  have hK := hE.1
  unfold m3_isTestedAt at hm
  refine lv_iconst (v := 0) hx hb dX3_isTestedAt_0 (by decide) ?_
  refine hw_istore_n (lv' := [(2, .int (0 : Int32)), (0, hw_vr b (some x0)), (1, .int l1)]) hx hb dX3_isTestedAt_1 rfl hl (by decide) (by decide) rfl (fun ls hl => ?_)
  exact w3_isTestedAt_b2 C0 hw_fu hm hR (hl.sub [1, 2, 0] rfl)
set_option maxRecDepth 100000 in
theorem c3_isTestedAt (l : Launch) (D : hw_D) (b : Nat) {x0 : Nat} {l1 : Int32} {σ : hw_S} {r : Int32} (hm : m3_isTestedAt x0 l1 σ = some r) : Met l yX3_isTestedAt (Cond.code yX3_isTestedAt cX3_isTestedAt 4 (some .boolean) :: wsL_law) rm3_isTestedAt (hw_P1 D b σ [hw_vr b (some x0), .int l1]) (hw_RI r) 0 0 hw_nof := by
  refine hw_start1 (by decide +kernel) (by exact Nat.le_of_ble_eq_true rfl) ?_
  intro p e s m below meth c ls C0 hR hS hl
  have hl : lv_has ls 4 [(0, hw_vr b (some x0)), (1, .int l1)] := by exact hl
  exact w3_isTestedAt_s hm C0 hR ⟨hl, (List.forall_mem_cons.mpr ⟨(fun h => by rw [show (hw_vr b (some x0) : Value).category = 1 from (hw_vr_cat _ _)] at h; cases h), (List.forall_mem_cons.mpr ⟨(fun h => absurd (show (1 : Nat) = 2 from h) (by decide)), (fun _ h => absurd h List.not_mem_nil)⟩)⟩)⟩

abbrev rm3_init : Room := { frames := 2, cells := 3, slots := 340, locals := 82 }
def m3_init_b78 : Nat → Nat → Int32 → hw_S → Option hw_S
  | 0, _, _, _ => none
  | n + 1, x0, l5, σ =>
  (if (100 : Int32) ≤ l5 then
  some σ
  else
  (hw_gP hw_qL 7 (some x0) σ).bind fun v86 =>
  (hw_rv hw_qL (some x0) σ).bind fun a94 =>
  (m3_isTestedAt x0 l5 σ).bind fun v94 =>
  (hw_sZ v86 l5 v94 σ).bind fun σ97 =>
  m3_init_b78 n x0 (l5 + 1) σ97)
set_option maxRecDepth 100000 in
theorem w3_init_b78 {p : Program} {l : Launch} {e : Env} {s : State} {m : MethodId} {args : Array Value} {below : List Frame} {meth : Method} {c : Code} {D : hw_D} {b : Nat} {τ : hw_S} (C0 : hw_C p s m args meth c D yX3_init cX3_init 6 none) : ∀ (n : Nat) {x0 : Nat} {l5 : Int32} {σ : hw_S} {H : Heap} {locs : List Loc} {ls : Array Slot}, m3_init_b78 n x0 l5 σ = some τ → hw_R D b σ H → va_S (fun q => b ≤ q) s.heap H locs → hw_L ls 6 255 [(0, hw_vr b (some x0)), (5, .int l5)] → W p l e rm3_init s m args below meth c H locs 3 340 (MQ below (hw_QV D b τ) args s 3 340 (fun q => b ≤ q)) (F0 m 78 ls []) := by
  obtain ⟨hx, hb, hml, hr, hown, hts, hlk, hE, hnm⟩ := id C0
  have hown : s.vm.findClass RX3 = some m.cls := hown
  have hK := hE.1
  intro n
  induction n with
  | zero => intro _ _ _ _ _ _ hm; cases hm
  | succ n ih =>
    intro x0 l5 σ H locs ls hm hR hS hl
    rw [m3_init_b78] at hm
    refine lv_iload hx hb dX3_init_78 (hl.at 1 rfl) ?_
    refine lv_bipush (v := 100) hx hb dX3_init_80 (by decide) ?_
    refine lv_icmp_ge (tgt := 104) hx hb dX3_init_82 (by decide) (fun c82 => ?_) (fun c82 => ?_)
    · have hm := hw_ip hm c82
      exact hw_rWV hx hb hr hlk hR hS hm dX3_init_104
    · have hm := hw_in hm c82
      refine hw_aload_n hx hb dX3_init_85 rfl (hl.at 0 rfl) ?_
      obtain ⟨v86, e86, hm⟩ := hw_bs hm
      refine hw_getP hx hb hw_cfL hts hown hK hR e86 (by decide) rfl (hts _ hw_m293) (fun _ h9 => h9) dX3_init_86 ?_
      refine lv_iload hx hb dX3_init_89 (hl.at 1 rfl) ?_
      refine hw_aload_n hx hb dX3_init_91 rfl (hl.at 0 rfl) ?_
      refine lv_iload hx hb dX3_init_92 (hl.at 1 rfl) ?_
      obtain ⟨a94, g94, hm⟩ := hw_bs hm
      obtain ⟨rfl, ht94⟩ := hw_rv_th g94
      obtain ⟨ci94, C94, f94_1, f94_2, f94_3, f94_4⟩ := hw_sel7 (y := fun _ => yX3_isTestedAt) ht94 hw_m323 hw_m326 hw_m327 hw_m329 hw_m330 hw_m331 hw_m332
      obtain ⟨v94, e94, hm⟩ := hw_bs hm
      refine hw_cRI (va_runU (C := C94) (owner := RX3) (As := [.int l5]) (rest := [.int l5, hw_vr b v86]) ⟨hx, hb, hml, hown, hts⟩ (c3_isTestedAt l D b e94) (va_cwU 1 hts (hw_gU hw_m321 hw_m322 f94_4 hw_m324 hw_m285 hw_m325) rfl rfl rfl rfl (by decide +kernel) ⟨(Nat.le_of_ble_eq_true rfl), (Nat.le_of_ble_eq_true rfl)⟩) (hw_preV hE hR f94_3 f94_2 f94_1) rfl rfl hl.sz rfl (lv_room (hw_sm (List.forall_mem_cons.mpr ⟨rfl, (List.forall_mem_cons.mpr ⟨(hw_vr_cat _ _), (fun _ h => absurd h List.not_mem_nil)⟩)⟩) (Nat.le_of_ble_eq_true rfl))) dX3_init_94 ⟨(Nat.le_of_ble_eq_true rfl), (Nat.le_of_ble_eq_true rfl)⟩) ?_
      obtain ⟨σ97, e97, hm⟩ := hw_bs hm
      refine hw_zast hx hb hK hR hS e97 dX3_init_97 (fun _ _ hR hS => ?_)
      refine hw_iinc (v := (l5 + 1)) (lv' := [(5, .int (l5 + 1)), (0, hw_vr b (some x0))]) hx hb dX3_init_98 hl (k := 1) rfl rfl (by decide) (by decide) rfl (fun ls hl => ?_)
      refine lv_goto (tgt := 78) hx hb dX3_init_101 (by decide) ?_
      exact ih hm hR hS (hl.sub [1, 0] rfl)
def m3_init (x0 : Nat) (l1 : Int32) (l2 : Int32) (l3 : Int32) (l4 : Option Nat) (σ : hw_S) : Option hw_S :=
  hw_b2 (hw_naO 22 (100 : Int32) σ) fun v7 σ7 =>
  (hw_pP hw_qL 7 (some x0) (some v7) σ7).bind fun σ9 =>
  (hw_pI hw_qL 0 (some x0) l1 σ9).bind fun σ14 =>
  (hw_pI hw_qL 1 (some x0) l2 σ14).bind fun σ19 =>
  (hw_pI hw_qL 2 (some x0) l3 σ19).bind fun σ24 =>
  (hw_gI (hw_q 4) 6 l4 σ24).bind fun v30 =>
  (hw_pI hw_qL 3 (some x0) v30 σ24).bind fun σ33 =>
  (hw_gI (hw_q 4) 7 l4 σ33).bind fun v39 =>
  (hw_pI hw_qL 4 (some x0) v39 σ33).bind fun σ42 =>
  (hw_gP (hw_q 4) 5 l4 σ42).bind fun v48 =>
  hw_b2 (m7J_copyOf v48 (4 : Int32) σ42) fun v52 σ52 =>
  (hw_pP hw_qL 5 (some x0) v52 σ52).bind fun σ55 =>
  (hw_gP (hw_q 4) 3 l4 σ55).bind fun v61 =>
  (hw_gI (hw_q 4) 4 l4 σ55).bind fun v66 =>
  hw_b2 (m7J_copyOf v61 v66 σ55) fun v69 σ69 =>
  (hw_pP hw_qL 6 (some x0) v69 σ69).bind fun σ72 =>
  m3_init_b78 hw_fu x0 (0 : Int32) σ72
set_option maxRecDepth 100000 in
theorem w3_init_s {p : Program} {l : Launch} {e : Env} {s : State} {m : MethodId} {args : Array Value} {below : List Frame} {meth : Method} {c : Code} {D : hw_D} {b : Nat} {x0 : Nat} {l1 : Int32} {l2 : Int32} {l3 : Int32} {l4 : Option Nat} {σ : hw_S} {τ : hw_S} {H : Heap} {locs : List Loc} (hm : m3_init x0 l1 l2 l3 l4 σ = some τ) (C0 : hw_C p s m args meth c D yX3_init cX3_init 6 none) (hR : hw_R D b σ H) (hS : va_S (fun q => b ≤ q) s.heap H locs) {ls : Array Slot} (hl : hw_L ls 6 255 [(0, hw_vr b (some x0)), (1, .int l1), (2, .int l2), (3, .int l3), (4, hw_vr b l4)]) : W p l e rm3_init s m args below meth c H locs 0 0 (MQ below (hw_QV D b τ) args s 3 340 (fun q => b ≤ q)) (F0 m 0 ls []) := by
  obtain ⟨hx, hb, hml, hr, hown, hts, hlk, hE, hnm⟩ := id C0
  have hown : s.vm.findClass RX3 = some m.cls := hown
  have hK := hE.1
  unfold m3_init at hm
  refine hw_aload_n hx hb dX3_init_0 rfl (hl.at 0 rfl) ?_
  refine W.objInit hx hb hown (hts _ hw_m292) (hts _ hw_m11) (hts _ hw_m12) rfl (hl.sz.trans hml.symm) rfl dX3_init_1 (Nat.le_of_ble_eq_true rfl) (by simp [hw_vr_cat, Value.category, JFrame.monitorRoom]) ?_
  refine W.eq (g2 := F0 m 4 ls []) rfl ?_
  refine hw_aload_n hx hb dX3_init_4 rfl (hl.at 0 rfl) ?_
  refine lv_bipush (v := 100) hx hb dX3_init_5 (by decide) ?_
  obtain ⟨v7, σ7, e7, hm⟩ := hw_bs2 hm
  refine hw_newaO (atype := .boolean) (t := 1) (N := 100) (by decide) hx hb rfl (hts _ hw_m79) hK hR hS e7 (Nat.le_of_ble_eq_true rfl) (Nat.le_of_ble_eq_true rfl) (Nat.le_of_ble_eq_true rfl) dX3_init_7 (fun _ hR hS => ?_)
  obtain ⟨σ9, e9, hm⟩ := hw_bs hm
  refine hw_putP hx hb hw_cfL hts hown hK hR hS e9 (by decide) rfl rfl (hts _ hw_m293) (fun _ h9 => h9) (Or.inr ⟨rfl, hnm, rfl⟩) dX3_init_9 (fun _ _ hR hS => ?_)
  refine hw_aload_n hx hb dX3_init_12 rfl (hl.at 0 rfl) ?_
  refine lv_iload_n hx hb dX3_init_13 rfl (hl.at 1 rfl) ?_
  obtain ⟨σ14, e14, hm⟩ := hw_bs hm
  refine hw_putI hx hb hw_cfL hts hown hK hR hS e14 (by decide) rfl rfl (hts _ hw_m294) (fun _ h9 => h9) (Or.inr ⟨rfl, hnm, rfl⟩) dX3_init_14 (fun _ _ hR hS => ?_)
  refine hw_aload_n hx hb dX3_init_17 rfl (hl.at 0 rfl) ?_
  refine lv_iload_n hx hb dX3_init_18 rfl (hl.at 2 rfl) ?_
  obtain ⟨σ19, e19, hm⟩ := hw_bs hm
  refine hw_putI hx hb hw_cfL hts hown hK hR hS e19 (by decide) rfl rfl (hts _ hw_m295) (fun _ h9 => h9) (Or.inr ⟨rfl, hnm, rfl⟩) dX3_init_19 (fun _ _ hR hS => ?_)
  refine hw_aload_n hx hb dX3_init_22 rfl (hl.at 0 rfl) ?_
  refine lv_iload_n hx hb dX3_init_23 rfl (hl.at 3 rfl) ?_
  obtain ⟨σ24, e24, hm⟩ := hw_bs hm
  refine hw_putI hx hb hw_cfL hts hown hK hR hS e24 (by decide) rfl rfl (hts _ hw_m296) (fun _ h9 => h9) (Or.inr ⟨rfl, hnm, rfl⟩) dX3_init_24 (fun _ _ hR hS => ?_)
  refine hw_aload_n hx hb dX3_init_27 rfl (hl.at 0 rfl) ?_
  refine hw_aload hx hb dX3_init_28 (hl.at 4 rfl) ?_
  obtain ⟨v30, e30, hm⟩ := hw_bs hm
  refine hw_getI hx hb hw_cf4 hts hown hK hR e30 (by decide) rfl (hts _ hw_m297) (fun _ h9 => h9) dX3_init_30 ?_
  obtain ⟨σ33, e33, hm⟩ := hw_bs hm
  refine hw_putI hx hb hw_cfL hts hown hK hR hS e33 (by decide) rfl rfl (hts _ hw_m298) (fun _ h9 => h9) (Or.inr ⟨rfl, hnm, rfl⟩) dX3_init_33 (fun _ _ hR hS => ?_)
  refine hw_aload_n hx hb dX3_init_36 rfl (hl.at 0 rfl) ?_
  refine hw_aload hx hb dX3_init_37 (hl.at 4 rfl) ?_
  obtain ⟨v39, e39, hm⟩ := hw_bs hm
  refine hw_getI hx hb hw_cf4 hts hown hK hR e39 (by decide) rfl (hts _ hw_m299) (fun _ h9 => h9) dX3_init_39 ?_
  obtain ⟨σ42, e42, hm⟩ := hw_bs hm
  refine hw_putI hx hb hw_cfL hts hown hK hR hS e42 (by decide) rfl rfl (hts _ hw_m300) (fun _ h9 => h9) (Or.inr ⟨rfl, hnm, rfl⟩) dX3_init_42 (fun _ _ hR hS => ?_)
  refine hw_aload_n hx hb dX3_init_45 rfl (hl.at 0 rfl) ?_
  refine hw_aload hx hb dX3_init_46 (hl.at 4 rfl) ?_
  obtain ⟨v48, e48, hm⟩ := hw_bs hm
  refine hw_getP hx hb hw_cf4 hts hown hK hR e48 (by decide) rfl (hts _ hw_m301) (fun _ h9 => h9) dX3_init_48 ?_
  refine lv_iconst (v := 4) hx hb dX3_init_51 (by decide) ?_
  obtain ⟨v52, σ52, e52, hm⟩ := hw_bs2 hm
  refine hw_cWP (va_runS (As := [hw_vr b v48, .int (4 : Int32)]) (rest := [hw_vr b (some x0)]) ⟨hx, hb, hml, hown, hts⟩ (c7J_copyOf l D b e52) (by refine ⟨callB_of 2 hts (hw_gC hw_m309) rfl rfl rfl (hts _ hw_m308) (hts _ hw_m306) (by decide +kernel) ⟨(Nat.le_of_ble_eq_true rfl), (Nat.le_of_ble_eq_true rfl)⟩, hts _ hw_m307⟩) (hw_pre1 hE hR) rfl rfl hl.sz rfl (lv_room (hw_sm (List.forall_mem_cons.mpr ⟨(hw_vr_cat _ _), (fun _ h => absurd h List.not_mem_nil)⟩) (Nat.le_of_ble_eq_true rfl))) dX3_init_52 ⟨(Nat.le_of_ble_eq_true rfl), (Nat.le_of_ble_eq_true rfl)⟩) hS (fun _ _ hR hS => ?_)
  obtain ⟨σ55, e55, hm⟩ := hw_bs hm
  refine hw_putP hx hb hw_cfL hts hown hK hR hS e55 (by decide) rfl rfl (hts _ hw_m302) (fun _ h9 => h9) (Or.inr ⟨rfl, hnm, rfl⟩) dX3_init_55 (fun _ _ hR hS => ?_)
  refine hw_aload_n hx hb dX3_init_58 rfl (hl.at 0 rfl) ?_
  refine hw_aload hx hb dX3_init_59 (hl.at 4 rfl) ?_
  obtain ⟨v61, e61, hm⟩ := hw_bs hm
  refine hw_getP hx hb hw_cf4 hts hown hK hR e61 (by decide) rfl (hts _ hw_m303) (fun _ h9 => h9) dX3_init_61 ?_
  refine hw_aload hx hb dX3_init_64 (hl.at 4 rfl) ?_
  obtain ⟨v66, e66, hm⟩ := hw_bs hm
  refine hw_getI hx hb hw_cf4 hts hown hK hR e66 (by decide) rfl (hts _ hw_m304) (fun _ h9 => h9) dX3_init_66 ?_
  obtain ⟨v69, σ69, e69, hm⟩ := hw_bs2 hm
  refine hw_cWP (va_runS (As := [hw_vr b v61, .int v66]) (rest := [hw_vr b (some x0)]) ⟨hx, hb, hml, hown, hts⟩ (c7J_copyOf l D b e69) (by refine ⟨callB_of 2 hts (hw_gC hw_m309) rfl rfl rfl (hts _ hw_m308) (hts _ hw_m306) (by decide +kernel) ⟨(Nat.le_of_ble_eq_true rfl), (Nat.le_of_ble_eq_true rfl)⟩, hts _ hw_m307⟩) (hw_pre1 hE hR) rfl rfl hl.sz rfl (lv_room (hw_sm (List.forall_mem_cons.mpr ⟨(hw_vr_cat _ _), (fun _ h => absurd h List.not_mem_nil)⟩) (Nat.le_of_ble_eq_true rfl))) dX3_init_69 ⟨(Nat.le_of_ble_eq_true rfl), (Nat.le_of_ble_eq_true rfl)⟩) hS (fun _ _ hR hS => ?_)
  obtain ⟨σ72, e72, hm⟩ := hw_bs hm
  refine hw_putP hx hb hw_cfL hts hown hK hR hS e72 (by decide) rfl rfl (hts _ hw_m305) (fun _ h9 => h9) (Or.inr ⟨rfl, hnm, rfl⟩) dX3_init_72 (fun _ _ hR hS => ?_)
  refine lv_iconst (v := 0) hx hb dX3_init_75 (by decide) ?_
  refine hw_istore (lv' := [(5, .int (0 : Int32)), (0, hw_vr b (some x0)), (1, .int l1), (2, .int l2), (3, .int l3), (4, hw_vr b l4)]) hx hb dX3_init_76 hl (by decide) (by decide) rfl (fun ls hl => ?_)
  exact w3_init_b78 C0 hw_fu hm hR hS (hl.sub [1, 0] rfl)
set_option maxRecDepth 100000 in
theorem c3_init (l : Launch) (D : hw_D) (b : Nat) {x0 : Nat} {l1 : Int32} {l2 : Int32} {l3 : Int32} {l4 : Option Nat} {σ : hw_S} {τ : hw_S} (hm : m3_init x0 l1 l2 l3 l4 σ = some τ) : Met l yX3_init (Cond.code yX3_init cX3_init 6 none :: wsL_law) rm3_init (hw_P1 D b σ [hw_vr b (some x0), .int l1, .int l2, .int l3, hw_vr b l4]) (hw_QV D b τ) 3 340 (fun q => b ≤ q) := by
  refine hw_start1 (by decide +kernel) (by cases l4 <;> exact Nat.le_of_ble_eq_true rfl) ?_
  intro p e s m below meth c ls C0 hR hS hl
  have hl : lv_has ls 6 [(0, hw_vr b (some x0)), (1, .int l1), (2, .int l2), (3, .int l3), (4, hw_vr b l4)] := by cases l4 <;> exact hl
  exact w3_init_s hm C0 hR hS ⟨hl, (List.forall_mem_cons.mpr ⟨(fun h => by rw [show (hw_vr b (some x0) : Value).category = 1 from (hw_vr_cat _ _)] at h; cases h), (List.forall_mem_cons.mpr ⟨(fun h => absurd (show (1 : Nat) = 2 from h) (by decide)), (List.forall_mem_cons.mpr ⟨(fun h => absurd (show (1 : Nat) = 2 from h) (by decide)), (List.forall_mem_cons.mpr ⟨(fun h => absurd (show (1 : Nat) = 2 from h) (by decide)), (List.forall_mem_cons.mpr ⟨(fun h => by rw [show (hw_vr b l4 : Value).category = 1 from (hw_vr_cat _ _)] at h; cases h), (fun _ h => absurd h List.not_mem_nil)⟩)⟩)⟩)⟩)⟩)⟩

abbrev rm7_init : Room := { frames := 3, cells := 3, slots := 340, locals := 107 }
def m7_init (x0 : Nat) (l1 : Int32) (l2 : Int32) (l3 : Option Nat) (σ : hw_S) : Option hw_S :=
  (m3_init x0 (1 : Int32) l1 l2 l3 σ).bind fun σ5 =>
  some σ5
set_option maxRecDepth 100000 in
theorem w7_init_s {p : Program} {l : Launch} {e : Env} {s : State} {m : MethodId} {args : Array Value} {below : List Frame} {meth : Method} {c : Code} {D : hw_D} {b : Nat} {x0 : Nat} {l1 : Int32} {l2 : Int32} {l3 : Option Nat} {σ : hw_S} {τ : hw_S} {H : Heap} {locs : List Loc} (hm : m7_init x0 l1 l2 l3 σ = some τ) (C0 : hw_C p s m args meth c D yX7_init cX7_init 4 none) (hR : hw_R D b σ H) (hS : va_S (fun q => b ≤ q) s.heap H locs) {ls : Array Slot} (hl : hw_L ls 4 255 [(0, hw_vr b (some x0)), (1, .int l1), (2, .int l2), (3, hw_vr b l3)]) : W p l e rm7_init s m args below meth c H locs 0 0 (MQ below (hw_QV D b τ) args s 3 340 (fun q => b ≤ q)) (F0 m 0 ls []) := by
  obtain ⟨hx, hb, hml, hr, hown, hts, hlk, hE, hnm⟩ := id C0
  have hown : s.vm.findClass RX7 = some m.cls := hown
  have hK := hE.1
  unfold m7_init at hm
  refine hw_aload_n hx hb dX7_init_0 rfl (hl.at 0 rfl) ?_
  refine lv_iconst (v := 1) hx hb dX7_init_1 (by decide) ?_
  refine lv_iload_n hx hb dX7_init_2 rfl (hl.at 1 rfl) ?_
  refine lv_iload_n hx hb dX7_init_3 rfl (hl.at 2 rfl) ?_
  refine hw_aload_n hx hb dX7_init_4 rfl (hl.at 3 rfl) ?_
  obtain ⟨σ5, e5, hm⟩ := hw_bs hm
  refine hw_cWV (va_runI (As := [.int (1 : Int32), .int l1, .int l2, hw_vr b l3]) (rest := []) ⟨hx, hb, hml, hown, hts⟩ (c3_init l D b e5) (cwI 4 hts (hw_gC hw_m291) rfl rfl rfl (hts _ hw_m285) (hts _ hw_m289) (hts _ hw_m290) rfl (by decide +kernel) ⟨(Nat.le_of_ble_eq_true rfl), (Nat.le_of_ble_eq_true rfl)⟩) (hw_pre1 hE hR) rfl rfl hl.sz rfl (lv_room (Nat.le_of_ble_eq_true rfl)) dX7_init_5 ⟨(Nat.le_of_ble_eq_true rfl), (Nat.le_of_ble_eq_true rfl)⟩) hS (fun _ _ hR hS => ?_)
  exact hw_rWV hx hb hr hlk hR hS hm dX7_init_8
set_option maxRecDepth 100000 in
theorem c7_init (l : Launch) (D : hw_D) (b : Nat) {x0 : Nat} {l1 : Int32} {l2 : Int32} {l3 : Option Nat} {σ : hw_S} {τ : hw_S} (hm : m7_init x0 l1 l2 l3 σ = some τ) : Met l yX7_init (Cond.code yX7_init cX7_init 4 none :: wsL_law) rm7_init (hw_P1 D b σ [hw_vr b (some x0), .int l1, .int l2, hw_vr b l3]) (hw_QV D b τ) 3 340 (fun q => b ≤ q) := by
  refine hw_start1 (by decide +kernel) (by cases l3 <;> exact Nat.le_of_ble_eq_true rfl) ?_
  intro p e s m below meth c ls C0 hR hS hl
  have hl : lv_has ls 4 [(0, hw_vr b (some x0)), (1, .int l1), (2, .int l2), (3, hw_vr b l3)] := by cases l3 <;> exact hl
  exact w7_init_s hm C0 hR hS ⟨hl, (List.forall_mem_cons.mpr ⟨(fun h => by rw [show (hw_vr b (some x0) : Value).category = 1 from (hw_vr_cat _ _)] at h; cases h), (List.forall_mem_cons.mpr ⟨(fun h => absurd (show (1 : Nat) = 2 from h) (by decide)), (List.forall_mem_cons.mpr ⟨(fun h => absurd (show (1 : Nat) = 2 from h) (by decide)), (List.forall_mem_cons.mpr ⟨(fun h => by rw [show (hw_vr b l3 : Value).category = 1 from (hw_vr_cat _ _)] at h; cases h), (fun _ h => absurd h List.not_mem_nil)⟩)⟩)⟩)⟩)⟩

abbrev rm2_init : Room := { frames := 3, cells := 3, slots := 340, locals := 107 }
def m2_init (x0 : Nat) (l1 : Int32) (l2 : Int32) (l3 : Int32) (l4 : Option Nat) (σ : hw_S) : Option hw_S :=
  (m3_init x0 l1 l2 l3 l4 σ).bind fun σ6 =>
  some σ6
set_option maxRecDepth 100000 in
theorem w2_init_s {p : Program} {l : Launch} {e : Env} {s : State} {m : MethodId} {args : Array Value} {below : List Frame} {meth : Method} {c : Code} {D : hw_D} {b : Nat} {x0 : Nat} {l1 : Int32} {l2 : Int32} {l3 : Int32} {l4 : Option Nat} {σ : hw_S} {τ : hw_S} {H : Heap} {locs : List Loc} (hm : m2_init x0 l1 l2 l3 l4 σ = some τ) (C0 : hw_C p s m args meth c D yX2_init cX2_init 5 none) (hR : hw_R D b σ H) (hS : va_S (fun q => b ≤ q) s.heap H locs) {ls : Array Slot} (hl : hw_L ls 5 255 [(0, hw_vr b (some x0)), (1, .int l1), (2, .int l2), (3, .int l3), (4, hw_vr b l4)]) : W p l e rm2_init s m args below meth c H locs 0 0 (MQ below (hw_QV D b τ) args s 3 340 (fun q => b ≤ q)) (F0 m 0 ls []) := by
  obtain ⟨hx, hb, hml, hr, hown, hts, hlk, hE, hnm⟩ := id C0
  have hown : s.vm.findClass RX2 = some m.cls := hown
  have hK := hE.1
  unfold m2_init at hm
  refine hw_aload_n hx hb dX2_init_0 rfl (hl.at 0 rfl) ?_
  refine lv_iload_n hx hb dX2_init_1 rfl (hl.at 1 rfl) ?_
  refine lv_iload_n hx hb dX2_init_2 rfl (hl.at 2 rfl) ?_
  refine lv_iload_n hx hb dX2_init_3 rfl (hl.at 3 rfl) ?_
  refine hw_aload hx hb dX2_init_4 (hl.at 4 rfl) ?_
  obtain ⟨σ6, e6, hm⟩ := hw_bs hm
  refine hw_cWV (va_runI (As := [.int l1, .int l2, .int l3, hw_vr b l4]) (rest := []) ⟨hx, hb, hml, hown, hts⟩ (c3_init l D b e6) (cwI 4 hts (hw_gC hw_m291) rfl rfl rfl (hts _ hw_m285) (hts _ hw_m336) (hts _ hw_m290) rfl (by decide +kernel) ⟨(Nat.le_of_ble_eq_true rfl), (Nat.le_of_ble_eq_true rfl)⟩) (hw_pre1 hE hR) rfl rfl hl.sz rfl (lv_room (Nat.le_of_ble_eq_true rfl)) dX2_init_6 ⟨(Nat.le_of_ble_eq_true rfl), (Nat.le_of_ble_eq_true rfl)⟩) hS (fun _ _ hR hS => ?_)
  exact hw_rWV hx hb hr hlk hR hS hm dX2_init_9
set_option maxRecDepth 100000 in
theorem c2_init (l : Launch) (D : hw_D) (b : Nat) {x0 : Nat} {l1 : Int32} {l2 : Int32} {l3 : Int32} {l4 : Option Nat} {σ : hw_S} {τ : hw_S} (hm : m2_init x0 l1 l2 l3 l4 σ = some τ) : Met l yX2_init (Cond.code yX2_init cX2_init 5 none :: wsL_law) rm2_init (hw_P1 D b σ [hw_vr b (some x0), .int l1, .int l2, .int l3, hw_vr b l4]) (hw_QV D b τ) 3 340 (fun q => b ≤ q) := by
  refine hw_start1 (by decide +kernel) (by cases l4 <;> exact Nat.le_of_ble_eq_true rfl) ?_
  intro p e s m below meth c ls C0 hR hS hl
  have hl : lv_has ls 5 [(0, hw_vr b (some x0)), (1, .int l1), (2, .int l2), (3, .int l3), (4, hw_vr b l4)] := by cases l4 <;> exact hl
  exact w2_init_s hm C0 hR hS ⟨hl, (List.forall_mem_cons.mpr ⟨(fun h => by rw [show (hw_vr b (some x0) : Value).category = 1 from (hw_vr_cat _ _)] at h; cases h), (List.forall_mem_cons.mpr ⟨(fun h => absurd (show (1 : Nat) = 2 from h) (by decide)), (List.forall_mem_cons.mpr ⟨(fun h => absurd (show (1 : Nat) = 2 from h) (by decide)), (List.forall_mem_cons.mpr ⟨(fun h => absurd (show (1 : Nat) = 2 from h) (by decide)), (List.forall_mem_cons.mpr ⟨(fun h => by rw [show (hw_vr b l4 : Value).category = 1 from (hw_vr_cat _ _)] at h; cases h), (fun _ h => absurd h List.not_mem_nil)⟩)⟩)⟩)⟩)⟩)⟩

abbrev rm1_init : Room := { frames := 3, cells := 3, slots := 340, locals := 107 }
def m1_init (x0 : Nat) (l1 : Int32) (l2 : Int32) (l3 : Int32) (l4 : Option Nat) (σ : hw_S) : Option hw_S :=
  (m3_init x0 l1 l2 l3 l4 σ).bind fun σ6 =>
  some σ6
set_option maxRecDepth 100000 in
theorem w1_init_s {p : Program} {l : Launch} {e : Env} {s : State} {m : MethodId} {args : Array Value} {below : List Frame} {meth : Method} {c : Code} {D : hw_D} {b : Nat} {x0 : Nat} {l1 : Int32} {l2 : Int32} {l3 : Int32} {l4 : Option Nat} {σ : hw_S} {τ : hw_S} {H : Heap} {locs : List Loc} (hm : m1_init x0 l1 l2 l3 l4 σ = some τ) (C0 : hw_C p s m args meth c D yX1_init cX1_init 5 none) (hR : hw_R D b σ H) (hS : va_S (fun q => b ≤ q) s.heap H locs) {ls : Array Slot} (hl : hw_L ls 5 255 [(0, hw_vr b (some x0)), (1, .int l1), (2, .int l2), (3, .int l3), (4, hw_vr b l4)]) : W p l e rm1_init s m args below meth c H locs 0 0 (MQ below (hw_QV D b τ) args s 3 340 (fun q => b ≤ q)) (F0 m 0 ls []) := by
  obtain ⟨hx, hb, hml, hr, hown, hts, hlk, hE, hnm⟩ := id C0
  have hown : s.vm.findClass RX1 = some m.cls := hown
  have hK := hE.1
  unfold m1_init at hm
  refine hw_aload_n hx hb dX1_init_0 rfl (hl.at 0 rfl) ?_
  refine lv_iload_n hx hb dX1_init_1 rfl (hl.at 1 rfl) ?_
  refine lv_iload_n hx hb dX1_init_2 rfl (hl.at 2 rfl) ?_
  refine lv_iload_n hx hb dX1_init_3 rfl (hl.at 3 rfl) ?_
  refine hw_aload hx hb dX1_init_4 (hl.at 4 rfl) ?_
  obtain ⟨σ6, e6, hm⟩ := hw_bs hm
  refine hw_cWV (va_runI (As := [.int l1, .int l2, .int l3, hw_vr b l4]) (rest := []) ⟨hx, hb, hml, hown, hts⟩ (c3_init l D b e6) (cwI 4 hts (hw_gC hw_m291) rfl rfl rfl (hts _ hw_m285) (hts _ hw_m340) (hts _ hw_m290) rfl (by decide +kernel) ⟨(Nat.le_of_ble_eq_true rfl), (Nat.le_of_ble_eq_true rfl)⟩) (hw_pre1 hE hR) rfl rfl hl.sz rfl (lv_room (Nat.le_of_ble_eq_true rfl)) dX1_init_6 ⟨(Nat.le_of_ble_eq_true rfl), (Nat.le_of_ble_eq_true rfl)⟩) hS (fun _ _ hR hS => ?_)
  exact hw_rWV hx hb hr hlk hR hS hm dX1_init_9
set_option maxRecDepth 100000 in
theorem c1_init (l : Launch) (D : hw_D) (b : Nat) {x0 : Nat} {l1 : Int32} {l2 : Int32} {l3 : Int32} {l4 : Option Nat} {σ : hw_S} {τ : hw_S} (hm : m1_init x0 l1 l2 l3 l4 σ = some τ) : Met l yX1_init (Cond.code yX1_init cX1_init 5 none :: wsL_law) rm1_init (hw_P1 D b σ [hw_vr b (some x0), .int l1, .int l2, .int l3, hw_vr b l4]) (hw_QV D b τ) 3 340 (fun q => b ≤ q) := by
  refine hw_start1 (by decide +kernel) (by cases l4 <;> exact Nat.le_of_ble_eq_true rfl) ?_
  intro p e s m below meth c ls C0 hR hS hl
  have hl : lv_has ls 5 [(0, hw_vr b (some x0)), (1, .int l1), (2, .int l2), (3, .int l3), (4, hw_vr b l4)] := by cases l4 <;> exact hl
  exact w1_init_s hm C0 hR hS ⟨hl, (List.forall_mem_cons.mpr ⟨(fun h => by rw [show (hw_vr b (some x0) : Value).category = 1 from (hw_vr_cat _ _)] at h; cases h), (List.forall_mem_cons.mpr ⟨(fun h => absurd (show (1 : Nat) = 2 from h) (by decide)), (List.forall_mem_cons.mpr ⟨(fun h => absurd (show (1 : Nat) = 2 from h) (by decide)), (List.forall_mem_cons.mpr ⟨(fun h => absurd (show (1 : Nat) = 2 from h) (by decide)), (List.forall_mem_cons.mpr ⟨(fun h => by rw [show (hw_vr b l4 : Value).category = 1 from (hw_vr_cat _ _)] at h; cases h), (fun _ h => absurd h List.not_mem_nil)⟩)⟩)⟩)⟩)⟩)⟩

abbrev rm0_init : Room := { frames := 4, cells := 3, slots := 340, locals := 131 }
def m0_init (x0 : Nat) (l1 : Int32) (l2 : Int32) (l3 : Option Nat) (σ : hw_S) : Option hw_S :=
  (m2_init x0 (4 : Int32) l1 l2 l3 σ).bind fun σ5 =>
  some σ5
set_option maxRecDepth 100000 in
theorem w0_init_s {p : Program} {l : Launch} {e : Env} {s : State} {m : MethodId} {args : Array Value} {below : List Frame} {meth : Method} {c : Code} {D : hw_D} {b : Nat} {x0 : Nat} {l1 : Int32} {l2 : Int32} {l3 : Option Nat} {σ : hw_S} {τ : hw_S} {H : Heap} {locs : List Loc} (hm : m0_init x0 l1 l2 l3 σ = some τ) (C0 : hw_C p s m args meth c D yX0_init cX0_init 4 none) (hR : hw_R D b σ H) (hS : va_S (fun q => b ≤ q) s.heap H locs) {ls : Array Slot} (hl : hw_L ls 4 255 [(0, hw_vr b (some x0)), (1, .int l1), (2, .int l2), (3, hw_vr b l3)]) : W p l e rm0_init s m args below meth c H locs 0 0 (MQ below (hw_QV D b τ) args s 3 340 (fun q => b ≤ q)) (F0 m 0 ls []) := by
  obtain ⟨hx, hb, hml, hr, hown, hts, hlk, hE, hnm⟩ := id C0
  have hown : s.vm.findClass RX0 = some m.cls := hown
  have hK := hE.1
  unfold m0_init at hm
  refine hw_aload_n hx hb dX0_init_0 rfl (hl.at 0 rfl) ?_
  refine lv_iconst (v := 4) hx hb dX0_init_1 (by decide) ?_
  refine lv_iload_n hx hb dX0_init_2 rfl (hl.at 1 rfl) ?_
  refine lv_iload_n hx hb dX0_init_3 rfl (hl.at 2 rfl) ?_
  refine hw_aload_n hx hb dX0_init_4 rfl (hl.at 3 rfl) ?_
  obtain ⟨σ5, e5, hm⟩ := hw_bs hm
  refine hw_cWV (va_runI (As := [.int (4 : Int32), .int l1, .int l2, hw_vr b l3]) (rest := []) ⟨hx, hb, hml, hown, hts⟩ (c2_init l D b e5) (cwI 4 hts (hw_gC hw_m335) rfl rfl rfl (hts _ hw_m270) (hts _ hw_m344) (hts _ hw_m334) rfl (by decide +kernel) ⟨(Nat.le_of_ble_eq_true rfl), (Nat.le_of_ble_eq_true rfl)⟩) (hw_pre1 hE hR) rfl rfl hl.sz rfl (lv_room (Nat.le_of_ble_eq_true rfl)) dX0_init_5 ⟨(Nat.le_of_ble_eq_true rfl), (Nat.le_of_ble_eq_true rfl)⟩) hS (fun _ _ hR hS => ?_)
  exact hw_rWV hx hb hr hlk hR hS hm dX0_init_8
set_option maxRecDepth 100000 in
theorem c0_init (l : Launch) (D : hw_D) (b : Nat) {x0 : Nat} {l1 : Int32} {l2 : Int32} {l3 : Option Nat} {σ : hw_S} {τ : hw_S} (hm : m0_init x0 l1 l2 l3 σ = some τ) : Met l yX0_init (Cond.code yX0_init cX0_init 4 none :: wsL_law) rm0_init (hw_P1 D b σ [hw_vr b (some x0), .int l1, .int l2, hw_vr b l3]) (hw_QV D b τ) 3 340 (fun q => b ≤ q) := by
  refine hw_start1 (by decide +kernel) (by cases l3 <;> exact Nat.le_of_ble_eq_true rfl) ?_
  intro p e s m below meth c ls C0 hR hS hl
  have hl : lv_has ls 4 [(0, hw_vr b (some x0)), (1, .int l1), (2, .int l2), (3, hw_vr b l3)] := by cases l3 <;> exact hl
  exact w0_init_s hm C0 hR hS ⟨hl, (List.forall_mem_cons.mpr ⟨(fun h => by rw [show (hw_vr b (some x0) : Value).category = 1 from (hw_vr_cat _ _)] at h; cases h), (List.forall_mem_cons.mpr ⟨(fun h => absurd (show (1 : Nat) = 2 from h) (by decide)), (List.forall_mem_cons.mpr ⟨(fun h => absurd (show (1 : Nat) = 2 from h) (by decide)), (List.forall_mem_cons.mpr ⟨(fun h => by rw [show (hw_vr b l3 : Value).category = 1 from (hw_vr_cat _ _)] at h; cases h), (fun _ h => absurd h List.not_mem_nil)⟩)⟩)⟩)⟩)⟩

abbrev rm6_init : Room := { frames := 4, cells := 3, slots := 340, locals := 131 }
def m6_init (x0 : Nat) (l1 : Int32) (l2 : Int32) (l3 : Option Nat) (σ : hw_S) : Option hw_S :=
  (m2_init x0 (5 : Int32) l1 l2 l3 σ).bind fun σ5 =>
  some σ5
set_option maxRecDepth 100000 in
theorem w6_init_s {p : Program} {l : Launch} {e : Env} {s : State} {m : MethodId} {args : Array Value} {below : List Frame} {meth : Method} {c : Code} {D : hw_D} {b : Nat} {x0 : Nat} {l1 : Int32} {l2 : Int32} {l3 : Option Nat} {σ : hw_S} {τ : hw_S} {H : Heap} {locs : List Loc} (hm : m6_init x0 l1 l2 l3 σ = some τ) (C0 : hw_C p s m args meth c D yX6_init cX6_init 4 none) (hR : hw_R D b σ H) (hS : va_S (fun q => b ≤ q) s.heap H locs) {ls : Array Slot} (hl : hw_L ls 4 255 [(0, hw_vr b (some x0)), (1, .int l1), (2, .int l2), (3, hw_vr b l3)]) : W p l e rm6_init s m args below meth c H locs 0 0 (MQ below (hw_QV D b τ) args s 3 340 (fun q => b ≤ q)) (F0 m 0 ls []) := by
  obtain ⟨hx, hb, hml, hr, hown, hts, hlk, hE, hnm⟩ := id C0
  have hown : s.vm.findClass RX6 = some m.cls := hown
  have hK := hE.1
  unfold m6_init at hm
  refine hw_aload_n hx hb dX6_init_0 rfl (hl.at 0 rfl) ?_
  refine lv_iconst (v := 5) hx hb dX6_init_1 (by decide) ?_
  refine lv_iload_n hx hb dX6_init_2 rfl (hl.at 1 rfl) ?_
  refine lv_iload_n hx hb dX6_init_3 rfl (hl.at 2 rfl) ?_
  refine hw_aload_n hx hb dX6_init_4 rfl (hl.at 3 rfl) ?_
  obtain ⟨σ5, e5, hm⟩ := hw_bs hm
  refine hw_cWV (va_runI (As := [.int (5 : Int32), .int l1, .int l2, hw_vr b l3]) (rest := []) ⟨hx, hb, hml, hown, hts⟩ (c2_init l D b e5) (cwI 4 hts (hw_gC hw_m335) rfl rfl rfl (hts _ hw_m270) (hts _ hw_m348) (hts _ hw_m334) rfl (by decide +kernel) ⟨(Nat.le_of_ble_eq_true rfl), (Nat.le_of_ble_eq_true rfl)⟩) (hw_pre1 hE hR) rfl rfl hl.sz rfl (lv_room (Nat.le_of_ble_eq_true rfl)) dX6_init_5 ⟨(Nat.le_of_ble_eq_true rfl), (Nat.le_of_ble_eq_true rfl)⟩) hS (fun _ _ hR hS => ?_)
  exact hw_rWV hx hb hr hlk hR hS hm dX6_init_8
set_option maxRecDepth 100000 in
theorem c6_init (l : Launch) (D : hw_D) (b : Nat) {x0 : Nat} {l1 : Int32} {l2 : Int32} {l3 : Option Nat} {σ : hw_S} {τ : hw_S} (hm : m6_init x0 l1 l2 l3 σ = some τ) : Met l yX6_init (Cond.code yX6_init cX6_init 4 none :: wsL_law) rm6_init (hw_P1 D b σ [hw_vr b (some x0), .int l1, .int l2, hw_vr b l3]) (hw_QV D b τ) 3 340 (fun q => b ≤ q) := by
  refine hw_start1 (by decide +kernel) (by cases l3 <;> exact Nat.le_of_ble_eq_true rfl) ?_
  intro p e s m below meth c ls C0 hR hS hl
  have hl : lv_has ls 4 [(0, hw_vr b (some x0)), (1, .int l1), (2, .int l2), (3, hw_vr b l3)] := by cases l3 <;> exact hl
  exact w6_init_s hm C0 hR hS ⟨hl, (List.forall_mem_cons.mpr ⟨(fun h => by rw [show (hw_vr b (some x0) : Value).category = 1 from (hw_vr_cat _ _)] at h; cases h), (List.forall_mem_cons.mpr ⟨(fun h => absurd (show (1 : Nat) = 2 from h) (by decide)), (List.forall_mem_cons.mpr ⟨(fun h => absurd (show (1 : Nat) = 2 from h) (by decide)), (List.forall_mem_cons.mpr ⟨(fun h => by rw [show (hw_vr b l3 : Value).category = 1 from (hw_vr_cat _ _)] at h; cases h), (fun _ h => absurd h List.not_mem_nil)⟩)⟩)⟩)⟩)⟩

abbrev rm5_init : Room := { frames := 4, cells := 3, slots := 340, locals := 131 }
def m5_init (x0 : Nat) (l1 : Int32) (l2 : Int32) (l3 : Option Nat) (σ : hw_S) : Option hw_S :=
  (m1_init x0 (6 : Int32) l1 l2 l3 σ).bind fun σ6 =>
  some σ6
set_option maxRecDepth 100000 in
theorem w5_init_s {p : Program} {l : Launch} {e : Env} {s : State} {m : MethodId} {args : Array Value} {below : List Frame} {meth : Method} {c : Code} {D : hw_D} {b : Nat} {x0 : Nat} {l1 : Int32} {l2 : Int32} {l3 : Option Nat} {σ : hw_S} {τ : hw_S} {H : Heap} {locs : List Loc} (hm : m5_init x0 l1 l2 l3 σ = some τ) (C0 : hw_C p s m args meth c D yX5_init cX5_init 4 none) (hR : hw_R D b σ H) (hS : va_S (fun q => b ≤ q) s.heap H locs) {ls : Array Slot} (hl : hw_L ls 4 255 [(0, hw_vr b (some x0)), (1, .int l1), (2, .int l2), (3, hw_vr b l3)]) : W p l e rm5_init s m args below meth c H locs 0 0 (MQ below (hw_QV D b τ) args s 3 340 (fun q => b ≤ q)) (F0 m 0 ls []) := by
  obtain ⟨hx, hb, hml, hr, hown, hts, hlk, hE, hnm⟩ := id C0
  have hown : s.vm.findClass RX5 = some m.cls := hown
  have hK := hE.1
  unfold m5_init at hm
  refine hw_aload_n hx hb dX5_init_0 rfl (hl.at 0 rfl) ?_
  refine lv_bipush (v := 6) hx hb dX5_init_1 (by decide) ?_
  refine lv_iload_n hx hb dX5_init_3 rfl (hl.at 1 rfl) ?_
  refine lv_iload_n hx hb dX5_init_4 rfl (hl.at 2 rfl) ?_
  refine hw_aload_n hx hb dX5_init_5 rfl (hl.at 3 rfl) ?_
  obtain ⟨σ6, e6, hm⟩ := hw_bs hm
  refine hw_cWV (va_runI (As := [.int (6 : Int32), .int l1, .int l2, hw_vr b l3]) (rest := []) ⟨hx, hb, hml, hown, hts⟩ (c1_init l D b e6) (cwI 4 hts (hw_gC hw_m339) rfl rfl rfl (hts _ hw_m273) (hts _ hw_m352) (hts _ hw_m338) rfl (by decide +kernel) ⟨(Nat.le_of_ble_eq_true rfl), (Nat.le_of_ble_eq_true rfl)⟩) (hw_pre1 hE hR) rfl rfl hl.sz rfl (lv_room (Nat.le_of_ble_eq_true rfl)) dX5_init_6 ⟨(Nat.le_of_ble_eq_true rfl), (Nat.le_of_ble_eq_true rfl)⟩) hS (fun _ _ hR hS => ?_)
  exact hw_rWV hx hb hr hlk hR hS hm dX5_init_9
set_option maxRecDepth 100000 in
theorem c5_init (l : Launch) (D : hw_D) (b : Nat) {x0 : Nat} {l1 : Int32} {l2 : Int32} {l3 : Option Nat} {σ : hw_S} {τ : hw_S} (hm : m5_init x0 l1 l2 l3 σ = some τ) : Met l yX5_init (Cond.code yX5_init cX5_init 4 none :: wsL_law) rm5_init (hw_P1 D b σ [hw_vr b (some x0), .int l1, .int l2, hw_vr b l3]) (hw_QV D b τ) 3 340 (fun q => b ≤ q) := by
  refine hw_start1 (by decide +kernel) (by cases l3 <;> exact Nat.le_of_ble_eq_true rfl) ?_
  intro p e s m below meth c ls C0 hR hS hl
  have hl : lv_has ls 4 [(0, hw_vr b (some x0)), (1, .int l1), (2, .int l2), (3, hw_vr b l3)] := by cases l3 <;> exact hl
  exact w5_init_s hm C0 hR hS ⟨hl, (List.forall_mem_cons.mpr ⟨(fun h => by rw [show (hw_vr b (some x0) : Value).category = 1 from (hw_vr_cat _ _)] at h; cases h), (List.forall_mem_cons.mpr ⟨(fun h => absurd (show (1 : Nat) = 2 from h) (by decide)), (List.forall_mem_cons.mpr ⟨(fun h => absurd (show (1 : Nat) = 2 from h) (by decide)), (List.forall_mem_cons.mpr ⟨(fun h => by rw [show (hw_vr b l3 : Value).category = 1 from (hw_vr_cat _ _)] at h; cases h), (fun _ h => absurd h List.not_mem_nil)⟩)⟩)⟩)⟩)⟩

abbrev rm11_lawOfKind : Room := { frames := 5, cells := 4, slots := 348, locals := 154 }
def m11_lawOfKind (x0 : Nat) (l1 : Int32) (l2 : Int32) (l3 : Int32) (σ : hw_S) : Option (Option Nat × hw_S) :=
  (if l1 = 1 then
  hw_b2 (hw_nwO 8 0 σ) fun v40 σ40 =>
  (hw_gP (hw_q 11) 3 (some x0) σ40).bind fun v47 =>
  (m7_init v40 l2 l3 v47 σ40).bind fun σ50 =>
  some ((some v40), σ50)
  else
  (if l1 = 2 then
  hw_b2 (hw_nwO 3 0 σ) fun v54 σ54 =>
  (hw_gP (hw_q 11) 3 (some x0) σ54).bind fun v62 =>
  (m2_init v54 (2 : Int32) l2 l3 v62 σ54).bind fun σ65 =>
  some ((some v54), σ65)
  else
  (if l1 = 3 then
  hw_b2 (hw_nwO 2 0 σ) fun v69 σ69 =>
  (hw_gP (hw_q 11) 3 (some x0) σ69).bind fun v77 =>
  (m1_init v69 (3 : Int32) l2 l3 v77 σ69).bind fun σ80 =>
  some ((some v69), σ80)
  else
  (if l1 = 4 then
  hw_b2 (hw_nwO 1 0 σ) fun v84 σ84 =>
  (hw_gP (hw_q 11) 3 (some x0) σ84).bind fun v91 =>
  (m0_init v84 l2 l3 v91 σ84).bind fun σ94 =>
  some ((some v84), σ94)
  else
  (if l1 = 5 then
  hw_b2 (hw_nwO 7 0 σ) fun v98 σ98 =>
  (hw_gP (hw_q 11) 3 (some x0) σ98).bind fun v105 =>
  (m6_init v98 l2 l3 v105 σ98).bind fun σ108 =>
  some ((some v98), σ108)
  else
  (if l1 = 6 then
  hw_b2 (hw_nwO 6 0 σ) fun v112 σ112 =>
  (hw_gP (hw_q 11) 3 (some x0) σ112).bind fun v119 =>
  (m5_init v112 l2 l3 v119 σ112).bind fun σ122 =>
  some ((some v112), σ122)
  else
  hw_b2 (hw_nwO 4 0 σ) fun v126 σ126 =>
  (hw_gP (hw_q 11) 3 (some x0) σ126).bind fun v134 =>
  (m3_init v126 (0 : Int32) l2 l3 v134 σ126).bind fun σ137 =>
  some ((some v126), σ137)))))))
set_option maxRecDepth 100000 in
theorem w11_lawOfKind_s {p : Program} {l : Launch} {e : Env} {s : State} {m : MethodId} {args : Array Value} {below : List Frame} {meth : Method} {c : Code} {D : hw_D} {b : Nat} {x0 : Nat} {l1 : Int32} {l2 : Int32} {l3 : Int32} {σ : hw_S} {r : Option Nat} {τ : hw_S} {H : Heap} {locs : List Loc} (hm : m11_lawOfKind x0 l1 l2 l3 σ = some (r, τ)) (C0 : hw_C p s m args meth c D yX11_lawOfKind cX11_lawOfKind 4 (some (.object "HoneyWinds$Laying"))) (hR : hw_R D b σ H) (hS : va_S (fun q => b ≤ q) s.heap H locs) {ls : Array Slot} (hl : hw_L ls 4 255 [(0, hw_vr b (some x0)), (1, .int l1), (2, .int l2), (3, .int l3)]) : W p l e rm11_lawOfKind s m args below meth c H locs 0 0 (MQ below (hw_QP D b τ r) args s 4 348 (fun q => b ≤ q)) (F0 m 0 ls []) := by
  obtain ⟨hx, hb, hml, hr, hown, hts, hlk, hE, hnm⟩ := id C0
  have hown : s.vm.findClass RX11 = some m.cls := hown
  have hK := hE.1
  unfold m11_lawOfKind at hm
  refine lv_iload_n hx hb dX11_lawOfKind_0 rfl (hl.at 1 rfl) ?_
  refine hw_case l1 (1) (fun c1_0 => ?_) (fun c1_0 => ?_)
  · have hm := hw_ip hm c1_0
    refine lv_tableIn (off := 39) (tgt := 40) hx hb dX11_lawOfKind_1 (by rw [c1_0]; decide) (by rw [c1_0]; decide) (by rw [c1_0]; rfl) (by decide) ?_
    obtain ⟨v40, σ40, e40, hm⟩ := hw_bs2 hm
    refine hw_newO (ci := 7) (N := 8) (C := RX7) (T := TX7) (ty := tyX7) hx hb rfl (by decide) inlX7 rfl tyX7_ok (hw_df7) hts hown hK hR hS (hts _ hw_m265) (hts _ hw_m266) (hts _ hw_m267) e40 (Nat.le_of_ble_eq_true rfl) (Nat.le_of_ble_eq_true rfl) dX11_lawOfKind_40 (fun _ hR hS => ?_)
    refine lv_dup hx hb dX11_lawOfKind_43 (hw_vr_cat _ _) ?_
    refine lv_iload_n hx hb dX11_lawOfKind_44 rfl (hl.at 2 rfl) ?_
    refine lv_iload_n hx hb dX11_lawOfKind_45 rfl (hl.at 3 rfl) ?_
    refine hw_aload_n hx hb dX11_lawOfKind_46 rfl (hl.at 0 rfl) ?_
    obtain ⟨v47, e47, hm⟩ := hw_bs hm
    refine hw_getP hx hb hw_cf11 hts hown hK hR e47 (by decide) rfl (hts _ hw_m22) (fun _ h9 => h9) dX11_lawOfKind_47 ?_
    obtain ⟨σ50, e50, hm⟩ := hw_bs hm
    refine hw_cWV (va_runI (As := [.int l2, .int l3, hw_vr b v47]) (rest := [hw_vr b (some v40)]) ⟨hx, hb, hml, hown, hts⟩ (c7_init l D b e50) (cwI 3 hts (hw_gC hw_m288) rfl rfl rfl (hts _ hw_m267) (hts _ hw_m286) (hts _ hw_m287) rfl (by decide +kernel) ⟨(Nat.le_of_ble_eq_true rfl), (Nat.le_of_ble_eq_true rfl)⟩) (hw_pre1 hE hR) rfl rfl hl.sz rfl (lv_room (hw_sm (List.forall_mem_cons.mpr ⟨(hw_vr_cat _ _), (fun _ h => absurd h List.not_mem_nil)⟩) (Nat.le_of_ble_eq_true rfl))) dX11_lawOfKind_50 ⟨(Nat.le_of_ble_eq_true rfl), (Nat.le_of_ble_eq_true rfl)⟩) hS (fun _ _ hR hS => ?_)
    exact hw_rWP hx hb hr (Or.inl ⟨_, rfl⟩) hlk hR hS hm dX11_lawOfKind_53
  · have hm := hw_in hm c1_0
    refine hw_case l1 (2) (fun c1_1 => ?_) (fun c1_1 => ?_)
    · have hm := hw_ip hm c1_1
      refine lv_tableIn (off := 53) (tgt := 54) hx hb dX11_lawOfKind_1 (by rw [c1_1]; decide) (by rw [c1_1]; decide) (by rw [c1_1]; rfl) (by decide) ?_
      obtain ⟨v54, σ54, e54, hm⟩ := hw_bs2 hm
      refine hw_newO (ci := 2) (N := 8) (C := RX2) (T := TX2) (ty := tyX2) hx hb rfl (by decide) inlX2 rfl tyX2_ok (hw_df2) hts hown hK hR hS (hts _ hw_m268) (hts _ hw_m269) (hts _ hw_m270) e54 (Nat.le_of_ble_eq_true rfl) (Nat.le_of_ble_eq_true rfl) dX11_lawOfKind_54 (fun _ hR hS => ?_)
      refine lv_dup hx hb dX11_lawOfKind_57 (hw_vr_cat _ _) ?_
      refine lv_iconst (v := 2) hx hb dX11_lawOfKind_58 (by decide) ?_
      refine lv_iload_n hx hb dX11_lawOfKind_59 rfl (hl.at 2 rfl) ?_
      refine lv_iload_n hx hb dX11_lawOfKind_60 rfl (hl.at 3 rfl) ?_
      refine hw_aload_n hx hb dX11_lawOfKind_61 rfl (hl.at 0 rfl) ?_
      obtain ⟨v62, e62, hm⟩ := hw_bs hm
      refine hw_getP hx hb hw_cf11 hts hown hK hR e62 (by decide) rfl (hts _ hw_m22) (fun _ h9 => h9) dX11_lawOfKind_62 ?_
      obtain ⟨σ65, e65, hm⟩ := hw_bs hm
      refine hw_cWV (va_runI (As := [.int (2 : Int32), .int l2, .int l3, hw_vr b v62]) (rest := [hw_vr b (some v54)]) ⟨hx, hb, hml, hown, hts⟩ (c2_init l D b e65) (cwI 4 hts (hw_gC hw_m335) rfl rfl rfl (hts _ hw_m270) (hts _ hw_m333) (hts _ hw_m334) rfl (by decide +kernel) ⟨(Nat.le_of_ble_eq_true rfl), (Nat.le_of_ble_eq_true rfl)⟩) (hw_pre1 hE hR) rfl rfl hl.sz rfl (lv_room (hw_sm (List.forall_mem_cons.mpr ⟨(hw_vr_cat _ _), (fun _ h => absurd h List.not_mem_nil)⟩) (Nat.le_of_ble_eq_true rfl))) dX11_lawOfKind_65 ⟨(Nat.le_of_ble_eq_true rfl), (Nat.le_of_ble_eq_true rfl)⟩) hS (fun _ _ hR hS => ?_)
      exact hw_rWP hx hb hr (Or.inl ⟨_, rfl⟩) hlk hR hS hm dX11_lawOfKind_68
    · have hm := hw_in hm c1_1
      refine hw_case l1 (3) (fun c1_2 => ?_) (fun c1_2 => ?_)
      · have hm := hw_ip hm c1_2
        refine lv_tableIn (off := 68) (tgt := 69) hx hb dX11_lawOfKind_1 (by rw [c1_2]; decide) (by rw [c1_2]; decide) (by rw [c1_2]; rfl) (by decide) ?_
        obtain ⟨v69, σ69, e69, hm⟩ := hw_bs2 hm
        refine hw_newO (ci := 1) (N := 8) (C := RX1) (T := TX1) (ty := tyX1) hx hb rfl (by decide) inlX1 rfl tyX1_ok (hw_df1) hts hown hK hR hS (hts _ hw_m271) (hts _ hw_m272) (hts _ hw_m273) e69 (Nat.le_of_ble_eq_true rfl) (Nat.le_of_ble_eq_true rfl) dX11_lawOfKind_69 (fun _ hR hS => ?_)
        refine lv_dup hx hb dX11_lawOfKind_72 (hw_vr_cat _ _) ?_
        refine lv_iconst (v := 3) hx hb dX11_lawOfKind_73 (by decide) ?_
        refine lv_iload_n hx hb dX11_lawOfKind_74 rfl (hl.at 2 rfl) ?_
        refine lv_iload_n hx hb dX11_lawOfKind_75 rfl (hl.at 3 rfl) ?_
        refine hw_aload_n hx hb dX11_lawOfKind_76 rfl (hl.at 0 rfl) ?_
        obtain ⟨v77, e77, hm⟩ := hw_bs hm
        refine hw_getP hx hb hw_cf11 hts hown hK hR e77 (by decide) rfl (hts _ hw_m22) (fun _ h9 => h9) dX11_lawOfKind_77 ?_
        obtain ⟨σ80, e80, hm⟩ := hw_bs hm
        refine hw_cWV (va_runI (As := [.int (3 : Int32), .int l2, .int l3, hw_vr b v77]) (rest := [hw_vr b (some v69)]) ⟨hx, hb, hml, hown, hts⟩ (c1_init l D b e80) (cwI 4 hts (hw_gC hw_m339) rfl rfl rfl (hts _ hw_m273) (hts _ hw_m337) (hts _ hw_m338) rfl (by decide +kernel) ⟨(Nat.le_of_ble_eq_true rfl), (Nat.le_of_ble_eq_true rfl)⟩) (hw_pre1 hE hR) rfl rfl hl.sz rfl (lv_room (hw_sm (List.forall_mem_cons.mpr ⟨(hw_vr_cat _ _), (fun _ h => absurd h List.not_mem_nil)⟩) (Nat.le_of_ble_eq_true rfl))) dX11_lawOfKind_80 ⟨(Nat.le_of_ble_eq_true rfl), (Nat.le_of_ble_eq_true rfl)⟩) hS (fun _ _ hR hS => ?_)
        exact hw_rWP hx hb hr (Or.inl ⟨_, rfl⟩) hlk hR hS hm dX11_lawOfKind_83
      · have hm := hw_in hm c1_2
        refine hw_case l1 (4) (fun c1_3 => ?_) (fun c1_3 => ?_)
        · have hm := hw_ip hm c1_3
          refine lv_tableIn (off := 83) (tgt := 84) hx hb dX11_lawOfKind_1 (by rw [c1_3]; decide) (by rw [c1_3]; decide) (by rw [c1_3]; rfl) (by decide) ?_
          obtain ⟨v84, σ84, e84, hm⟩ := hw_bs2 hm
          refine hw_newO (ci := 0) (N := 8) (C := RX0) (T := TX0) (ty := tyX0) hx hb rfl (by decide) inlX0 rfl tyX0_ok (hw_df0) hts hown hK hR hS (hts _ hw_m274) (hts _ hw_m275) (hts _ hw_m276) e84 (Nat.le_of_ble_eq_true rfl) (Nat.le_of_ble_eq_true rfl) dX11_lawOfKind_84 (fun _ hR hS => ?_)
          refine lv_dup hx hb dX11_lawOfKind_87 (hw_vr_cat _ _) ?_
          refine lv_iload_n hx hb dX11_lawOfKind_88 rfl (hl.at 2 rfl) ?_
          refine lv_iload_n hx hb dX11_lawOfKind_89 rfl (hl.at 3 rfl) ?_
          refine hw_aload_n hx hb dX11_lawOfKind_90 rfl (hl.at 0 rfl) ?_
          obtain ⟨v91, e91, hm⟩ := hw_bs hm
          refine hw_getP hx hb hw_cf11 hts hown hK hR e91 (by decide) rfl (hts _ hw_m22) (fun _ h9 => h9) dX11_lawOfKind_91 ?_
          obtain ⟨σ94, e94, hm⟩ := hw_bs hm
          refine hw_cWV (va_runI (As := [.int l2, .int l3, hw_vr b v91]) (rest := [hw_vr b (some v84)]) ⟨hx, hb, hml, hown, hts⟩ (c0_init l D b e94) (cwI 3 hts (hw_gC hw_m343) rfl rfl rfl (hts _ hw_m276) (hts _ hw_m341) (hts _ hw_m342) rfl (by decide +kernel) ⟨(Nat.le_of_ble_eq_true rfl), (Nat.le_of_ble_eq_true rfl)⟩) (hw_pre1 hE hR) rfl rfl hl.sz rfl (lv_room (hw_sm (List.forall_mem_cons.mpr ⟨(hw_vr_cat _ _), (fun _ h => absurd h List.not_mem_nil)⟩) (Nat.le_of_ble_eq_true rfl))) dX11_lawOfKind_94 ⟨(Nat.le_of_ble_eq_true rfl), (Nat.le_of_ble_eq_true rfl)⟩) hS (fun _ _ hR hS => ?_)
          exact hw_rWP hx hb hr (Or.inl ⟨_, rfl⟩) hlk hR hS hm dX11_lawOfKind_97
        · have hm := hw_in hm c1_3
          refine hw_case l1 (5) (fun c1_4 => ?_) (fun c1_4 => ?_)
          · have hm := hw_ip hm c1_4
            refine lv_tableIn (off := 97) (tgt := 98) hx hb dX11_lawOfKind_1 (by rw [c1_4]; decide) (by rw [c1_4]; decide) (by rw [c1_4]; rfl) (by decide) ?_
            obtain ⟨v98, σ98, e98, hm⟩ := hw_bs2 hm
            refine hw_newO (ci := 6) (N := 8) (C := RX6) (T := TX6) (ty := tyX6) hx hb rfl (by decide) inlX6 rfl tyX6_ok (hw_df6) hts hown hK hR hS (hts _ hw_m277) (hts _ hw_m278) (hts _ hw_m279) e98 (Nat.le_of_ble_eq_true rfl) (Nat.le_of_ble_eq_true rfl) dX11_lawOfKind_98 (fun _ hR hS => ?_)
            refine lv_dup hx hb dX11_lawOfKind_101 (hw_vr_cat _ _) ?_
            refine lv_iload_n hx hb dX11_lawOfKind_102 rfl (hl.at 2 rfl) ?_
            refine lv_iload_n hx hb dX11_lawOfKind_103 rfl (hl.at 3 rfl) ?_
            refine hw_aload_n hx hb dX11_lawOfKind_104 rfl (hl.at 0 rfl) ?_
            obtain ⟨v105, e105, hm⟩ := hw_bs hm
            refine hw_getP hx hb hw_cf11 hts hown hK hR e105 (by decide) rfl (hts _ hw_m22) (fun _ h9 => h9) dX11_lawOfKind_105 ?_
            obtain ⟨σ108, e108, hm⟩ := hw_bs hm
            refine hw_cWV (va_runI (As := [.int l2, .int l3, hw_vr b v105]) (rest := [hw_vr b (some v98)]) ⟨hx, hb, hml, hown, hts⟩ (c6_init l D b e108) (cwI 3 hts (hw_gC hw_m347) rfl rfl rfl (hts _ hw_m279) (hts _ hw_m345) (hts _ hw_m346) rfl (by decide +kernel) ⟨(Nat.le_of_ble_eq_true rfl), (Nat.le_of_ble_eq_true rfl)⟩) (hw_pre1 hE hR) rfl rfl hl.sz rfl (lv_room (hw_sm (List.forall_mem_cons.mpr ⟨(hw_vr_cat _ _), (fun _ h => absurd h List.not_mem_nil)⟩) (Nat.le_of_ble_eq_true rfl))) dX11_lawOfKind_108 ⟨(Nat.le_of_ble_eq_true rfl), (Nat.le_of_ble_eq_true rfl)⟩) hS (fun _ _ hR hS => ?_)
            exact hw_rWP hx hb hr (Or.inl ⟨_, rfl⟩) hlk hR hS hm dX11_lawOfKind_111
          · have hm := hw_in hm c1_4
            refine hw_case l1 (6) (fun c1_5 => ?_) (fun c1_5 => ?_)
            · have hm := hw_ip hm c1_5
              refine lv_tableIn (off := 111) (tgt := 112) hx hb dX11_lawOfKind_1 (by rw [c1_5]; decide) (by rw [c1_5]; decide) (by rw [c1_5]; rfl) (by decide) ?_
              obtain ⟨v112, σ112, e112, hm⟩ := hw_bs2 hm
              refine hw_newO (ci := 5) (N := 8) (C := RX5) (T := TX5) (ty := tyX5) hx hb rfl (by decide) inlX5 rfl tyX5_ok (hw_df5) hts hown hK hR hS (hts _ hw_m280) (hts _ hw_m281) (hts _ hw_m282) e112 (Nat.le_of_ble_eq_true rfl) (Nat.le_of_ble_eq_true rfl) dX11_lawOfKind_112 (fun _ hR hS => ?_)
              refine lv_dup hx hb dX11_lawOfKind_115 (hw_vr_cat _ _) ?_
              refine lv_iload_n hx hb dX11_lawOfKind_116 rfl (hl.at 2 rfl) ?_
              refine lv_iload_n hx hb dX11_lawOfKind_117 rfl (hl.at 3 rfl) ?_
              refine hw_aload_n hx hb dX11_lawOfKind_118 rfl (hl.at 0 rfl) ?_
              obtain ⟨v119, e119, hm⟩ := hw_bs hm
              refine hw_getP hx hb hw_cf11 hts hown hK hR e119 (by decide) rfl (hts _ hw_m22) (fun _ h9 => h9) dX11_lawOfKind_119 ?_
              obtain ⟨σ122, e122, hm⟩ := hw_bs hm
              refine hw_cWV (va_runI (As := [.int l2, .int l3, hw_vr b v119]) (rest := [hw_vr b (some v112)]) ⟨hx, hb, hml, hown, hts⟩ (c5_init l D b e122) (cwI 3 hts (hw_gC hw_m351) rfl rfl rfl (hts _ hw_m282) (hts _ hw_m349) (hts _ hw_m350) rfl (by decide +kernel) ⟨(Nat.le_of_ble_eq_true rfl), (Nat.le_of_ble_eq_true rfl)⟩) (hw_pre1 hE hR) rfl rfl hl.sz rfl (lv_room (hw_sm (List.forall_mem_cons.mpr ⟨(hw_vr_cat _ _), (fun _ h => absurd h List.not_mem_nil)⟩) (Nat.le_of_ble_eq_true rfl))) dX11_lawOfKind_122 ⟨(Nat.le_of_ble_eq_true rfl), (Nat.le_of_ble_eq_true rfl)⟩) hS (fun _ _ hR hS => ?_)
              exact hw_rWP hx hb hr (Or.inl ⟨_, rfl⟩) hlk hR hS hm dX11_lawOfKind_125
            · have hm := hw_in hm c1_5
              refine lv_tableOut (tgt := 126) hx hb dX11_lawOfKind_1 (by have h0 := hw_ne (1) c1_0 rfl; have h1 := hw_ne (2) c1_1 rfl; have h2 := hw_ne (3) c1_2 rfl; have h3 := hw_ne (4) c1_3 rfl; have h4 := hw_ne (5) c1_4 rfl; have h5 := hw_ne (6) c1_5 rfl; omega) (by decide) ?_
              obtain ⟨v126, σ126, e126, hm⟩ := hw_bs2 hm
              refine hw_newO (ci := 3) (N := 8) (C := RX3) (T := TX3) (ty := tyX3) hx hb rfl (by decide) inlX3 rfl tyX3_ok (hw_df3) hts hown hK hR hS (hts _ hw_m283) (hts _ hw_m284) (hts _ hw_m285) e126 (Nat.le_of_ble_eq_true rfl) (Nat.le_of_ble_eq_true rfl) dX11_lawOfKind_126 (fun _ hR hS => ?_)
              refine lv_dup hx hb dX11_lawOfKind_129 (hw_vr_cat _ _) ?_
              refine lv_iconst (v := 0) hx hb dX11_lawOfKind_130 (by decide) ?_
              refine lv_iload_n hx hb dX11_lawOfKind_131 rfl (hl.at 2 rfl) ?_
              refine lv_iload_n hx hb dX11_lawOfKind_132 rfl (hl.at 3 rfl) ?_
              refine hw_aload_n hx hb dX11_lawOfKind_133 rfl (hl.at 0 rfl) ?_
              obtain ⟨v134, e134, hm⟩ := hw_bs hm
              refine hw_getP hx hb hw_cf11 hts hown hK hR e134 (by decide) rfl (hts _ hw_m22) (fun _ h9 => h9) dX11_lawOfKind_134 ?_
              obtain ⟨σ137, e137, hm⟩ := hw_bs hm
              refine hw_cWV (va_runI (As := [.int (0 : Int32), .int l2, .int l3, hw_vr b v134]) (rest := [hw_vr b (some v126)]) ⟨hx, hb, hml, hown, hts⟩ (c3_init l D b e137) (cwI 4 hts (hw_gC hw_m291) rfl rfl rfl (hts _ hw_m285) (hts _ hw_m353) (hts _ hw_m290) rfl (by decide +kernel) ⟨(Nat.le_of_ble_eq_true rfl), (Nat.le_of_ble_eq_true rfl)⟩) (hw_pre1 hE hR) rfl rfl hl.sz rfl (lv_room (hw_sm (List.forall_mem_cons.mpr ⟨(hw_vr_cat _ _), (fun _ h => absurd h List.not_mem_nil)⟩) (Nat.le_of_ble_eq_true rfl))) dX11_lawOfKind_137 ⟨(Nat.le_of_ble_eq_true rfl), (Nat.le_of_ble_eq_true rfl)⟩) hS (fun _ _ hR hS => ?_)
              exact hw_rWP hx hb hr (Or.inl ⟨_, rfl⟩) hlk hR hS hm dX11_lawOfKind_140
set_option maxRecDepth 100000 in
theorem c11_lawOfKind (l : Launch) (D : hw_D) (b : Nat) {x0 : Nat} {l1 : Int32} {l2 : Int32} {l3 : Int32} {σ : hw_S} {r : Option Nat} {τ : hw_S} (hm : m11_lawOfKind x0 l1 l2 l3 σ = some (r, τ)) : Met l yX11_lawOfKind (Cond.code yX11_lawOfKind cX11_lawOfKind 4 (some (.object "HoneyWinds$Laying")) :: wsL_law) rm11_lawOfKind (hw_P1 D b σ [hw_vr b (some x0), .int l1, .int l2, .int l3]) (hw_QP D b τ r) 4 348 (fun q => b ≤ q) := by
  refine hw_start1 (by decide +kernel) (by exact Nat.le_of_ble_eq_true rfl) ?_
  intro p e s m below meth c ls C0 hR hS hl
  have hl : lv_has ls 4 [(0, hw_vr b (some x0)), (1, .int l1), (2, .int l2), (3, .int l3)] := by exact hl
  exact w11_lawOfKind_s hm C0 hR hS ⟨hl, (List.forall_mem_cons.mpr ⟨(fun h => by rw [show (hw_vr b (some x0) : Value).category = 1 from (hw_vr_cat _ _)] at h; cases h), (List.forall_mem_cons.mpr ⟨(fun h => absurd (show (1 : Nat) = 2 from h) (by decide)), (List.forall_mem_cons.mpr ⟨(fun h => absurd (show (1 : Nat) = 2 from h) (by decide)), (List.forall_mem_cons.mpr ⟨(fun h => absurd (show (1 : Nat) = 2 from h) (by decide)), (fun _ h => absurd h List.not_mem_nil)⟩)⟩)⟩)⟩)⟩

abbrev rm11_law : Room := { frames := 38, cells := 4, slots := 348, locals := 812 }
def m11_law (x0 : Nat) (l1 : Int32) (l2 : Int32) (σ : hw_S) : Option (Int32 × hw_S) :=
  (m11_isWithin l1 (0 : Int32) (6 : Int32)).bind fun v4 =>
  (if v4 = 0 then
  some (((-1) : Int32), σ)
  else
  (m11_isWithin l2 (1 : Int32) (9 : Int32)).bind fun v16 =>
  (if v16 = 0 then
  some (((-2) : Int32), σ)
  else
  (hw_gP (hw_q 11) 0 (some x0) σ).bind fun v26 =>
  (hw_gI (hw_q 8) 3 v26 σ).bind fun v29 =>
  (if v29 < (8 : Int32) then
  (hw_gP (hw_q 11) 0 (some x0) σ).bind fun v41 =>
  (hw_gI (hw_q 8) 5 v41 σ).bind fun v44 =>
  (hw_gP (hw_q 11) 0 (some x0) σ).bind fun v49 =>
  (hw_pI (hw_q 8) 5 v49 (0 : Int32) σ).bind fun σ53 =>
  (hw_gP (hw_q 11) 3 (some x0) σ53).bind fun v57 =>
  (hw_gP (hw_q 11) 0 (some x0) σ53).bind fun v61 =>
  (hw_gP (hw_q 8) 4 v61 σ53).bind fun v64 =>
  (hw_rv (hw_q 4) v57 σ53).bind fun a68 =>
  hw_b2 (m4_isLaw a68 v64 v44 σ53) fun v68 σ68 =>
  (if v68 = 0 then
  (hw_gP (hw_q 11) 3 (some x0) σ68).bind fun v77 =>
  (hw_gI (hw_q 4) 2 v77 σ68).bind fun v80 =>
  some ((((-10) : Int32) - v80), σ68)
  else
  (hw_gP (hw_q 11) 0 (some x0) σ68).bind fun v86 =>
  (hw_gP (hw_q 8) 2 v86 σ68).bind fun v89 =>
  (hw_gP (hw_q 11) 0 (some x0) σ68).bind fun v93 =>
  (hw_gI (hw_q 8) 3 v93 σ68).bind fun v96 =>
  (hw_gP (hw_q 11) 0 (some x0) σ68).bind fun v102 =>
  (hw_gI (hw_q 8) 3 v102 σ68).bind fun v105 =>
  (hw_rv (hw_q 11) (some x0) σ68).bind fun a109 =>
  hw_b2 (m11_lawOfKind x0 l1 v105 l2 σ68) fun v109 σ109 =>
  (hw_sP 2 v89 v96 v109 σ109).bind fun σ112 =>
  (hw_gP (hw_q 11) 0 (some x0) σ112).bind fun v114 =>
  (hw_gI (hw_q 8) 3 v114 σ112).bind fun v118 =>
  (hw_pI (hw_q 8) 3 v114 (v118 + (1 : Int32)) σ112).bind fun σ124 =>
  some (v118, σ124))
  else
  some (((-4) : Int32), σ))))
set_option maxRecDepth 100000 in
theorem w11_law_s {p : Program} {l : Launch} {e : Env} {s : State} {m : MethodId} {args : Array Value} {below : List Frame} {meth : Method} {c : Code} {D : hw_D} {b : Nat} {g : hw_Sd} {x0 : Nat} {l1 : Int32} {l2 : Int32} {σ : hw_S} {r : Int32} {τ : hw_S} {H : Heap} {locs : List Loc} (hm : m11_law x0 l1 l2 σ = some (r, τ)) (C0 : hw_C p s m args meth c D yX11_law cX11_law 4 (some .int)) (hG : hw_G g b s s.heap) (hR : hw_R D b σ H) (hS : va_S (fun q => b ≤ q) s.heap H locs) {ls : Array Slot} (hl : hw_L ls 4 255 [(0, hw_vr b (some x0)), (1, .int l1), (2, .int l2)]) : W p l e rm11_law s m args below meth c H locs 0 0 (MQ below (hw_QI D b τ r) args s 4 348 (fun q => b ≤ q)) (F0 m 0 ls []) := by
  obtain ⟨hx, hb, hml, hr, hown, hts, hlk, hE, hnm⟩ := id C0
  have hown : s.vm.findClass RX11 = some m.cls := hown
  have hK := hE.1
  unfold m11_law at hm
  refine lv_iload_n hx hb dX11_law_0 rfl (hl.at 1 rfl) ?_
  refine lv_iconst (v := 0) hx hb dX11_law_1 (by decide) ?_
  refine lv_bipush (v := 6) hx hb dX11_law_2 (by decide) ?_
  obtain ⟨v4, e4, hm⟩ := hw_bs hm
  refine hw_cRI (va_runS (As := [.int l1, .int (0 : Int32), .int (6 : Int32)]) (rest := []) ⟨hx, hb, hml, hown, hts⟩ (c11_isWithin l D e4) (cwS 3 hts (hw_gS hw_m99 hw_m100 hw_m2 hw_m101) rfl rfl rfl (by decide +kernel) ⟨(Nat.le_of_ble_eq_true rfl), (Nat.le_of_ble_eq_true rfl)⟩) (hw_pre0 hE) rfl rfl hl.sz rfl (lv_room (Nat.le_of_ble_eq_true rfl)) dX11_law_4 ⟨(Nat.le_of_ble_eq_true rfl), (Nat.le_of_ble_eq_true rfl)⟩) ?_
  refine lv_if_ne (tgt := 12) hx hb dX11_law_7 (by decide) (fun c7 => ?_) (fun c7 => ?_)
  · have hm := hw_in hm c7
    refine lv_iload_n hx hb dX11_law_12 rfl (hl.at 2 rfl) ?_
    refine lv_iconst (v := 1) hx hb dX11_law_13 (by decide) ?_
    refine lv_bipush (v := 9) hx hb dX11_law_14 (by decide) ?_
    obtain ⟨v16, e16, hm⟩ := hw_bs hm
    refine hw_cRI (va_runS (As := [.int l2, .int (1 : Int32), .int (9 : Int32)]) (rest := []) ⟨hx, hb, hml, hown, hts⟩ (c11_isWithin l D e16) (cwS 3 hts (hw_gS hw_m99 hw_m100 hw_m2 hw_m101) rfl rfl rfl (by decide +kernel) ⟨(Nat.le_of_ble_eq_true rfl), (Nat.le_of_ble_eq_true rfl)⟩) (hw_pre0 hE) rfl rfl hl.sz rfl (lv_room (Nat.le_of_ble_eq_true rfl)) dX11_law_16 ⟨(Nat.le_of_ble_eq_true rfl), (Nat.le_of_ble_eq_true rfl)⟩) ?_
    refine lv_if_ne (tgt := 25) hx hb dX11_law_19 (by decide) (fun c19 => ?_) (fun c19 => ?_)
    · have hm := hw_in hm c19
      refine hw_aload_n hx hb dX11_law_25 rfl (hl.at 0 rfl) ?_
      obtain ⟨v26, e26, hm⟩ := hw_bs hm
      refine hw_getP hx hb hw_cf11 hts hown hK hR e26 (by decide) rfl (hts _ hw_m16) (fun _ h9 => h9) dX11_law_26 ?_
      obtain ⟨v29, e29, hm⟩ := hw_bs hm
      refine hw_getI hx hb hw_cf8 hts hown hK hR e29 (by decide) rfl (hts _ hw_m148) (fun _ h9 => h9) dX11_law_29 ?_
      refine lv_bipush (v := 8) hx hb dX11_law_32 (by decide) ?_
      refine lv_icmp_lt (tgt := 40) hx hb dX11_law_34 (by decide) (fun c34 => ?_) (fun c34 => ?_)
      · have hm := hw_ip hm c34
        refine hw_aload_n hx hb dX11_law_40 rfl (hl.at 0 rfl) ?_
        obtain ⟨v41, e41, hm⟩ := hw_bs hm
        refine hw_getP hx hb hw_cf11 hts hown hK hR e41 (by decide) rfl (hts _ hw_m16) (fun _ h9 => h9) dX11_law_41 ?_
        obtain ⟨v44, e44, hm⟩ := hw_bs hm
        refine hw_getI hx hb hw_cf8 hts hown hK hR e44 (by decide) rfl (hts _ hw_m137) (fun _ h9 => h9) dX11_law_44 ?_
        refine hw_istore_n (lv' := [(3, .int v44), (0, hw_vr b (some x0)), (1, .int l1), (2, .int l2)]) hx hb dX11_law_47 rfl hl (by decide) (by decide) rfl (fun ls hl => ?_)
        refine hw_aload_n hx hb dX11_law_48 rfl (hl.at 1 rfl) ?_
        obtain ⟨v49, e49, hm⟩ := hw_bs hm
        refine hw_getP hx hb hw_cf11 hts hown hK hR e49 (by decide) rfl (hts _ hw_m16) (fun _ h9 => h9) dX11_law_49 ?_
        refine lv_iconst (v := 0) hx hb dX11_law_52 (by decide) ?_
        obtain ⟨σ53, e53, hm⟩ := hw_bs hm
        refine hw_putI hx hb hw_cf8 hts hown hK hR hS e53 (by decide) rfl rfl (hts _ hw_m137) (fun _ h9 => h9) (Or.inl rfl) dX11_law_53 (fun _ _ hR hS => ?_)
        refine hw_aload_n hx hb dX11_law_56 rfl (hl.at 1 rfl) ?_
        obtain ⟨v57, e57, hm⟩ := hw_bs hm
        refine hw_getP hx hb hw_cf11 hts hown hK hR e57 (by decide) rfl (hts _ hw_m22) (fun _ h9 => h9) dX11_law_57 ?_
        refine hw_aload_n hx hb dX11_law_60 rfl (hl.at 1 rfl) ?_
        obtain ⟨v61, e61, hm⟩ := hw_bs hm
        refine hw_getP hx hb hw_cf11 hts hown hK hR e61 (by decide) rfl (hts _ hw_m16) (fun _ h9 => h9) dX11_law_61 ?_
        obtain ⟨v64, e64, hm⟩ := hw_bs hm
        refine hw_getP hx hb hw_cf8 hts hown hK hR e64 (by decide) rfl (hts _ hw_m138) (fun _ h9 => h9) dX11_law_64 ?_
        refine lv_iload_n hx hb dX11_law_67 rfl (hl.at 0 rfl) ?_
        obtain ⟨a68, g68, hm⟩ := hw_bs hm
        obtain ⟨h68, ht68⟩ := hw_rv_of g68
        rw [h68]
        obtain ⟨v68, σ68, e68, hm⟩ := hw_bs2 hm
        refine hw_cWI (va_runV (As := [hw_vr b v64, .int v44]) (rest := []) ⟨hx, hb, hml, hown, hts⟩ (c4_isLaw l D g b e68) (cwV 2 hts (hw_gV hw_m151 hw_m152 hw_m153 hw_m21 hw_m154) rfl rfl rfl (by decide +kernel) ⟨(Nat.le_of_ble_eq_true rfl), (Nat.le_of_ble_eq_true rfl)⟩) (hw_preV2 (ci := 4) hE hR (hG.at hS) rfl (by decide) (hw_q_of ht68)) rfl rfl hl.sz rfl (lv_room (Nat.le_of_ble_eq_true rfl)) dX11_law_68 ⟨(Nat.le_of_ble_eq_true rfl), (Nat.le_of_ble_eq_true rfl)⟩) hS (fun _ _ hR hS => ?_)
        refine lv_if_ne (tgt := 85) hx hb dX11_law_71 (by decide) (fun c71 => ?_) (fun c71 => ?_)
        · have hm := hw_in hm c71
          refine hw_aload_n hx hb dX11_law_85 rfl (hl.at 1 rfl) ?_
          obtain ⟨v86, e86, hm⟩ := hw_bs hm
          refine hw_getP hx hb hw_cf11 hts hown hK hR e86 (by decide) rfl (hts _ hw_m16) (fun _ h9 => h9) dX11_law_86 ?_
          obtain ⟨v89, e89, hm⟩ := hw_bs hm
          refine hw_getP hx hb hw_cf8 hts hown hK hR e89 (by decide) rfl (hts _ hw_m150) (fun _ h9 => h9) dX11_law_89 ?_
          refine hw_aload_n hx hb dX11_law_92 rfl (hl.at 1 rfl) ?_
          obtain ⟨v93, e93, hm⟩ := hw_bs hm
          refine hw_getP hx hb hw_cf11 hts hown hK hR e93 (by decide) rfl (hts _ hw_m16) (fun _ h9 => h9) dX11_law_93 ?_
          obtain ⟨v96, e96, hm⟩ := hw_bs hm
          refine hw_getI hx hb hw_cf8 hts hown hK hR e96 (by decide) rfl (hts _ hw_m148) (fun _ h9 => h9) dX11_law_96 ?_
          refine hw_aload_n hx hb dX11_law_99 rfl (hl.at 1 rfl) ?_
          refine lv_iload_n hx hb dX11_law_100 rfl (hl.at 2 rfl) ?_
          refine hw_aload_n hx hb dX11_law_101 rfl (hl.at 1 rfl) ?_
          obtain ⟨v102, e102, hm⟩ := hw_bs hm
          refine hw_getP hx hb hw_cf11 hts hown hK hR e102 (by decide) rfl (hts _ hw_m16) (fun _ h9 => h9) dX11_law_102 ?_
          obtain ⟨v105, e105, hm⟩ := hw_bs hm
          refine hw_getI hx hb hw_cf8 hts hown hK hR e105 (by decide) rfl (hts _ hw_m148) (fun _ h9 => h9) dX11_law_105 ?_
          refine lv_iload_n hx hb dX11_law_108 rfl (hl.at 3 rfl) ?_
          obtain ⟨a109, g109, hm⟩ := hw_bs hm
          obtain ⟨rfl, ht109⟩ := hw_rv_th g109
          obtain ⟨v109, σ109, e109, hm⟩ := hw_bs2 hm
          refine hw_cWP (va_runV (As := [.int l1, .int v105, .int l2]) (rest := [.int v96, hw_vr b v89]) ⟨hx, hb, hml, hown, hts⟩ (c11_lawOfKind l D b e109) (cwV 3 hts (hw_gV hw_m261 hw_m262 hw_m263 hw_m2 hw_m264) rfl rfl rfl (by decide +kernel) ⟨(Nat.le_of_ble_eq_true rfl), (Nat.le_of_ble_eq_true rfl)⟩) (hw_preV (ci := 11) hE hR rfl (by decide) (hw_q_of ht109)) rfl rfl hl.sz rfl (lv_room (hw_sm (List.forall_mem_cons.mpr ⟨rfl, (List.forall_mem_cons.mpr ⟨(hw_vr_cat _ _), (fun _ h => absurd h List.not_mem_nil)⟩)⟩) (Nat.le_of_ble_eq_true rfl))) dX11_law_109 ⟨(Nat.le_of_ble_eq_true rfl), (Nat.le_of_ble_eq_true rfl)⟩) hS (fun _ _ hR hS => ?_)
          obtain ⟨σ112, e112, hm⟩ := hw_bs hm
          refine hw_aast2 hx hb hE hR hS e112 dX11_law_112 (fun _ _ hR hS => ?_)
          refine hw_aload_n hx hb dX11_law_113 rfl (hl.at 1 rfl) ?_
          obtain ⟨v114, e114, hm⟩ := hw_bs hm
          refine hw_getP hx hb hw_cf11 hts hown hK hR e114 (by decide) rfl (hts _ hw_m16) (fun _ h9 => h9) dX11_law_114 ?_
          refine lv_dup hx hb dX11_law_117 (hw_vr_cat _ _) ?_
          obtain ⟨v118, e118, hm⟩ := hw_bs hm
          refine hw_getI hx hb hw_cf8 hts hown hK hR e118 (by decide) rfl (hts _ hw_m148) (fun _ h9 => h9) dX11_law_118 ?_
          refine lv_dup_x1 hx hb dX11_law_121 rfl (hw_vr_cat _ _) ?_
          refine lv_iconst (v := 1) hx hb dX11_law_122 (by decide) ?_
          refine lv_iadd hx hb dX11_law_123 ?_
          obtain ⟨σ124, e124, hm⟩ := hw_bs hm
          refine hw_putI hx hb hw_cf8 hts hown hK hR hS e124 (by decide) rfl rfl (hts _ hw_m148) (fun _ h9 => h9) (Or.inl rfl) dX11_law_124 (fun _ _ hR hS => ?_)
          exact hw_rWI hx hb hr hlk hR hS hm dX11_law_127
        · have hm := hw_ip hm c71
          refine lv_bipush (v := (-10)) hx hb dX11_law_74 (by decide) ?_
          refine hw_aload_n hx hb dX11_law_76 rfl (hl.at 1 rfl) ?_
          obtain ⟨v77, e77, hm⟩ := hw_bs hm
          refine hw_getP hx hb hw_cf11 hts hown hK hR e77 (by decide) rfl (hts _ hw_m22) (fun _ h9 => h9) dX11_law_77 ?_
          obtain ⟨v80, e80, hm⟩ := hw_bs hm
          refine hw_getI hx hb hw_cf4 hts hown hK hR e80 (by decide) rfl (hts _ hw_m149) (fun _ h9 => h9) dX11_law_80 ?_
          refine lv_isub hx hb dX11_law_83 ?_
          refine W.widen (k := 4) (n := 348) (Nat.le_of_ble_eq_true rfl) (Nat.le_of_ble_eq_true rfl) ?_
          exact hw_rWI hx hb hr hlk hR hS hm dX11_law_84
      · have hm := hw_in hm c34
        refine lv_bipush (v := (-4)) hx hb dX11_law_37 (by decide) ?_
        refine W.widen (k := 4) (n := 348) (Nat.le_of_ble_eq_true rfl) (Nat.le_of_ble_eq_true rfl) ?_
        exact hw_rWI hx hb hr hlk hR hS hm dX11_law_39
    · have hm := hw_ip hm c19
      refine lv_bipush (v := (-2)) hx hb dX11_law_22 (by decide) ?_
      refine W.widen (k := 4) (n := 348) (Nat.le_of_ble_eq_true rfl) (Nat.le_of_ble_eq_true rfl) ?_
      exact hw_rWI hx hb hr hlk hR hS hm dX11_law_24
  · have hm := hw_ip hm c7
    refine lv_iconst (v := (-1)) hx hb dX11_law_10 (by decide) ?_
    refine W.widen (k := 4) (n := 348) (Nat.le_of_ble_eq_true rfl) (Nat.le_of_ble_eq_true rfl) ?_
    exact hw_rWI hx hb hr hlk hR hS hm dX11_law_11
set_option maxRecDepth 100000 in
theorem c11_law (l : Launch) (D : hw_D) (g : hw_Sd) (b : Nat) {x0 : Nat} {l1 : Int32} {l2 : Int32} {σ : hw_S} {r : Int32} {τ : hw_S} (hm : m11_law x0 l1 l2 σ = some (r, τ)) : Met l yX11_law (Cond.code yX11_law cX11_law 4 (some .int) :: wsL_law) rm11_law (hw_P2 D g b σ [hw_vr b (some x0), .int l1, .int l2]) (hw_QI D b τ r) 4 348 (fun q => b ≤ q) := by
  refine hw_start2 (by decide +kernel) (by exact Nat.le_of_ble_eq_true rfl) ?_
  intro p e s m below meth c ls C0 hR hS hG hl
  have hl : lv_has ls 4 [(0, hw_vr b (some x0)), (1, .int l1), (2, .int l2)] := by exact hl
  exact w11_law_s hm C0 hG hR hS ⟨hl, (List.forall_mem_cons.mpr ⟨(fun h => by rw [show (hw_vr b (some x0) : Value).category = 1 from (hw_vr_cat _ _)] at h; cases h), (List.forall_mem_cons.mpr ⟨(fun h => absurd (show (1 : Nat) = 2 from h) (by decide)), (List.forall_mem_cons.mpr ⟨(fun h => absurd (show (1 : Nat) = 2 from h) (by decide)), (fun _ h => absurd h List.not_mem_nil)⟩)⟩)⟩)⟩

abbrev rm12_here : Room := { frames := 0, cells := 0, slots := 0, locals := 0 }
def m12_here_b27 (x0 : Nat) (t0 : Int32) (σ : hw_S) : Option Int32 :=
  some t0
set_option maxRecDepth 100000 in
theorem w12_here_b27 {p : Program} {l : Launch} {e : Env} {s : State} {m : MethodId} {args : Array Value} {below : List Frame} {meth : Method} {c : Code} {D : hw_D} {b : Nat} {r : Int32} (C0 : hw_C p s m args meth c D yX12_here cX12_here 1 (some .int)) {x0 : Nat} {t0 : Int32} {σ : hw_S} (hm : m12_here_b27 x0 t0 σ = some r) (hR : hw_R D b σ s.heap) {ls : Array Slot} (hl : hw_L ls 1 255 [(0, hw_vr b (some x0))]) : W p l e rm12_here s m args below meth c s.heap [] 0 0 (MQ below (hw_RI r) args s 0 0 hw_nof) (F0 m 27 ls [.int t0]) := by
  obtain ⟨hx, hb, hml, hr, hown, hts, hlk, hE, hnm⟩ := id C0
  have hown : s.vm.findClass RX12 = some m.cls := hown
  have hK := hE.1
  unfold m12_here_b27 at hm
  exact hw_rRI hx hb hr hlk hm dX12_here_27
def m12_here (x0 : Nat) (σ : hw_S) : Option Int32 :=
  (hw_gI (hw_q 12) 5 (some x0) σ).bind fun v1 =>
  (hw_gI (hw_q 12) 6 (some x0) σ).bind fun v5 =>
  (if v5 ≤ v1 then
  m12_here_b27 x0 ((-1) : Int32) σ
  else
  (hw_gP (hw_q 12) 1 (some x0) σ).bind fun v12 =>
  (hw_gI (hw_q 12) 5 (some x0) σ).bind fun v18 =>
  (hw_aI 0 v12 ((10 : Int32) + v18) σ).bind fun v22 =>
  m12_here_b27 x0 v22 σ)
set_option maxRecDepth 100000 in
theorem w12_here_s {p : Program} {l : Launch} {e : Env} {s : State} {m : MethodId} {args : Array Value} {below : List Frame} {meth : Method} {c : Code} {D : hw_D} {b : Nat} {x0 : Nat} {σ : hw_S} {r : Int32} (hm : m12_here x0 σ = some r) (C0 : hw_C p s m args meth c D yX12_here cX12_here 1 (some .int)) (hR : hw_R D b σ s.heap) {ls : Array Slot} (hl : hw_L ls 1 255 [(0, hw_vr b (some x0))]) : W p l e rm12_here s m args below meth c s.heap [] 0 0 (MQ below (hw_RI r) args s 0 0 hw_nof) (F0 m 0 ls []) := by
  obtain ⟨hx, hb, hml, hr, hown, hts, hlk, hE, hnm⟩ := id C0
  have hown : s.vm.findClass RX12 = some m.cls := hown
  have hK := hE.1
  unfold m12_here at hm
  refine hw_aload_n hx hb dX12_here_0 rfl (hl.at 0 rfl) ?_
  obtain ⟨v1, e1, hm⟩ := hw_bs hm
  refine hw_getI hx hb hw_cf12 hts hown hK hR e1 (by decide) rfl (hts _ hw_m360) (fun _ h9 => h9) dX12_here_1 ?_
  refine hw_aload_n hx hb dX12_here_4 rfl (hl.at 0 rfl) ?_
  obtain ⟨v5, e5, hm⟩ := hw_bs hm
  refine hw_getI hx hb hw_cf12 hts hown hK hR e5 (by decide) rfl (hts _ hw_m359) (fun _ h9 => h9) dX12_here_5 ?_
  refine lv_icmp_ge (tgt := 26) hx hb dX12_here_8 (by decide) (fun c8 => ?_) (fun c8 => ?_)
  · have hm := hw_ip hm c8
    refine lv_iconst (v := (-1)) hx hb dX12_here_26 (by decide) ?_
    exact w12_here_b27 C0 hm hR (hl.sub [0] rfl)
  · have hm := hw_in hm c8
    refine hw_aload_n hx hb dX12_here_11 rfl (hl.at 0 rfl) ?_
    obtain ⟨v12, e12, hm⟩ := hw_bs hm
    refine hw_getP hx hb hw_cf12 hts hown hK hR e12 (by decide) rfl (hts _ hw_m76) (fun _ h9 => h9) dX12_here_12 ?_
    refine lv_bipush (v := 10) hx hb dX12_here_15 (by decide) ?_
    refine hw_aload_n hx hb dX12_here_17 rfl (hl.at 0 rfl) ?_
    obtain ⟨v18, e18, hm⟩ := hw_bs hm
    refine hw_getI hx hb hw_cf12 hts hown hK hR e18 (by decide) rfl (hts _ hw_m360) (fun _ h9 => h9) dX12_here_18 ?_
    refine lv_iadd hx hb dX12_here_21 ?_
    obtain ⟨v22, e22, hm⟩ := hw_bs hm
    refine hw_iald hx hb hK hR e22 dX12_here_22 ?_
    refine lv_goto (tgt := 27) hx hb dX12_here_23 (by decide) ?_
    exact w12_here_b27 C0 hm hR (hl.sub [0] rfl)
set_option maxRecDepth 100000 in
theorem c12_here (l : Launch) (D : hw_D) (b : Nat) {x0 : Nat} {σ : hw_S} {r : Int32} (hm : m12_here x0 σ = some r) : Met l yX12_here (Cond.code yX12_here cX12_here 1 (some .int) :: wsL_law) rm12_here (hw_P1 D b σ [hw_vr b (some x0)]) (hw_RI r) 0 0 hw_nof := by
  refine hw_start1 (by decide +kernel) (by exact Nat.le_of_ble_eq_true rfl) ?_
  intro p e s m below meth c ls C0 hR hS hl
  have hl : lv_has ls 1 [(0, hw_vr b (some x0))] := by exact hl
  exact w12_here_s hm C0 hR ⟨hl, (List.forall_mem_cons.mpr ⟨(fun h => by rw [show (hw_vr b (some x0) : Value).category = 1 from (hw_vr_cat _ _)] at h; cases h), (fun _ h => absurd h List.not_mem_nil)⟩)⟩

abbrev rm12_must : Room := { frames := 1, cells := 0, slots := 0, locals := 20 }
def m12_must_b41 (x0 : Nat) (t0 : Nat) (t1 : Int32) (t2 : Int32) (σ : hw_S) : Option hw_S :=
  (hw_pI (hw_q 12) 5 (some t0) (t1 + t2) σ).bind fun σ42 =>
  some σ42
set_option maxRecDepth 100000 in
theorem w12_must_b41 {p : Program} {l : Launch} {e : Env} {s : State} {m : MethodId} {args : Array Value} {below : List Frame} {meth : Method} {c : Code} {D : hw_D} {b : Nat} {τ : hw_S} (C0 : hw_C p s m args meth c D yX12_must cX12_must 2 none) {x0 : Nat} {t0 : Nat} {t1 : Int32} {t2 : Int32} {σ : hw_S} {H : Heap} {locs : List Loc} (hm : m12_must_b41 x0 t0 t1 t2 σ = some τ) (hR : hw_R D b σ H) (hS : va_S (fun q => b ≤ q) s.heap H locs) {ls : Array Slot} (hl : hw_L ls 2 255 [(0, hw_vr b (some x0))]) : W p l e rm12_must s m args below meth c H locs 0 0 (MQ below (hw_QV D b τ) args s 0 0 (fun q => b ≤ q)) (F0 m 41 ls [.int t2, .int t1, hw_vr b (some t0)]) := by
  obtain ⟨hx, hb, hml, hr, hown, hts, hlk, hE, hnm⟩ := id C0
  have hown : s.vm.findClass RX12 = some m.cls := hown
  have hK := hE.1
  unfold m12_must_b41 at hm
  refine lv_iadd hx hb dX12_must_41 ?_
  obtain ⟨σ42, e42, hm⟩ := hw_bs hm
  refine hw_putI hx hb hw_cf12 hts hown hK hR hS e42 (by decide) rfl rfl (hts _ hw_m360) (fun _ h9 => h9) (Or.inl rfl) dX12_must_42 (fun _ _ hR hS => ?_)
  exact hw_rWV hx hb hr hlk hR hS hm dX12_must_45
def m12_must_b21 (x0 : Nat) (t0 : Nat) (t1 : Int32) (σ : hw_S) : Option hw_S :=
  (hw_tf t1).bind fun _ =>
  (hw_pI (hw_q 12) 7 (some t0) t1 σ).bind fun σ21 =>
  (hw_gI (hw_q 12) 5 (some x0) σ21).bind fun v26 =>
  (hw_gI (hw_q 12) 7 (some x0) σ21).bind fun v30 =>
  (if v30 = 0 then
  m12_must_b41 x0 x0 v26 (1 : Int32) σ21
  else
  m12_must_b41 x0 x0 v26 (0 : Int32) σ21)
set_option maxRecDepth 100000 in
theorem w12_must_b21 {p : Program} {l : Launch} {e : Env} {s : State} {m : MethodId} {args : Array Value} {below : List Frame} {meth : Method} {c : Code} {D : hw_D} {b : Nat} {τ : hw_S} (C0 : hw_C p s m args meth c D yX12_must cX12_must 2 none) {x0 : Nat} {t0 : Nat} {t1 : Int32} {σ : hw_S} {H : Heap} {locs : List Loc} (hm : m12_must_b21 x0 t0 t1 σ = some τ) (hR : hw_R D b σ H) (hS : va_S (fun q => b ≤ q) s.heap H locs) {ls : Array Slot} (hl : hw_L ls 2 255 [(0, hw_vr b (some x0))]) : W p l e rm12_must s m args below meth c H locs 0 0 (MQ below (hw_QV D b τ) args s 0 0 (fun q => b ≤ q)) (F0 m 21 ls [.int t1, hw_vr b (some t0)]) := by
  obtain ⟨hx, hb, hml, hr, hown, hts, hlk, hE, hnm⟩ := id C0
  have hown : s.vm.findClass RX12 = some m.cls := hown
  have hK := hE.1
  unfold m12_must_b21 at hm
  obtain ⟨_, z21, hm⟩ := hw_bs hm
  obtain ⟨σ21, e21, hm⟩ := hw_bs hm
  refine hw_putZ hx hb hw_cf12 hts hown hK hR hS z21 e21 (by decide) rfl rfl (hts _ hw_m361) (fun _ h9 => h9) (Or.inl rfl) dX12_must_21 (fun _ _ hR hS => ?_)
  refine hw_aload_n hx hb dX12_must_24 rfl (hl.at 0 rfl) ?_
  refine lv_dup hx hb dX12_must_25 (hw_vr_cat _ _) ?_
  obtain ⟨v26, e26, hm⟩ := hw_bs hm
  refine hw_getI hx hb hw_cf12 hts hown hK hR e26 (by decide) rfl (hts _ hw_m360) (fun _ h9 => h9) dX12_must_26 ?_
  refine hw_aload_n hx hb dX12_must_29 rfl (hl.at 0 rfl) ?_
  obtain ⟨v30, e30, hm⟩ := hw_bs hm
  refine hw_getI hx hb hw_cf12 hts hown hK hR e30 (by decide) rfl (hts _ hw_m361) (fun _ h9 => h9) dX12_must_30 ?_
  refine lv_if_eq (tgt := 40) hx hb dX12_must_33 (by decide) (fun c33 => ?_) (fun c33 => ?_)
  · have hm := hw_ip hm c33
    refine lv_iconst (v := 1) hx hb dX12_must_40 (by decide) ?_
    exact w12_must_b41 C0 hm hR hS (hl.sub [0] rfl)
  · have hm := hw_in hm c33
    refine lv_iconst (v := 0) hx hb dX12_must_36 (by decide) ?_
    refine lv_goto (tgt := 41) hx hb dX12_must_37 (by decide) ?_
    exact w12_must_b41 C0 hm hR hS (hl.sub [0] rfl)
def m12_must_b16 (x0 : Nat) (t0 : Nat) (σ : hw_S) : Option hw_S :=
  m12_must_b21 x0 t0 (1 : Int32) σ
set_option maxRecDepth 100000 in
theorem w12_must_b16 {p : Program} {l : Launch} {e : Env} {s : State} {m : MethodId} {args : Array Value} {below : List Frame} {meth : Method} {c : Code} {D : hw_D} {b : Nat} {τ : hw_S} (C0 : hw_C p s m args meth c D yX12_must cX12_must 2 none) {x0 : Nat} {t0 : Nat} {σ : hw_S} {H : Heap} {locs : List Loc} (hm : m12_must_b16 x0 t0 σ = some τ) (hR : hw_R D b σ H) (hS : va_S (fun q => b ≤ q) s.heap H locs) {ls : Array Slot} (hl : hw_L ls 2 255 [(0, hw_vr b (some x0))]) : W p l e rm12_must s m args below meth c H locs 0 0 (MQ below (hw_QV D b τ) args s 0 0 (fun q => b ≤ q)) (F0 m 16 ls [hw_vr b (some t0)]) := by
  obtain ⟨hx, hb, hml, hr, hown, hts, hlk, hE, hnm⟩ := id C0
  have hown : s.vm.findClass RX12 = some m.cls := hown
  have hK := hE.1
  unfold m12_must_b16 at hm
  refine lv_iconst (v := 1) hx hb dX12_must_16 (by decide) ?_
  refine lv_goto (tgt := 21) hx hb dX12_must_17 (by decide) ?_
  exact w12_must_b21 C0 hm hR hS (hl.sub [0] rfl)
def m12_must (x0 : Nat) (l1 : Int32) (σ : hw_S) : Option hw_S :=
  (hw_gI (hw_q 12) 7 (some x0) σ).bind fun v2 =>
  (if v2 = 0 then
  (hw_rv (hw_q 12) (some x0) σ).bind fun a9 =>
  (m12_here x0 σ).bind fun v9 =>
  (if v9 = l1 then
  m12_must_b21 x0 x0 (0 : Int32) σ
  else
  m12_must_b16 x0 x0 σ)
  else
  m12_must_b16 x0 x0 σ)
set_option maxRecDepth 100000 in
theorem w12_must_s {p : Program} {l : Launch} {e : Env} {s : State} {m : MethodId} {args : Array Value} {below : List Frame} {meth : Method} {c : Code} {D : hw_D} {b : Nat} {x0 : Nat} {l1 : Int32} {σ : hw_S} {τ : hw_S} {H : Heap} {locs : List Loc} (hm : m12_must x0 l1 σ = some τ) (C0 : hw_C p s m args meth c D yX12_must cX12_must 2 none) (hR : hw_R D b σ H) (hS : va_S (fun q => b ≤ q) s.heap H locs) {ls : Array Slot} (hl : hw_L ls 2 255 [(0, hw_vr b (some x0)), (1, .int l1)]) : W p l e rm12_must s m args below meth c H locs 0 0 (MQ below (hw_QV D b τ) args s 0 0 (fun q => b ≤ q)) (F0 m 0 ls []) := by
  obtain ⟨hx, hb, hml, hr, hown, hts, hlk, hE, hnm⟩ := id C0
  have hown : s.vm.findClass RX12 = some m.cls := hown
  have hK := hE.1
  unfold m12_must at hm
  refine hw_aload_n hx hb dX12_must_0 rfl (hl.at 0 rfl) ?_
  refine hw_aload_n hx hb dX12_must_1 rfl (hl.at 0 rfl) ?_
  obtain ⟨v2, e2, hm⟩ := hw_bs hm
  refine hw_getI hx hb hw_cf12 hts hown hK hR e2 (by decide) rfl (hts _ hw_m361) (fun _ h9 => h9) dX12_must_2 ?_
  refine lv_if_ne (tgt := 16) hx hb dX12_must_5 (by decide) (fun c5 => ?_) (fun c5 => ?_)
  · have hm := hw_in hm c5
    exact w12_must_b16 C0 hm hR hS (hl.sub [0] rfl)
  · have hm := hw_ip hm c5
    refine hw_aload_n hx hb dX12_must_8 rfl (hl.at 0 rfl) ?_
    obtain ⟨a9, g9, hm⟩ := hw_bs hm
    obtain ⟨rfl, ht9⟩ := hw_rv_th g9
    obtain ⟨v9, e9, hm⟩ := hw_bs hm
    refine hw_cRI (va_runV (As := []) (rest := [hw_vr b (some x0)]) ⟨hx, hb, hml, hown, hts⟩ (c12_here l D b e9) (cwV 0 hts (hw_gV hw_m367 hw_m368 hw_m369 hw_m5 hw_m370) rfl rfl rfl (by decide +kernel) ⟨(Nat.le_of_ble_eq_true rfl), (Nat.le_of_ble_eq_true rfl)⟩) (hw_preV (ci := 12) hE hR rfl (by decide) (hw_q_of ht9)) rfl rfl hl.sz rfl (lv_room (hw_sm (List.forall_mem_cons.mpr ⟨(hw_vr_cat _ _), (fun _ h => absurd h List.not_mem_nil)⟩) (Nat.le_of_ble_eq_true rfl))) dX12_must_9 ⟨(Nat.le_of_ble_eq_true rfl), (Nat.le_of_ble_eq_true rfl)⟩) ?_
    refine lv_iload_n hx hb dX12_must_12 rfl (hl.at 1 rfl) ?_
    refine lv_icmp_eq (tgt := 20) hx hb dX12_must_13 (by decide) (fun c13 => ?_) (fun c13 => ?_)
    · have hm := hw_ip hm c13
      refine lv_iconst (v := 0) hx hb dX12_must_20 (by decide) ?_
      exact w12_must_b21 C0 hm hR hS (hl.sub [0] rfl)
    · have hm := hw_in hm c13
      exact w12_must_b16 C0 hm hR hS (hl.sub [0] rfl)
set_option maxRecDepth 100000 in
theorem c12_must (l : Launch) (D : hw_D) (b : Nat) {x0 : Nat} {l1 : Int32} {σ : hw_S} {τ : hw_S} (hm : m12_must x0 l1 σ = some τ) : Met l yX12_must (Cond.code yX12_must cX12_must 2 none :: wsL_law) rm12_must (hw_P1 D b σ [hw_vr b (some x0), .int l1]) (hw_QV D b τ) 0 0 (fun q => b ≤ q) := by
  refine hw_start1 (by decide +kernel) (by exact Nat.le_of_ble_eq_true rfl) ?_
  intro p e s m below meth c ls C0 hR hS hl
  have hl : lv_has ls 2 [(0, hw_vr b (some x0)), (1, .int l1)] := by exact hl
  exact w12_must_s hm C0 hR hS ⟨hl, (List.forall_mem_cons.mpr ⟨(fun h => by rw [show (hw_vr b (some x0) : Value).category = 1 from (hw_vr_cat _ _)] at h; cases h), (List.forall_mem_cons.mpr ⟨(fun h => absurd (show (1 : Nat) = 2 from h) (by decide)), (fun _ h => absurd h List.not_mem_nil)⟩)⟩)⟩

abbrev rm12_spells : Room := { frames := 4, cells := 0, slots := 0, locals := 87 }
def m12_spells_b2 : Nat → Nat → Option Nat → Int32 → hw_S → Option hw_S
  | 0, _, _, _, _ => none
  | n + 1, x0, l1, l2, σ =>
  (hw_sl l1).bind fun v4 =>
  (if v4 ≤ l2 then
  some σ
  else
  (hw_sc l1 l2).bind fun v13 =>
  (hw_rv (hw_q 12) (some x0) σ).bind fun a16 =>
  (m12_must x0 v13 σ).bind fun σ16 =>
  m12_spells_b2 n x0 l1 (l2 + 1) σ16)
set_option maxRecDepth 100000 in
theorem w12_spells_b2 {p : Program} {l : Launch} {e : Env} {s : State} {m : MethodId} {args : Array Value} {below : List Frame} {meth : Method} {c : Code} {D : hw_D} {b : Nat} {g : hw_Sd} {τ : hw_S} (C0 : hw_C p s m args meth c D yX12_spells cX12_spells 3 none) (hG : hw_G g b s s.heap) : ∀ (n : Nat) {x0 : Nat} {l1 : Option Nat} {l2 : Int32} {σ : hw_S} {H : Heap} {locs : List Loc} {ls : Array Slot}, m12_spells_b2 n x0 l1 l2 σ = some τ → hw_R D b σ H → va_S (fun q => b ≤ q) s.heap H locs → hw_L ls 3 255 [(0, hw_vr b (some x0)), (1, hw_vs g l1), (2, .int l2)] → W p l e rm12_spells s m args below meth c H locs 0 0 (MQ below (hw_QV D b τ) args s 0 0 (fun q => b ≤ q)) (F0 m 2 ls []) := by
  obtain ⟨hx, hb, hml, hr, hown, hts, hlk, hE, hnm⟩ := id C0
  have hown : s.vm.findClass RX12 = some m.cls := hown
  have hK := hE.1
  intro n
  induction n with
  | zero => intro _ _ _ _ _ _ _ hm; cases hm
  | succ n ih =>
    intro x0 l1 l2 σ H locs ls hm hR hS hl
    rw [m12_spells_b2] at hm
    refine lv_iload_n hx hb dX12_spells_2 rfl (hl.at 2 rfl) ?_
    refine hw_sload_n hx hb dX12_spells_3 rfl (hl.at 1 rfl) ?_
    obtain ⟨v4, e4, hm⟩ := hw_bs hm
    obtain ⟨a4, h4, i4, f4⟩ := hw_sl_of e4
    rw [h4]
    refine hw_cRI (va_runV (As := []) (rest := [.int l2]) ⟨hx, hb, hml, hown, hts⟩ (cJ_length l g b f4) (cwV 0 hts (hw_gV hw_m379 hw_m175 hw_m176 hw_m177 hw_m178) rfl rfl rfl (by decide +kernel) ⟨(Nat.le_of_ble_eq_true rfl), (Nat.le_of_ble_eq_true rfl)⟩) (hw_preV3 (hG.at hS) i4) rfl rfl hl.sz rfl (lv_room (Nat.le_of_ble_eq_true rfl)) dX12_spells_4 ⟨(Nat.le_of_ble_eq_true rfl), (Nat.le_of_ble_eq_true rfl)⟩) ?_
    refine lv_icmp_ge (tgt := 25) hx hb dX12_spells_7 (by decide) (fun c7 => ?_) (fun c7 => ?_)
    · have hm := hw_ip hm c7
      exact hw_rWV hx hb hr hlk hR hS hm dX12_spells_25
    · have hm := hw_in hm c7
      refine hw_aload_n hx hb dX12_spells_10 rfl (hl.at 0 rfl) ?_
      refine hw_sload_n hx hb dX12_spells_11 rfl (hl.at 1 rfl) ?_
      refine lv_iload_n hx hb dX12_spells_12 rfl (hl.at 2 rfl) ?_
      obtain ⟨v13, e13, hm⟩ := hw_bs hm
      obtain ⟨a13, h13, i13, f13⟩ := hw_sc_of e13
      rw [h13]
      refine hw_cRI (va_runV (As := [.int l2]) (rest := [hw_vr b (some x0)]) ⟨hx, hb, hml, hown, hts⟩ (cJ_charAt l g b f13) (cwV 1 hts (hw_gV hw_m380 hw_m187 hw_m188 hw_m177 hw_m189) rfl rfl rfl (by decide +kernel) ⟨(Nat.le_of_ble_eq_true rfl), (Nat.le_of_ble_eq_true rfl)⟩) (hw_preV3 (hG.at hS) i13) rfl rfl hl.sz rfl (lv_room (hw_sm (List.forall_mem_cons.mpr ⟨(hw_vr_cat _ _), (fun _ h => absurd h List.not_mem_nil)⟩) (Nat.le_of_ble_eq_true rfl))) dX12_spells_13 ⟨(Nat.le_of_ble_eq_true rfl), (Nat.le_of_ble_eq_true rfl)⟩) ?_
      obtain ⟨a16, g16, hm⟩ := hw_bs hm
      obtain ⟨rfl, ht16⟩ := hw_rv_th g16
      obtain ⟨σ16, e16, hm⟩ := hw_bs hm
      refine hw_cWV (va_runV (As := [.int v13]) (rest := []) ⟨hx, hb, hml, hown, hts⟩ (c12_must l D b e16) (cwV 1 hts (hw_gV hw_m381 hw_m382 hw_m383 hw_m5 hw_m384) rfl rfl rfl (by decide +kernel) ⟨(Nat.le_of_ble_eq_true rfl), (Nat.le_of_ble_eq_true rfl)⟩) (hw_preV (ci := 12) hE hR rfl (by decide) (hw_q_of ht16)) rfl rfl hl.sz rfl (lv_room (Nat.le_of_ble_eq_true rfl)) dX12_spells_16 ⟨(Nat.le_of_ble_eq_true rfl), (Nat.le_of_ble_eq_true rfl)⟩) hS (fun _ _ hR hS => ?_)
      refine hw_iinc (v := (l2 + 1)) (lv' := [(2, .int (l2 + 1)), (0, hw_vr b (some x0)), (1, hw_vs g l1)]) hx hb dX12_spells_19 hl (k := 2) rfl rfl (by decide) (by decide) rfl (fun ls hl => ?_)
      refine lv_goto (tgt := 2) hx hb dX12_spells_22 (by decide) ?_
      exact ih hm hR hS (hl.sub [1, 2, 0] rfl)
def m12_spells (x0 : Nat) (l1 : Option Nat) (σ : hw_S) : Option hw_S :=
  m12_spells_b2 hw_fu x0 l1 (0 : Int32) σ
set_option maxRecDepth 100000 in
theorem w12_spells_s {p : Program} {l : Launch} {e : Env} {s : State} {m : MethodId} {args : Array Value} {below : List Frame} {meth : Method} {c : Code} {D : hw_D} {b : Nat} {g : hw_Sd} {x0 : Nat} {l1 : Option Nat} {σ : hw_S} {τ : hw_S} {H : Heap} {locs : List Loc} (hm : m12_spells x0 l1 σ = some τ) (C0 : hw_C p s m args meth c D yX12_spells cX12_spells 3 none) (hG : hw_G g b s s.heap) (hR : hw_R D b σ H) (hS : va_S (fun q => b ≤ q) s.heap H locs) {ls : Array Slot} (hl : hw_L ls 3 255 [(0, hw_vr b (some x0)), (1, hw_vs g l1)]) : W p l e rm12_spells s m args below meth c H locs 0 0 (MQ below (hw_QV D b τ) args s 0 0 (fun q => b ≤ q)) (F0 m 0 ls []) := by
  obtain ⟨hx, hb, hml, hr, hown, hts, hlk, hE, hnm⟩ := id C0
  have hown : s.vm.findClass RX12 = some m.cls := hown
  have hK := hE.1
  unfold m12_spells at hm
  refine lv_iconst (v := 0) hx hb dX12_spells_0 (by decide) ?_
  refine hw_istore_n (lv' := [(2, .int (0 : Int32)), (0, hw_vr b (some x0)), (1, hw_vs g l1)]) hx hb dX12_spells_1 rfl hl (by decide) (by decide) rfl (fun ls hl => ?_)
  exact w12_spells_b2 C0 hG hw_fu hm hR hS (hl.sub [1, 2, 0] rfl)
set_option maxRecDepth 100000 in
theorem c12_spells (l : Launch) (D : hw_D) (g : hw_Sd) (b : Nat) {x0 : Nat} {l1 : Option Nat} {σ : hw_S} {τ : hw_S} (hm : m12_spells x0 l1 σ = some τ) : Met l yX12_spells (Cond.code yX12_spells cX12_spells 3 none :: wsL_law) rm12_spells (hw_P2 D g b σ [hw_vr b (some x0), hw_vs g l1]) (hw_QV D b τ) 0 0 (fun q => b ≤ q) := by
  refine hw_start2 (by decide +kernel) (by cases l1 <;> exact Nat.le_of_ble_eq_true rfl) ?_
  intro p e s m below meth c ls C0 hR hS hG hl
  have hl : lv_has ls 3 [(0, hw_vr b (some x0)), (1, hw_vs g l1)] := by cases l1 <;> exact hl
  exact w12_spells_s hm C0 hG hR hS ⟨hl, (List.forall_mem_cons.mpr ⟨(fun h => by rw [show (hw_vr b (some x0) : Value).category = 1 from (hw_vr_cat _ _)] at h; cases h), (List.forall_mem_cons.mpr ⟨(fun h => by rw [show (hw_vs g l1 : Value).category = 1 from (hw_vs_cat _ _)] at h; cases h), (fun _ h => absurd h List.not_mem_nil)⟩)⟩)⟩
