abbrev rm11_two : Room := { frames := 5, cells := 0, slots := 0, locals := 117 }
def m11_two_b36 (x0 : Nat) (σ : hw_S) : Option Int32 :=
  some ((-1) : Int32)
set_option maxRecDepth 100000 in
theorem w11_two_b36 {p : Program} {l : Launch} {e : Env} {s : State} {m : MethodId} {args : Array Value} {below : List Frame} {meth : Method} {c : Code} {D : hw_D} {b : Nat} {r : Int32} (C0 : hw_C p s m args meth c D yX11_two cX11_two 14 (some .int)) {x0 : Nat} {σ : hw_S} (hm : m11_two_b36 x0 σ = some r) (hR : hw_R D b σ s.heap) {ls : Array Slot} (hl : hw_L ls 14 255 [(0, hw_vr b (some x0))]) : W p l e rm11_two s m args below meth c s.heap [] 0 0 (MQ below (hw_RI r) args s 0 0 hw_nof) (F0 m 36 ls []) := by
  obtain ⟨hx, hb, hml, hr, hown, hts, hlk, hE, hnm⟩ := id C0
  have hown : s.vm.findClass RX11 = some m.cls := hown
  have hK := hE.1
  unfold m11_two_b36 at hm
  refine lv_iconst (v := (-1)) hx hb dX11_two_36 (by decide) ?_
  exact hw_rRI hx hb hr hlk hm dX11_two_37
def m11_two_b79 (x0 : Nat) (σ : hw_S) : Option Int32 :=
  some ((-2) : Int32)
set_option maxRecDepth 100000 in
theorem w11_two_b79 {p : Program} {l : Launch} {e : Env} {s : State} {m : MethodId} {args : Array Value} {below : List Frame} {meth : Method} {c : Code} {D : hw_D} {b : Nat} {r : Int32} (C0 : hw_C p s m args meth c D yX11_two cX11_two 14 (some .int)) {x0 : Nat} {σ : hw_S} (hm : m11_two_b79 x0 σ = some r) (hR : hw_R D b σ s.heap) {ls : Array Slot} (hl : hw_L ls 14 255 [(0, hw_vr b (some x0))]) : W p l e rm11_two s m args below meth c s.heap [] 0 0 (MQ below (hw_RI r) args s 0 0 hw_nof) (F0 m 79 ls []) := by
  obtain ⟨hx, hb, hml, hr, hown, hts, hlk, hE, hnm⟩ := id C0
  have hown : s.vm.findClass RX11 = some m.cls := hown
  have hK := hE.1
  unfold m11_two_b79 at hm
  refine lv_bipush (v := (-2)) hx hb dX11_two_79 (by decide) ?_
  exact hw_rRI hx hb hr hlk hm dX11_two_81
def m11_two_b85 : Nat → Nat → Int32 → Option Nat → Option Nat → Option Nat → Int32 → Int32 → Int32 → hw_S → Option Int32
  | 0, _, _, _, _, _, _, _, _, _ => none
  | n + 1, x0, l4, l6, l7, l8, l9, l10, l11, σ =>
  (if (60 : Int32) < l11 then
  some ((-5) : Int32)
  else
  (m11_doingOf l11 l9).bind fun v102 =>
  (m11_turnsIn l6 l7 v102 σ).bind fun v105 =>
  (m11_cut (100 : Int32) v105).bind fun v108 =>
  (m11_doingOf l11 l10).bind fun v123 =>
  (m11_turnsIn l6 l8 v123 σ).bind fun v126 =>
  (m11_cut (100 : Int32) v126).bind fun v129 =>
  (if l4 ≤ (v108 + v129) then
  m11_two_b85 n x0 l4 l6 l7 l8 l9 l10 (l11 + 1) σ
  else
  some l11))
set_option maxRecDepth 100000 in
theorem w11_two_b85 {p : Program} {l : Launch} {e : Env} {s : State} {m : MethodId} {args : Array Value} {below : List Frame} {meth : Method} {c : Code} {D : hw_D} {b : Nat} {r : Int32} (C0 : hw_C p s m args meth c D yX11_two cX11_two 14 (some .int)) : ∀ (n : Nat) {x0 : Nat} {l4 : Int32} {l6 : Option Nat} {l7 : Option Nat} {l8 : Option Nat} {l9 : Int32} {l10 : Int32} {l11 : Int32} {σ : hw_S} {ls : Array Slot}, m11_two_b85 n x0 l4 l6 l7 l8 l9 l10 l11 σ = some r → hw_R D b σ s.heap → hw_L ls 14 255 [(0, hw_vr b (some x0)), (4, .int l4), (6, hw_vr b l6), (7, hw_vr b l7), (8, hw_vr b l8), (9, .int l9), (10, .int l10), (11, .int l11)] → W p l e rm11_two s m args below meth c s.heap [] 0 0 (MQ below (hw_RI r) args s 0 0 hw_nof) (F0 m 85 ls []) := by
  obtain ⟨hx, hb, hml, hr, hown, hts, hlk, hE, hnm⟩ := id C0
  have hown : s.vm.findClass RX11 = some m.cls := hown
  have hK := hE.1
  intro n
  induction n with
  | zero => intro _ _ _ _ _ _ _ _ _ _ hm; cases hm
  | succ n ih =>
    intro x0 l4 l6 l7 l8 l9 l10 l11 σ ls hm hR hl
    rw [m11_two_b85] at hm
    refine lv_iload hx hb dX11_two_85 (hl.at 7 rfl) ?_
    refine lv_bipush (v := 60) hx hb dX11_two_87 (by decide) ?_
    refine lv_icmp_gt (tgt := 153) hx hb dX11_two_89 (by decide) (fun c89 => ?_) (fun c89 => ?_)
    · have hm := hw_ip hm c89
      refine lv_bipush (v := (-5)) hx hb dX11_two_153 (by decide) ?_
      exact hw_rRI hx hb hr hlk hm dX11_two_155
    · have hm := hw_in hm c89
      refine lv_bipush (v := 100) hx hb dX11_two_92 (by decide) ?_
      refine hw_aload hx hb dX11_two_94 (hl.at 2 rfl) ?_
      refine hw_aload hx hb dX11_two_96 (hl.at 3 rfl) ?_
      refine lv_iload hx hb dX11_two_98 (hl.at 7 rfl) ?_
      refine lv_iload hx hb dX11_two_100 (hl.at 5 rfl) ?_
      obtain ⟨v102, e102, hm⟩ := hw_bs hm
      refine hw_cRI (va_runS (As := [.int l11, .int l9]) (rest := [hw_vr b l7, hw_vr b l6, .int (100 : Int32)]) ⟨hx, hb, hml, hown, hts⟩ (c11_doingOf l D e102) (cwS 2 hts (hw_gS hw_m688 hw_m689 hw_m2 hw_m690) rfl rfl rfl (by decide +kernel) ⟨(Nat.le_of_ble_eq_true rfl), (Nat.le_of_ble_eq_true rfl)⟩) (hw_pre0 hE) rfl rfl hl.sz rfl (lv_room (hw_sm (List.forall_mem_cons.mpr ⟨(hw_vr_cat _ _), (List.forall_mem_cons.mpr ⟨(hw_vr_cat _ _), (List.forall_mem_cons.mpr ⟨rfl, (fun _ h => absurd h List.not_mem_nil)⟩)⟩)⟩) (Nat.le_of_ble_eq_true rfl))) dX11_two_102 ⟨(Nat.le_of_ble_eq_true rfl), (Nat.le_of_ble_eq_true rfl)⟩) ?_
      obtain ⟨v105, e105, hm⟩ := hw_bs hm
      refine hw_cRI (va_runS (As := [hw_vr b l6, hw_vr b l7, .int v102]) (rest := [.int (100 : Int32)]) ⟨hx, hb, hml, hown, hts⟩ (c11_turnsIn l D b e105) (cwS 3 hts (hw_gS hw_m482 hw_m483 hw_m2 hw_m484) rfl rfl rfl (by decide +kernel) ⟨(Nat.le_of_ble_eq_true rfl), (Nat.le_of_ble_eq_true rfl)⟩) (hw_pre1 hE hR) rfl rfl hl.sz rfl (lv_room (Nat.le_of_ble_eq_true rfl)) dX11_two_105 ⟨(Nat.le_of_ble_eq_true rfl), (Nat.le_of_ble_eq_true rfl)⟩) ?_
      obtain ⟨v108, e108, hm⟩ := hw_bs hm
      refine hw_cRI (va_runS (As := [.int (100 : Int32), .int v105]) (rest := []) ⟨hx, hb, hml, hown, hts⟩ (c11_cut l D e108) (cwS 2 hts (hw_gS hw_m881 hw_m520 hw_m2 hw_m521) rfl rfl rfl (by decide +kernel) ⟨(Nat.le_of_ble_eq_true rfl), (Nat.le_of_ble_eq_true rfl)⟩) (hw_pre0 hE) rfl rfl hl.sz rfl (lv_room (Nat.le_of_ble_eq_true rfl)) dX11_two_108 ⟨(Nat.le_of_ble_eq_true rfl), (Nat.le_of_ble_eq_true rfl)⟩) ?_
      refine hw_istore (lv' := [(12, .int v108), (0, hw_vr b (some x0)), (4, .int l4), (6, hw_vr b l6), (7, hw_vr b l7), (8, hw_vr b l8), (9, .int l9), (10, .int l10), (11, .int l11)]) hx hb dX11_two_111 hl (by decide) (by decide) rfl (fun ls hl => ?_)
      refine lv_bipush (v := 100) hx hb dX11_two_113 (by decide) ?_
      refine hw_aload hx hb dX11_two_115 (hl.at 3 rfl) ?_
      refine hw_aload hx hb dX11_two_117 (hl.at 5 rfl) ?_
      refine lv_iload hx hb dX11_two_119 (hl.at 8 rfl) ?_
      refine lv_iload hx hb dX11_two_121 (hl.at 7 rfl) ?_
      obtain ⟨v123, e123, hm⟩ := hw_bs hm
      refine hw_cRI (va_runS (As := [.int l11, .int l10]) (rest := [hw_vr b l8, hw_vr b l6, .int (100 : Int32)]) ⟨hx, hb, hml, hown, hts⟩ (c11_doingOf l D e123) (cwS 2 hts (hw_gS hw_m688 hw_m689 hw_m2 hw_m690) rfl rfl rfl (by decide +kernel) ⟨(Nat.le_of_ble_eq_true rfl), (Nat.le_of_ble_eq_true rfl)⟩) (hw_pre0 hE) rfl rfl hl.sz rfl (lv_room (hw_sm (List.forall_mem_cons.mpr ⟨(hw_vr_cat _ _), (List.forall_mem_cons.mpr ⟨(hw_vr_cat _ _), (List.forall_mem_cons.mpr ⟨rfl, (fun _ h => absurd h List.not_mem_nil)⟩)⟩)⟩) (Nat.le_of_ble_eq_true rfl))) dX11_two_123 ⟨(Nat.le_of_ble_eq_true rfl), (Nat.le_of_ble_eq_true rfl)⟩) ?_
      obtain ⟨v126, e126, hm⟩ := hw_bs hm
      refine hw_cRI (va_runS (As := [hw_vr b l6, hw_vr b l8, .int v123]) (rest := [.int (100 : Int32)]) ⟨hx, hb, hml, hown, hts⟩ (c11_turnsIn l D b e126) (cwS 3 hts (hw_gS hw_m482 hw_m483 hw_m2 hw_m484) rfl rfl rfl (by decide +kernel) ⟨(Nat.le_of_ble_eq_true rfl), (Nat.le_of_ble_eq_true rfl)⟩) (hw_pre1 hE hR) rfl rfl hl.sz rfl (lv_room (Nat.le_of_ble_eq_true rfl)) dX11_two_126 ⟨(Nat.le_of_ble_eq_true rfl), (Nat.le_of_ble_eq_true rfl)⟩) ?_
      obtain ⟨v129, e129, hm⟩ := hw_bs hm
      refine hw_cRI (va_runS (As := [.int (100 : Int32), .int v126]) (rest := []) ⟨hx, hb, hml, hown, hts⟩ (c11_cut l D e129) (cwS 2 hts (hw_gS hw_m881 hw_m520 hw_m2 hw_m521) rfl rfl rfl (by decide +kernel) ⟨(Nat.le_of_ble_eq_true rfl), (Nat.le_of_ble_eq_true rfl)⟩) (hw_pre0 hE) rfl rfl hl.sz rfl (lv_room (Nat.le_of_ble_eq_true rfl)) dX11_two_129 ⟨(Nat.le_of_ble_eq_true rfl), (Nat.le_of_ble_eq_true rfl)⟩) ?_
      refine hw_istore (lv' := [(13, .int v129), (12, .int v108), (0, hw_vr b (some x0)), (4, .int l4), (6, hw_vr b l6), (7, hw_vr b l7), (8, hw_vr b l8), (9, .int l9), (10, .int l10), (11, .int l11)]) hx hb dX11_two_132 hl (by decide) (by decide) rfl (fun ls hl => ?_)
      refine lv_iload hx hb dX11_two_134 (hl.at 3 rfl) ?_
      refine lv_iload hx hb dX11_two_136 (hl.at 1 rfl) ?_
      refine lv_iload hx hb dX11_two_138 (hl.at 0 rfl) ?_
      refine lv_iadd hx hb dX11_two_140 ?_
      refine lv_icmp_le (tgt := 147) hx hb dX11_two_141 (by decide) (fun c141 => ?_) (fun c141 => ?_)
      · have hm := hw_ip hm c141
        refine hw_iinc (v := (l11 + 1)) (lv' := [(11, .int (l11 + 1)), (13, .int v129), (12, .int v108), (0, hw_vr b (some x0)), (4, .int l4), (6, hw_vr b l6), (7, hw_vr b l7), (8, hw_vr b l8), (9, .int l9), (10, .int l10)]) hx hb dX11_two_147 hl (k := 9) rfl rfl (by decide) (by decide) rfl (fun ls hl => ?_)
        refine lv_goto (tgt := 85) hx hb dX11_two_150 (by decide) ?_
        exact ih hm hR (hl.sub [3, 4, 5, 6, 7, 8, 9, 0] rfl)
      · have hm := hw_in hm c141
        refine lv_iload hx hb dX11_two_144 (hl.at 9 rfl) ?_
        exact hw_rRI hx hb hr hlk hm dX11_two_146
def m11_two (x0 : Nat) (l1 : Int32) (l2 : Int32) (l3 : Int32) (l4 : Int32) (l5 : Int32) (σ : hw_S) : Option Int32 :=
  (hw_rv (hw_q 11) (some x0) σ).bind fun a2 =>
  (m11_lawAt x0 l1 σ).bind fun v2 =>
  (hw_rv (hw_q 11) (some x0) σ).bind fun a9 =>
  (m11_stuffAt x0 l2 σ).bind fun v9 =>
  (hw_rv (hw_q 11) (some x0) σ).bind fun a16 =>
  (m11_stuffAt x0 l3 σ).bind fun v16 =>
  (if v2 = none then
  m11_two_b36 x0 σ
  else
  (if v9 = none then
  m11_two_b36 x0 σ
  else
  (if v16 = none then
  m11_two_b36 x0 σ
  else
  (hw_dv l5 (100 : Int32)).bind fun v42 =>
  (hw_rm l5 (100 : Int32)).bind fun v49 =>
  (m11_isWithin l4 (1 : Int32) (99 : Int32)).bind fun v57 =>
  (if v57 = 0 then
  m11_two_b79 x0 σ
  else
  (m11_isFlow v42).bind fun v65 =>
  (if v65 = 0 then
  m11_two_b79 x0 σ
  else
  (m11_isFlow v49).bind fun v73 =>
  (if v73 = 0 then
  m11_two_b79 x0 σ
  else
  m11_two_b85 hw_fu x0 l4 v2 v9 v16 v42 v49 (1 : Int32) σ))))))
set_option maxRecDepth 100000 in
theorem w11_two_s {p : Program} {l : Launch} {e : Env} {s : State} {m : MethodId} {args : Array Value} {below : List Frame} {meth : Method} {c : Code} {D : hw_D} {b : Nat} {x0 : Nat} {l1 : Int32} {l2 : Int32} {l3 : Int32} {l4 : Int32} {l5 : Int32} {σ : hw_S} {r : Int32} (hm : m11_two x0 l1 l2 l3 l4 l5 σ = some r) (C0 : hw_C p s m args meth c D yX11_two cX11_two 14 (some .int)) (hR : hw_R D b σ s.heap) {ls : Array Slot} (hl : hw_L ls 14 255 [(0, hw_vr b (some x0)), (1, .int l1), (2, .int l2), (3, .int l3), (4, .int l4), (5, .int l5)]) : W p l e rm11_two s m args below meth c s.heap [] 0 0 (MQ below (hw_RI r) args s 0 0 hw_nof) (F0 m 0 ls []) := by
  obtain ⟨hx, hb, hml, hr, hown, hts, hlk, hE, hnm⟩ := id C0
  have hown : s.vm.findClass RX11 = some m.cls := hown
  have hK := hE.1
  unfold m11_two at hm
  refine hw_aload_n hx hb dX11_two_0 rfl (hl.at 0 rfl) ?_
  refine lv_iload_n hx hb dX11_two_1 rfl (hl.at 1 rfl) ?_
  obtain ⟨a2, g2, hm⟩ := hw_bs hm
  obtain ⟨rfl, ht2⟩ := hw_rv_th g2
  obtain ⟨v2, e2, hm⟩ := hw_bs hm
  refine hw_cRP (va_runV (As := [.int l1]) (rest := []) ⟨hx, hb, hml, hown, hts⟩ (c11_lawAt l D b e2) (cwV 1 hts (hw_gV hw_m426 hw_m427 hw_m428 hw_m2 hw_m429) rfl rfl rfl (by decide +kernel) ⟨(Nat.le_of_ble_eq_true rfl), (Nat.le_of_ble_eq_true rfl)⟩) (hw_preV (ci := 11) hE hR rfl (by decide) (hw_q_of ht2)) rfl rfl hl.sz rfl (lv_room (Nat.le_of_ble_eq_true rfl)) dX11_two_2 ⟨(Nat.le_of_ble_eq_true rfl), (Nat.le_of_ble_eq_true rfl)⟩) ?_
  refine hw_asto (lv' := [(6, hw_vr b v2), (0, hw_vr b (some x0)), (1, .int l1), (2, .int l2), (3, .int l3), (4, .int l4), (5, .int l5)]) hx hb dX11_two_5 hl (by decide) (by decide) rfl (fun ls hl => ?_)
  refine hw_aload_n hx hb dX11_two_7 rfl (hl.at 1 rfl) ?_
  refine lv_iload_n hx hb dX11_two_8 rfl (hl.at 3 rfl) ?_
  obtain ⟨a9, g9, hm⟩ := hw_bs hm
  obtain ⟨rfl, ht9⟩ := hw_rv_th g9
  obtain ⟨v9, e9, hm⟩ := hw_bs hm
  refine hw_cRP (va_runV (As := [.int l2]) (rest := []) ⟨hx, hb, hml, hown, hts⟩ (c11_stuffAt l D b e9) (cwV 1 hts (hw_gV hw_m121 hw_m122 hw_m123 hw_m2 hw_m124) rfl rfl rfl (by decide +kernel) ⟨(Nat.le_of_ble_eq_true rfl), (Nat.le_of_ble_eq_true rfl)⟩) (hw_preV (ci := 11) hE hR rfl (by decide) (hw_q_of ht9)) rfl rfl hl.sz rfl (lv_room (Nat.le_of_ble_eq_true rfl)) dX11_two_9 ⟨(Nat.le_of_ble_eq_true rfl), (Nat.le_of_ble_eq_true rfl)⟩) ?_
  refine hw_asto (lv' := [(7, hw_vr b v9), (6, hw_vr b v2), (0, hw_vr b (some x0)), (1, .int l1), (2, .int l2), (3, .int l3), (4, .int l4), (5, .int l5)]) hx hb dX11_two_12 hl (by decide) (by decide) rfl (fun ls hl => ?_)
  refine hw_aload_n hx hb dX11_two_14 rfl (hl.at 2 rfl) ?_
  refine lv_iload_n hx hb dX11_two_15 rfl (hl.at 5 rfl) ?_
  obtain ⟨a16, g16, hm⟩ := hw_bs hm
  obtain ⟨rfl, ht16⟩ := hw_rv_th g16
  obtain ⟨v16, e16, hm⟩ := hw_bs hm
  refine hw_cRP (va_runV (As := [.int l3]) (rest := []) ⟨hx, hb, hml, hown, hts⟩ (c11_stuffAt l D b e16) (cwV 1 hts (hw_gV hw_m121 hw_m122 hw_m123 hw_m2 hw_m124) rfl rfl rfl (by decide +kernel) ⟨(Nat.le_of_ble_eq_true rfl), (Nat.le_of_ble_eq_true rfl)⟩) (hw_preV (ci := 11) hE hR rfl (by decide) (hw_q_of ht16)) rfl rfl hl.sz rfl (lv_room (Nat.le_of_ble_eq_true rfl)) dX11_two_16 ⟨(Nat.le_of_ble_eq_true rfl), (Nat.le_of_ble_eq_true rfl)⟩) ?_
  refine hw_asto (lv' := [(8, hw_vr b v16), (7, hw_vr b v9), (6, hw_vr b v2), (0, hw_vr b (some x0)), (1, .int l1), (2, .int l2), (3, .int l3), (4, .int l4), (5, .int l5)]) hx hb dX11_two_19 hl (by decide) (by decide) rfl (fun ls hl => ?_)
  refine hw_aload hx hb dX11_two_21 (hl.at 2 rfl) ?_
  refine hw_ifnull (tgt := 36) hx hb dX11_two_23 (by decide) (fun c23 => ?_) (fun c23 => ?_)
  · have hm := hw_ip hm c23
    exact w11_two_b36 C0 hm hR (hl.sub [3] rfl)
  · have hm := hw_in hm c23
    refine hw_aload hx hb dX11_two_26 (hl.at 1 rfl) ?_
    refine hw_ifnull (tgt := 36) hx hb dX11_two_28 (by decide) (fun c28 => ?_) (fun c28 => ?_)
    · have hm := hw_ip hm c28
      exact w11_two_b36 C0 hm hR (hl.sub [3] rfl)
    · have hm := hw_in hm c28
      refine hw_aload hx hb dX11_two_31 (hl.at 0 rfl) ?_
      refine hw_ifnonnull (tgt := 38) hx hb dX11_two_33 (by decide) (fun c33 => ?_) (fun c33 => ?_)
      · have hm := hw_in hm c33
        refine lv_iload hx hb dX11_two_38 (hl.at 8 rfl) ?_
        refine lv_bipush (v := 100) hx hb dX11_two_40 (by decide) ?_
        obtain ⟨v42, e42, hm⟩ := hw_bs hm
        refine hw_idiv hx hb e42 dX11_two_42 ?_
        refine hw_istore (lv' := [(9, .int v42), (8, hw_vr b v16), (7, hw_vr b v9), (6, hw_vr b v2), (0, hw_vr b (some x0)), (1, .int l1), (2, .int l2), (3, .int l3), (4, .int l4), (5, .int l5)]) hx hb dX11_two_43 hl (by decide) (by decide) rfl (fun ls hl => ?_)
        refine lv_iload hx hb dX11_two_45 (hl.at 9 rfl) ?_
        refine lv_bipush (v := 100) hx hb dX11_two_47 (by decide) ?_
        obtain ⟨v49, e49, hm⟩ := hw_bs hm
        refine hw_irem hx hb e49 dX11_two_49 ?_
        refine hw_istore (lv' := [(10, .int v49), (9, .int v42), (8, hw_vr b v16), (7, hw_vr b v9), (6, hw_vr b v2), (0, hw_vr b (some x0)), (1, .int l1), (2, .int l2), (3, .int l3), (4, .int l4), (5, .int l5)]) hx hb dX11_two_50 hl (by decide) (by decide) rfl (fun ls hl => ?_)
        refine lv_iload hx hb dX11_two_52 (hl.at 9 rfl) ?_
        refine lv_iconst (v := 1) hx hb dX11_two_54 (by decide) ?_
        refine lv_bipush (v := 99) hx hb dX11_two_55 (by decide) ?_
        obtain ⟨v57, e57, hm⟩ := hw_bs hm
        refine hw_cRI (va_runS (As := [.int l4, .int (1 : Int32), .int (99 : Int32)]) (rest := []) ⟨hx, hb, hml, hown, hts⟩ (c11_isWithin l D e57) (cwS 3 hts (hw_gS hw_m99 hw_m100 hw_m2 hw_m101) rfl rfl rfl (by decide +kernel) ⟨(Nat.le_of_ble_eq_true rfl), (Nat.le_of_ble_eq_true rfl)⟩) (hw_pre0 hE) rfl rfl hl.sz rfl (lv_room (Nat.le_of_ble_eq_true rfl)) dX11_two_57 ⟨(Nat.le_of_ble_eq_true rfl), (Nat.le_of_ble_eq_true rfl)⟩) ?_
        refine lv_if_eq (tgt := 79) hx hb dX11_two_60 (by decide) (fun c60 => ?_) (fun c60 => ?_)
        · have hm := hw_ip hm c60
          exact w11_two_b79 C0 hm hR (hl.sub [5] rfl)
        · have hm := hw_in hm c60
          refine lv_iload hx hb dX11_two_63 (hl.at 1 rfl) ?_
          obtain ⟨v65, e65, hm⟩ := hw_bs hm
          refine hw_cRI (va_runS (As := [.int v42]) (rest := []) ⟨hx, hb, hml, hown, hts⟩ (c11_isFlow l D e65) (cwS 1 hts (hw_gS hw_m454 hw_m455 hw_m2 hw_m456) rfl rfl rfl (by decide +kernel) ⟨(Nat.le_of_ble_eq_true rfl), (Nat.le_of_ble_eq_true rfl)⟩) (hw_pre0 hE) rfl rfl hl.sz rfl (lv_room (Nat.le_of_ble_eq_true rfl)) dX11_two_65 ⟨(Nat.le_of_ble_eq_true rfl), (Nat.le_of_ble_eq_true rfl)⟩) ?_
          refine lv_if_eq (tgt := 79) hx hb dX11_two_68 (by decide) (fun c68 => ?_) (fun c68 => ?_)
          · have hm := hw_ip hm c68
            exact w11_two_b79 C0 hm hR (hl.sub [5] rfl)
          · have hm := hw_in hm c68
            refine lv_iload hx hb dX11_two_71 (hl.at 0 rfl) ?_
            obtain ⟨v73, e73, hm⟩ := hw_bs hm
            refine hw_cRI (va_runS (As := [.int v49]) (rest := []) ⟨hx, hb, hml, hown, hts⟩ (c11_isFlow l D e73) (cwS 1 hts (hw_gS hw_m454 hw_m455 hw_m2 hw_m456) rfl rfl rfl (by decide +kernel) ⟨(Nat.le_of_ble_eq_true rfl), (Nat.le_of_ble_eq_true rfl)⟩) (hw_pre0 hE) rfl rfl hl.sz rfl (lv_room (Nat.le_of_ble_eq_true rfl)) dX11_two_73 ⟨(Nat.le_of_ble_eq_true rfl), (Nat.le_of_ble_eq_true rfl)⟩) ?_
            refine lv_if_ne (tgt := 82) hx hb dX11_two_76 (by decide) (fun c76 => ?_) (fun c76 => ?_)
            · have hm := hw_in hm c76
              refine lv_iconst (v := 1) hx hb dX11_two_82 (by decide) ?_
              refine hw_istore (lv' := [(11, .int (1 : Int32)), (10, .int v49), (9, .int v42), (8, hw_vr b v16), (7, hw_vr b v9), (6, hw_vr b v2), (0, hw_vr b (some x0)), (1, .int l1), (2, .int l2), (3, .int l3), (4, .int l4), (5, .int l5)]) hx hb dX11_two_83 hl (by decide) (by decide) rfl (fun ls hl => ?_)
              exact w11_two_b85 C0 hw_fu hm hR (hl.sub [6, 10, 5, 4, 3, 2, 1, 0] rfl)
            · have hm := hw_ip hm c76
              exact w11_two_b79 C0 hm hR (hl.sub [5] rfl)
      · have hm := hw_ip hm c33
        exact w11_two_b36 C0 hm hR (hl.sub [3] rfl)
set_option maxRecDepth 100000 in
theorem c11_two (l : Launch) (D : hw_D) (b : Nat) {x0 : Nat} {l1 : Int32} {l2 : Int32} {l3 : Int32} {l4 : Int32} {l5 : Int32} {σ : hw_S} {r : Int32} (hm : m11_two x0 l1 l2 l3 l4 l5 σ = some r) : Met l yX11_two (Cond.code yX11_two cX11_two 14 (some .int) :: wsL_law) rm11_two (hw_P1 D b σ [hw_vr b (some x0), .int l1, .int l2, .int l3, .int l4, .int l5]) (hw_RI r) 0 0 hw_nof := by
  refine hw_start1 (by decide +kernel) (by exact Nat.le_of_ble_eq_true rfl) ?_
  intro p e s m below meth c ls C0 hR hS hl
  have hl : lv_has ls 14 [(0, hw_vr b (some x0)), (1, .int l1), (2, .int l2), (3, .int l3), (4, .int l4), (5, .int l5)] := by exact hl
  exact w11_two_s hm C0 hR ⟨hl, (List.forall_mem_cons.mpr ⟨(fun h => by rw [show (hw_vr b (some x0) : Value).category = 1 from (hw_vr_cat _ _)] at h; cases h), (List.forall_mem_cons.mpr ⟨(fun h => absurd (show (1 : Nat) = 2 from h) (by decide)), (List.forall_mem_cons.mpr ⟨(fun h => absurd (show (1 : Nat) = 2 from h) (by decide)), (List.forall_mem_cons.mpr ⟨(fun h => absurd (show (1 : Nat) = 2 from h) (by decide)), (List.forall_mem_cons.mpr ⟨(fun h => absurd (show (1 : Nat) = 2 from h) (by decide)), (List.forall_mem_cons.mpr ⟨(fun h => absurd (show (1 : Nat) = 2 from h) (by decide)), (fun _ h => absurd h List.not_mem_nil)⟩)⟩)⟩)⟩)⟩)⟩)⟩

abbrev rm12_two : Room := { frames := 4, cells := 0, slots := 0, locals := 110 }
def m12_two_b24 (x0 : Nat) (σ : hw_S) : Option (Int32 × hw_S) :=
  some (((-1) : Int32), σ)
set_option maxRecDepth 100000 in
theorem w12_two_b24 {p : Program} {l : Launch} {e : Env} {s : State} {m : MethodId} {args : Array Value} {below : List Frame} {meth : Method} {c : Code} {D : hw_D} {b : Nat} {r : Int32} {τ : hw_S} (C0 : hw_C p s m args meth c D yX12_two cX12_two 7 (some .int)) {x0 : Nat} {σ : hw_S} {H : Heap} {locs : List Loc} (hm : m12_two_b24 x0 σ = some (r, τ)) (hR : hw_R D b σ H) (hS : va_S (fun q => b ≤ q) s.heap H locs) {ls : Array Slot} (hl : hw_L ls 7 255 [(0, hw_vr b (some x0))]) : W p l e rm12_two s m args below meth c H locs 0 0 (MQ below (hw_QI D b τ r) args s 0 0 (fun q => b ≤ q)) (F0 m 24 ls []) := by
  obtain ⟨hx, hb, hml, hr, hown, hts, hlk, hE, hnm⟩ := id C0
  have hown : s.vm.findClass RX12 = some m.cls := hown
  have hK := hE.1
  unfold m12_two_b24 at hm
  refine lv_iconst (v := (-1)) hx hb dX12_two_24 (by decide) ?_
  exact hw_rWI hx hb hr hlk hR hS hm dX12_two_25
def m12_two_b71 (x0 : Nat) (σ : hw_S) : Option (Int32 × hw_S) :=
  some (((-2) : Int32), σ)
set_option maxRecDepth 100000 in
theorem w12_two_b71 {p : Program} {l : Launch} {e : Env} {s : State} {m : MethodId} {args : Array Value} {below : List Frame} {meth : Method} {c : Code} {D : hw_D} {b : Nat} {r : Int32} {τ : hw_S} (C0 : hw_C p s m args meth c D yX12_two cX12_two 7 (some .int)) {x0 : Nat} {σ : hw_S} {H : Heap} {locs : List Loc} (hm : m12_two_b71 x0 σ = some (r, τ)) (hR : hw_R D b σ H) (hS : va_S (fun q => b ≤ q) s.heap H locs) {ls : Array Slot} (hl : hw_L ls 7 255 [(0, hw_vr b (some x0))]) : W p l e rm12_two s m args below meth c H locs 0 0 (MQ below (hw_QI D b τ r) args s 0 0 (fun q => b ≤ q)) (F0 m 71 ls []) := by
  obtain ⟨hx, hb, hml, hr, hown, hts, hlk, hE, hnm⟩ := id C0
  have hown : s.vm.findClass RX12 = some m.cls := hown
  have hK := hE.1
  unfold m12_two_b71 at hm
  refine lv_bipush (v := (-2)) hx hb dX12_two_71 (by decide) ?_
  exact hw_rWI hx hb hr hlk hR hS hm dX12_two_73
def m12_two_b77 : Nat → Nat → Int32 → Int32 → Int32 → Int32 → Int32 → Int32 → hw_S → Option (Int32 × hw_S)
  | 0, _, _, _, _, _, _, _, _ => none
  | n + 1, x0, l1, l2, l3, l4, l5, l6, σ =>
  (if (60 : Int32) < l6 then
  some (((-5) : Int32), σ)
  else
  (hw_dv l5 (100 : Int32)).bind fun v97 =>
  (hw_rv (hw_q 12) (some x0) σ).bind fun a99 =>
  hw_b2 (m12_turnsOf x0 l1 l2 l6 v97 (0 : Int32) σ) fun v99 σ99 =>
  (hw_dv (100 : Int32) v99).bind fun v102 =>
  (hw_rm l5 (100 : Int32)).bind fun v114 =>
  (hw_rv (hw_q 12) (some x0) σ99).bind fun a116 =>
  hw_b2 (m12_turnsOf x0 l1 l3 l6 v114 (0 : Int32) σ99) fun v116 σ116 =>
  (hw_dv (100 : Int32) v116).bind fun v119 =>
  (if l4 ≤ (v102 + v119) then
  m12_two_b77 n x0 l1 l2 l3 l4 l5 (l6 + 1) σ116
  else
  some (l6, σ116)))
set_option maxRecDepth 100000 in
theorem w12_two_b77 {p : Program} {l : Launch} {e : Env} {s : State} {m : MethodId} {args : Array Value} {below : List Frame} {meth : Method} {c : Code} {D : hw_D} {b : Nat} {r : Int32} {τ : hw_S} (C0 : hw_C p s m args meth c D yX12_two cX12_two 7 (some .int)) : ∀ (n : Nat) {x0 : Nat} {l1 : Int32} {l2 : Int32} {l3 : Int32} {l4 : Int32} {l5 : Int32} {l6 : Int32} {σ : hw_S} {H : Heap} {locs : List Loc} {ls : Array Slot}, m12_two_b77 n x0 l1 l2 l3 l4 l5 l6 σ = some (r, τ) → hw_R D b σ H → va_S (fun q => b ≤ q) s.heap H locs → hw_L ls 7 255 [(0, hw_vr b (some x0)), (1, .int l1), (2, .int l2), (3, .int l3), (4, .int l4), (5, .int l5), (6, .int l6)] → W p l e rm12_two s m args below meth c H locs 0 0 (MQ below (hw_QI D b τ r) args s 0 0 (fun q => b ≤ q)) (F0 m 77 ls []) := by
  obtain ⟨hx, hb, hml, hr, hown, hts, hlk, hE, hnm⟩ := id C0
  have hown : s.vm.findClass RX12 = some m.cls := hown
  have hK := hE.1
  intro n
  induction n with
  | zero => intro _ _ _ _ _ _ _ _ _ _ _ hm; cases hm
  | succ n ih =>
    intro x0 l1 l2 l3 l4 l5 l6 σ H locs ls hm hR hS hl
    rw [m12_two_b77] at hm
    refine lv_iload hx hb dX12_two_77 (hl.at 6 rfl) ?_
    refine lv_bipush (v := 60) hx hb dX12_two_79 (by decide) ?_
    refine lv_icmp_gt (tgt := 133) hx hb dX12_two_81 (by decide) (fun c81 => ?_) (fun c81 => ?_)
    · have hm := hw_ip hm c81
      refine lv_bipush (v := (-5)) hx hb dX12_two_133 (by decide) ?_
      exact hw_rWI hx hb hr hlk hR hS hm dX12_two_135
    · have hm := hw_in hm c81
      refine lv_iload hx hb dX12_two_84 (hl.at 4 rfl) ?_
      refine lv_bipush (v := 100) hx hb dX12_two_86 (by decide) ?_
      refine hw_aload_n hx hb dX12_two_88 rfl (hl.at 0 rfl) ?_
      refine lv_iload_n hx hb dX12_two_89 rfl (hl.at 1 rfl) ?_
      refine lv_iload_n hx hb dX12_two_90 rfl (hl.at 2 rfl) ?_
      refine lv_iload hx hb dX12_two_91 (hl.at 6 rfl) ?_
      refine lv_iload hx hb dX12_two_93 (hl.at 5 rfl) ?_
      refine lv_bipush (v := 100) hx hb dX12_two_95 (by decide) ?_
      obtain ⟨v97, e97, hm⟩ := hw_bs hm
      refine hw_idiv hx hb e97 dX12_two_97 ?_
      refine lv_iconst (v := 0) hx hb dX12_two_98 (by decide) ?_
      obtain ⟨a99, g99, hm⟩ := hw_bs hm
      obtain ⟨rfl, ht99⟩ := hw_rv_th g99
      obtain ⟨v99, σ99, e99, hm⟩ := hw_bs2 hm
      refine hw_cWI (va_runV (As := [.int l1, .int l2, .int l6, .int v97, .int (0 : Int32)]) (rest := [.int (100 : Int32), .int l4]) ⟨hx, hb, hml, hown, hts⟩ (c12_turnsOf l D b e99) (cwV 5 hts (hw_gV hw_m584 hw_m585 hw_m586 hw_m5 hw_m587) rfl rfl rfl (by decide +kernel) ⟨(Nat.le_of_ble_eq_true rfl), (Nat.le_of_ble_eq_true rfl)⟩) (hw_preV (ci := 12) hE hR rfl (by decide) (hw_q_of ht99)) rfl rfl hl.sz rfl (lv_room (Nat.le_of_ble_eq_true rfl)) dX12_two_99 ⟨(Nat.le_of_ble_eq_true rfl), (Nat.le_of_ble_eq_true rfl)⟩) hS (fun _ _ hR hS => ?_)
      obtain ⟨v102, e102, hm⟩ := hw_bs hm
      refine hw_idiv hx hb e102 dX12_two_102 ?_
      refine lv_bipush (v := 100) hx hb dX12_two_103 (by decide) ?_
      refine hw_aload_n hx hb dX12_two_105 rfl (hl.at 0 rfl) ?_
      refine lv_iload_n hx hb dX12_two_106 rfl (hl.at 1 rfl) ?_
      refine lv_iload_n hx hb dX12_two_107 rfl (hl.at 3 rfl) ?_
      refine lv_iload hx hb dX12_two_108 (hl.at 6 rfl) ?_
      refine lv_iload hx hb dX12_two_110 (hl.at 5 rfl) ?_
      refine lv_bipush (v := 100) hx hb dX12_two_112 (by decide) ?_
      obtain ⟨v114, e114, hm⟩ := hw_bs hm
      refine hw_irem hx hb e114 dX12_two_114 ?_
      refine lv_iconst (v := 0) hx hb dX12_two_115 (by decide) ?_
      obtain ⟨a116, g116, hm⟩ := hw_bs hm
      obtain ⟨rfl, ht116⟩ := hw_rv_th g116
      obtain ⟨v116, σ116, e116, hm⟩ := hw_bs2 hm
      refine hw_cWI (va_runV (As := [.int l1, .int l3, .int l6, .int v114, .int (0 : Int32)]) (rest := [.int (100 : Int32), .int v102, .int l4]) ⟨hx, hb, hml, hown, hts⟩ (c12_turnsOf l D b e116) (cwV 5 hts (hw_gV hw_m584 hw_m585 hw_m586 hw_m5 hw_m587) rfl rfl rfl (by decide +kernel) ⟨(Nat.le_of_ble_eq_true rfl), (Nat.le_of_ble_eq_true rfl)⟩) (hw_preV (ci := 12) hE hR rfl (by decide) (hw_q_of ht116)) rfl rfl hl.sz rfl (lv_room (Nat.le_of_ble_eq_true rfl)) dX12_two_116 ⟨(Nat.le_of_ble_eq_true rfl), (Nat.le_of_ble_eq_true rfl)⟩) hS (fun _ _ hR hS => ?_)
      obtain ⟨v119, e119, hm⟩ := hw_bs hm
      refine hw_idiv hx hb e119 dX12_two_119 ?_
      refine lv_iadd hx hb dX12_two_120 ?_
      refine lv_icmp_le (tgt := 127) hx hb dX12_two_121 (by decide) (fun c121 => ?_) (fun c121 => ?_)
      · have hm := hw_ip hm c121
        refine hw_iinc (v := (l6 + 1)) (lv' := [(6, .int (l6 + 1)), (0, hw_vr b (some x0)), (1, .int l1), (2, .int l2), (3, .int l3), (4, .int l4), (5, .int l5)]) hx hb dX12_two_127 hl (k := 6) rfl rfl (by decide) (by decide) rfl (fun ls hl => ?_)
        refine lv_goto (tgt := 77) hx hb dX12_two_130 (by decide) ?_
        exact ih hm hR hS (hl.sub [1, 2, 3, 4, 5, 6, 0] rfl)
      · have hm := hw_in hm c121
        refine lv_iload hx hb dX12_two_124 (hl.at 6 rfl) ?_
        exact hw_rWI hx hb hr hlk hR hS hm dX12_two_126
def m12_two (x0 : Nat) (l1 : Int32) (l2 : Int32) (l3 : Int32) (l4 : Int32) (l5 : Int32) (σ : hw_S) : Option (Int32 × hw_S) :=
  (hw_rv (hw_q 12) (some x0) σ).bind fun a2 =>
  (m12_isLaw x0 l1 σ).bind fun v2 =>
  (if v2 = 0 then
  m12_two_b24 x0 σ
  else
  (hw_rv (hw_q 12) (some x0) σ).bind fun a10 =>
  (m12_isStuff x0 l2 σ).bind fun v10 =>
  (if v10 = 0 then
  m12_two_b24 x0 σ
  else
  (hw_rv (hw_q 12) (some x0) σ).bind fun a18 =>
  (m12_isStuff x0 l3 σ).bind fun v18 =>
  (if v18 = 0 then
  m12_two_b24 x0 σ
  else
  (m12_in l4 (1 : Int32) (99 : Int32)).bind fun v31 =>
  (if v31 = 0 then
  m12_two_b71 x0 σ
  else
  (m12_in l5 (0 : Int32) (2099 : Int32)).bind fun v43 =>
  (if v43 = 0 then
  m12_two_b71 x0 σ
  else
  (hw_dv l5 (100 : Int32)).bind fun v53 =>
  (m12_isFlow v53).bind fun v54 =>
  (if v54 = 0 then
  m12_two_b71 x0 σ
  else
  (hw_rm l5 (100 : Int32)).bind fun v64 =>
  (m12_isFlow v64).bind fun v65 =>
  (if v65 = 0 then
  m12_two_b71 x0 σ
  else
  m12_two_b77 hw_fu x0 l1 l2 l3 l4 l5 (1 : Int32) σ)))))))
set_option maxRecDepth 100000 in
theorem w12_two_s {p : Program} {l : Launch} {e : Env} {s : State} {m : MethodId} {args : Array Value} {below : List Frame} {meth : Method} {c : Code} {D : hw_D} {b : Nat} {x0 : Nat} {l1 : Int32} {l2 : Int32} {l3 : Int32} {l4 : Int32} {l5 : Int32} {σ : hw_S} {r : Int32} {τ : hw_S} {H : Heap} {locs : List Loc} (hm : m12_two x0 l1 l2 l3 l4 l5 σ = some (r, τ)) (C0 : hw_C p s m args meth c D yX12_two cX12_two 7 (some .int)) (hR : hw_R D b σ H) (hS : va_S (fun q => b ≤ q) s.heap H locs) {ls : Array Slot} (hl : hw_L ls 7 255 [(0, hw_vr b (some x0)), (1, .int l1), (2, .int l2), (3, .int l3), (4, .int l4), (5, .int l5)]) : W p l e rm12_two s m args below meth c H locs 0 0 (MQ below (hw_QI D b τ r) args s 0 0 (fun q => b ≤ q)) (F0 m 0 ls []) := by
  obtain ⟨hx, hb, hml, hr, hown, hts, hlk, hE, hnm⟩ := id C0
  have hown : s.vm.findClass RX12 = some m.cls := hown
  have hK := hE.1
  unfold m12_two at hm
  refine hw_aload_n hx hb dX12_two_0 rfl (hl.at 0 rfl) ?_
  refine lv_iload_n hx hb dX12_two_1 rfl (hl.at 1 rfl) ?_
  obtain ⟨a2, g2, hm⟩ := hw_bs hm
  obtain ⟨rfl, ht2⟩ := hw_rv_th g2
  obtain ⟨v2, e2, hm⟩ := hw_bs hm
  refine hw_cRI (va_runV (As := [.int l1]) (rest := []) ⟨hx, hb, hml, hown, hts⟩ (c12_isLaw l D b e2) (cwV 1 hts (hw_gV hw_m434 hw_m435 hw_m436 hw_m5 hw_m437) rfl rfl rfl (by decide +kernel) ⟨(Nat.le_of_ble_eq_true rfl), (Nat.le_of_ble_eq_true rfl)⟩) (hw_preV (ci := 12) hE hR rfl (by decide) (hw_q_of ht2)) rfl rfl hl.sz rfl (lv_room (Nat.le_of_ble_eq_true rfl)) dX12_two_2 ⟨(Nat.le_of_ble_eq_true rfl), (Nat.le_of_ble_eq_true rfl)⟩) ?_
  refine lv_if_eq (tgt := 24) hx hb dX12_two_5 (by decide) (fun c5 => ?_) (fun c5 => ?_)
  · have hm := hw_ip hm c5
    exact w12_two_b24 C0 hm hR hS (hl.sub [0] rfl)
  · have hm := hw_in hm c5
    refine hw_aload_n hx hb dX12_two_8 rfl (hl.at 0 rfl) ?_
    refine lv_iload_n hx hb dX12_two_9 rfl (hl.at 2 rfl) ?_
    obtain ⟨a10, g10, hm⟩ := hw_bs hm
    obtain ⟨rfl, ht10⟩ := hw_rv_th g10
    obtain ⟨v10, e10, hm⟩ := hw_bs hm
    refine hw_cRI (va_runV (As := [.int l2]) (rest := []) ⟨hx, hb, hml, hown, hts⟩ (c12_isStuff l D b e10) (cwV 1 hts (hw_gV hw_m129 hw_m130 hw_m131 hw_m5 hw_m132) rfl rfl rfl (by decide +kernel) ⟨(Nat.le_of_ble_eq_true rfl), (Nat.le_of_ble_eq_true rfl)⟩) (hw_preV (ci := 12) hE hR rfl (by decide) (hw_q_of ht10)) rfl rfl hl.sz rfl (lv_room (Nat.le_of_ble_eq_true rfl)) dX12_two_10 ⟨(Nat.le_of_ble_eq_true rfl), (Nat.le_of_ble_eq_true rfl)⟩) ?_
    refine lv_if_eq (tgt := 24) hx hb dX12_two_13 (by decide) (fun c13 => ?_) (fun c13 => ?_)
    · have hm := hw_ip hm c13
      exact w12_two_b24 C0 hm hR hS (hl.sub [0] rfl)
    · have hm := hw_in hm c13
      refine hw_aload_n hx hb dX12_two_16 rfl (hl.at 0 rfl) ?_
      refine lv_iload_n hx hb dX12_two_17 rfl (hl.at 3 rfl) ?_
      obtain ⟨a18, g18, hm⟩ := hw_bs hm
      obtain ⟨rfl, ht18⟩ := hw_rv_th g18
      obtain ⟨v18, e18, hm⟩ := hw_bs hm
      refine hw_cRI (va_runV (As := [.int l3]) (rest := []) ⟨hx, hb, hml, hown, hts⟩ (c12_isStuff l D b e18) (cwV 1 hts (hw_gV hw_m129 hw_m130 hw_m131 hw_m5 hw_m132) rfl rfl rfl (by decide +kernel) ⟨(Nat.le_of_ble_eq_true rfl), (Nat.le_of_ble_eq_true rfl)⟩) (hw_preV (ci := 12) hE hR rfl (by decide) (hw_q_of ht18)) rfl rfl hl.sz rfl (lv_room (Nat.le_of_ble_eq_true rfl)) dX12_two_18 ⟨(Nat.le_of_ble_eq_true rfl), (Nat.le_of_ble_eq_true rfl)⟩) ?_
      refine lv_if_ne (tgt := 26) hx hb dX12_two_21 (by decide) (fun c21 => ?_) (fun c21 => ?_)
      · have hm := hw_in hm c21
        refine lv_iload hx hb dX12_two_26 (hl.at 4 rfl) ?_
        refine lv_iconst (v := 1) hx hb dX12_two_28 (by decide) ?_
        refine lv_bipush (v := 99) hx hb dX12_two_29 (by decide) ?_
        obtain ⟨v31, e31, hm⟩ := hw_bs hm
        refine hw_cRI (va_runS (As := [.int l4, .int (1 : Int32), .int (99 : Int32)]) (rest := []) ⟨hx, hb, hml, hown, hts⟩ (c12_in l D e31) (cwS 3 hts (hw_gS hw_m112 hw_m113 hw_m5 hw_m114) rfl rfl rfl (by decide +kernel) ⟨(Nat.le_of_ble_eq_true rfl), (Nat.le_of_ble_eq_true rfl)⟩) (hw_pre0 hE) rfl rfl hl.sz rfl (lv_room (Nat.le_of_ble_eq_true rfl)) dX12_two_31 ⟨(Nat.le_of_ble_eq_true rfl), (Nat.le_of_ble_eq_true rfl)⟩) ?_
        refine lv_if_eq (tgt := 71) hx hb dX12_two_34 (by decide) (fun c34 => ?_) (fun c34 => ?_)
        · have hm := hw_ip hm c34
          exact w12_two_b71 C0 hm hR hS (hl.sub [0] rfl)
        · have hm := hw_in hm c34
          refine lv_iload hx hb dX12_two_37 (hl.at 5 rfl) ?_
          refine lv_iconst (v := 0) hx hb dX12_two_39 (by decide) ?_
          refine lv_sipush (v := 2099) hx hb dX12_two_40 (by decide) ?_
          obtain ⟨v43, e43, hm⟩ := hw_bs hm
          refine hw_cRI (va_runS (As := [.int l5, .int (0 : Int32), .int (2099 : Int32)]) (rest := []) ⟨hx, hb, hml, hown, hts⟩ (c12_in l D e43) (cwS 3 hts (hw_gS hw_m112 hw_m113 hw_m5 hw_m114) rfl rfl rfl (by decide +kernel) ⟨(Nat.le_of_ble_eq_true rfl), (Nat.le_of_ble_eq_true rfl)⟩) (hw_pre0 hE) rfl rfl hl.sz rfl (lv_room (Nat.le_of_ble_eq_true rfl)) dX12_two_43 ⟨(Nat.le_of_ble_eq_true rfl), (Nat.le_of_ble_eq_true rfl)⟩) ?_
          refine lv_if_eq (tgt := 71) hx hb dX12_two_46 (by decide) (fun c46 => ?_) (fun c46 => ?_)
          · have hm := hw_ip hm c46
            exact w12_two_b71 C0 hm hR hS (hl.sub [0] rfl)
          · have hm := hw_in hm c46
            refine lv_iload hx hb dX12_two_49 (hl.at 5 rfl) ?_
            refine lv_bipush (v := 100) hx hb dX12_two_51 (by decide) ?_
            obtain ⟨v53, e53, hm⟩ := hw_bs hm
            refine hw_idiv hx hb e53 dX12_two_53 ?_
            obtain ⟨v54, e54, hm⟩ := hw_bs hm
            refine hw_cRI (va_runS (As := [.int v53]) (rest := []) ⟨hx, hb, hml, hown, hts⟩ (c12_isFlow l D e54) (cwS 1 hts (hw_gS hw_m699 hw_m700 hw_m5 hw_m701) rfl rfl rfl (by decide +kernel) ⟨(Nat.le_of_ble_eq_true rfl), (Nat.le_of_ble_eq_true rfl)⟩) (hw_pre0 hE) rfl rfl hl.sz rfl (lv_room (Nat.le_of_ble_eq_true rfl)) dX12_two_54 ⟨(Nat.le_of_ble_eq_true rfl), (Nat.le_of_ble_eq_true rfl)⟩) ?_
            refine lv_if_eq (tgt := 71) hx hb dX12_two_57 (by decide) (fun c57 => ?_) (fun c57 => ?_)
            · have hm := hw_ip hm c57
              exact w12_two_b71 C0 hm hR hS (hl.sub [0] rfl)
            · have hm := hw_in hm c57
              refine lv_iload hx hb dX12_two_60 (hl.at 5 rfl) ?_
              refine lv_bipush (v := 100) hx hb dX12_two_62 (by decide) ?_
              obtain ⟨v64, e64, hm⟩ := hw_bs hm
              refine hw_irem hx hb e64 dX12_two_64 ?_
              obtain ⟨v65, e65, hm⟩ := hw_bs hm
              refine hw_cRI (va_runS (As := [.int v64]) (rest := []) ⟨hx, hb, hml, hown, hts⟩ (c12_isFlow l D e65) (cwS 1 hts (hw_gS hw_m699 hw_m700 hw_m5 hw_m701) rfl rfl rfl (by decide +kernel) ⟨(Nat.le_of_ble_eq_true rfl), (Nat.le_of_ble_eq_true rfl)⟩) (hw_pre0 hE) rfl rfl hl.sz rfl (lv_room (Nat.le_of_ble_eq_true rfl)) dX12_two_65 ⟨(Nat.le_of_ble_eq_true rfl), (Nat.le_of_ble_eq_true rfl)⟩) ?_
              refine lv_if_ne (tgt := 74) hx hb dX12_two_68 (by decide) (fun c68 => ?_) (fun c68 => ?_)
              · have hm := hw_in hm c68
                refine lv_iconst (v := 1) hx hb dX12_two_74 (by decide) ?_
                refine hw_istore (lv' := [(6, .int (1 : Int32)), (0, hw_vr b (some x0)), (1, .int l1), (2, .int l2), (3, .int l3), (4, .int l4), (5, .int l5)]) hx hb dX12_two_75 hl (by decide) (by decide) rfl (fun ls hl => ?_)
                exact w12_two_b77 C0 hw_fu hm hR hS (hl.sub [1, 2, 3, 4, 5, 6, 0] rfl)
              · have hm := hw_ip hm c68
                exact w12_two_b71 C0 hm hR hS (hl.sub [0] rfl)
      · have hm := hw_ip hm c21
        exact w12_two_b24 C0 hm hR hS (hl.sub [0] rfl)
set_option maxRecDepth 100000 in
theorem c12_two (l : Launch) (D : hw_D) (b : Nat) {x0 : Nat} {l1 : Int32} {l2 : Int32} {l3 : Int32} {l4 : Int32} {l5 : Int32} {σ : hw_S} {r : Int32} {τ : hw_S} (hm : m12_two x0 l1 l2 l3 l4 l5 σ = some (r, τ)) : Met l yX12_two (Cond.code yX12_two cX12_two 7 (some .int) :: wsL_law) rm12_two (hw_P1 D b σ [hw_vr b (some x0), .int l1, .int l2, .int l3, .int l4, .int l5]) (hw_QI D b τ r) 0 0 (fun q => b ≤ q) := by
  refine hw_start1 (by decide +kernel) (by exact Nat.le_of_ble_eq_true rfl) ?_
  intro p e s m below meth c ls C0 hR hS hl
  have hl : lv_has ls 7 [(0, hw_vr b (some x0)), (1, .int l1), (2, .int l2), (3, .int l3), (4, .int l4), (5, .int l5)] := by exact hl
  exact w12_two_s hm C0 hR hS ⟨hl, (List.forall_mem_cons.mpr ⟨(fun h => by rw [show (hw_vr b (some x0) : Value).category = 1 from (hw_vr_cat _ _)] at h; cases h), (List.forall_mem_cons.mpr ⟨(fun h => absurd (show (1 : Nat) = 2 from h) (by decide)), (List.forall_mem_cons.mpr ⟨(fun h => absurd (show (1 : Nat) = 2 from h) (by decide)), (List.forall_mem_cons.mpr ⟨(fun h => absurd (show (1 : Nat) = 2 from h) (by decide)), (List.forall_mem_cons.mpr ⟨(fun h => absurd (show (1 : Nat) = 2 from h) (by decide)), (List.forall_mem_cons.mpr ⟨(fun h => absurd (show (1 : Nat) = 2 from h) (by decide)), (fun _ h => absurd h List.not_mem_nil)⟩)⟩)⟩)⟩)⟩)⟩)⟩

abbrev rm10_begin : Room := { frames := 0, cells := 0, slots := 0, locals := 0 }
def m10_begin (x0 : Nat) (σ : hw_S) : Option hw_S :=
  (hw_pI (hw_q 10) 1 (some x0) (0 : Int32) σ).bind fun σ2 =>
  some σ2
set_option maxRecDepth 100000 in
theorem w10_begin_s {p : Program} {l : Launch} {e : Env} {s : State} {m : MethodId} {args : Array Value} {below : List Frame} {meth : Method} {c : Code} {D : hw_D} {b : Nat} {x0 : Nat} {σ : hw_S} {τ : hw_S} {H : Heap} {locs : List Loc} (hm : m10_begin x0 σ = some τ) (C0 : hw_C p s m args meth c D yX10_begin cX10_begin 1 none) (hR : hw_R D b σ H) (hS : va_S (fun q => b ≤ q) s.heap H locs) {ls : Array Slot} (hl : hw_L ls 1 255 [(0, hw_vr b (some x0))]) : W p l e rm10_begin s m args below meth c H locs 0 0 (MQ below (hw_QV D b τ) args s 0 0 (fun q => b ≤ q)) (F0 m 0 ls []) := by
  obtain ⟨hx, hb, hml, hr, hown, hts, hlk, hE, hnm⟩ := id C0
  have hown : s.vm.findClass RX10 = some m.cls := hown
  have hK := hE.1
  unfold m10_begin at hm
  refine hw_aload_n hx hb dX10_begin_0 rfl (hl.at 0 rfl) ?_
  refine lv_iconst (v := 0) hx hb dX10_begin_1 (by decide) ?_
  obtain ⟨σ2, e2, hm⟩ := hw_bs hm
  refine hw_putI hx hb hw_cf10 hts hown hK hR hS e2 (by decide) rfl rfl (hts _ hw_m71) (fun _ h9 => h9) (Or.inl rfl) dX10_begin_2 (fun _ _ hR hS => ?_)
  exact hw_rWV hx hb hr hlk hR hS hm dX10_begin_5
set_option maxRecDepth 100000 in
theorem c10_begin (l : Launch) (D : hw_D) (b : Nat) {x0 : Nat} {σ : hw_S} {τ : hw_S} (hm : m10_begin x0 σ = some τ) : Met l yX10_begin (Cond.code yX10_begin cX10_begin 1 none :: wsL_law) rm10_begin (hw_P1 D b σ [hw_vr b (some x0)]) (hw_QV D b τ) 0 0 (fun q => b ≤ q) := by
  refine hw_start1 (by decide +kernel) (by exact Nat.le_of_ble_eq_true rfl) ?_
  intro p e s m below meth c ls C0 hR hS hl
  have hl : lv_has ls 1 [(0, hw_vr b (some x0))] := by exact hl
  exact w10_begin_s hm C0 hR hS ⟨hl, (List.forall_mem_cons.mpr ⟨(fun h => by rw [show (hw_vr b (some x0) : Value).category = 1 from (hw_vr_cat _ _)] at h; cases h), (fun _ h => absurd h List.not_mem_nil)⟩)⟩

abbrev rm10_add : Room := { frames := 0, cells := 0, slots := 0, locals := 0 }
def m10_add_b19 (x0 : Nat) (σ : hw_S) : Option hw_S :=
  (hw_gI (hw_q 10) 1 (some x0) σ).bind fun v21 =>
  (hw_pI (hw_q 10) 1 (some x0) (v21 + (1 : Int32)) σ).bind fun σ26 =>
  some σ26
set_option maxRecDepth 100000 in
theorem w10_add_b19 {p : Program} {l : Launch} {e : Env} {s : State} {m : MethodId} {args : Array Value} {below : List Frame} {meth : Method} {c : Code} {D : hw_D} {b : Nat} {τ : hw_S} (C0 : hw_C p s m args meth c D yX10_add cX10_add 2 none) {x0 : Nat} {σ : hw_S} {H : Heap} {locs : List Loc} (hm : m10_add_b19 x0 σ = some τ) (hR : hw_R D b σ H) (hS : va_S (fun q => b ≤ q) s.heap H locs) {ls : Array Slot} (hl : hw_L ls 2 255 [(0, hw_vr b (some x0))]) : W p l e rm10_add s m args below meth c H locs 0 0 (MQ below (hw_QV D b τ) args s 0 0 (fun q => b ≤ q)) (F0 m 19 ls []) := by
  obtain ⟨hx, hb, hml, hr, hown, hts, hlk, hE, hnm⟩ := id C0
  have hown : s.vm.findClass RX10 = some m.cls := hown
  have hK := hE.1
  unfold m10_add_b19 at hm
  refine hw_aload_n hx hb dX10_add_19 rfl (hl.at 0 rfl) ?_
  refine lv_dup hx hb dX10_add_20 (hw_vr_cat _ _) ?_
  obtain ⟨v21, e21, hm⟩ := hw_bs hm
  refine hw_getI hx hb hw_cf10 hts hown hK hR e21 (by decide) rfl (hts _ hw_m71) (fun _ h9 => h9) dX10_add_21 ?_
  refine lv_iconst (v := 1) hx hb dX10_add_24 (by decide) ?_
  refine lv_iadd hx hb dX10_add_25 ?_
  obtain ⟨σ26, e26, hm⟩ := hw_bs hm
  refine hw_putI hx hb hw_cf10 hts hown hK hR hS e26 (by decide) rfl rfl (hts _ hw_m71) (fun _ h9 => h9) (Or.inl rfl) dX10_add_26 (fun _ _ hR hS => ?_)
  exact hw_rWV hx hb hr hlk hR hS hm dX10_add_29
def m10_add (x0 : Nat) (l1 : Int32) (σ : hw_S) : Option hw_S :=
  (hw_gI (hw_q 10) 1 (some x0) σ).bind fun v1 =>
  (if (20 : Int32) ≤ v1 then
  m10_add_b19 x0 σ
  else
  (hw_gP (hw_q 10) 0 (some x0) σ).bind fun v10 =>
  (hw_gI (hw_q 10) 1 (some x0) σ).bind fun v14 =>
  (hw_sI v10 v14 l1 σ).bind fun σ18 =>
  m10_add_b19 x0 σ18)
set_option maxRecDepth 100000 in
theorem w10_add_s {p : Program} {l : Launch} {e : Env} {s : State} {m : MethodId} {args : Array Value} {below : List Frame} {meth : Method} {c : Code} {D : hw_D} {b : Nat} {x0 : Nat} {l1 : Int32} {σ : hw_S} {τ : hw_S} {H : Heap} {locs : List Loc} (hm : m10_add x0 l1 σ = some τ) (C0 : hw_C p s m args meth c D yX10_add cX10_add 2 none) (hR : hw_R D b σ H) (hS : va_S (fun q => b ≤ q) s.heap H locs) {ls : Array Slot} (hl : hw_L ls 2 255 [(0, hw_vr b (some x0)), (1, .int l1)]) : W p l e rm10_add s m args below meth c H locs 0 0 (MQ below (hw_QV D b τ) args s 0 0 (fun q => b ≤ q)) (F0 m 0 ls []) := by
  obtain ⟨hx, hb, hml, hr, hown, hts, hlk, hE, hnm⟩ := id C0
  have hown : s.vm.findClass RX10 = some m.cls := hown
  have hK := hE.1
  unfold m10_add at hm
  refine hw_aload_n hx hb dX10_add_0 rfl (hl.at 0 rfl) ?_
  obtain ⟨v1, e1, hm⟩ := hw_bs hm
  refine hw_getI hx hb hw_cf10 hts hown hK hR e1 (by decide) rfl (hts _ hw_m71) (fun _ h9 => h9) dX10_add_1 ?_
  refine lv_bipush (v := 20) hx hb dX10_add_4 (by decide) ?_
  refine lv_icmp_ge (tgt := 19) hx hb dX10_add_6 (by decide) (fun c6 => ?_) (fun c6 => ?_)
  · have hm := hw_ip hm c6
    exact w10_add_b19 C0 hm hR hS (hl.sub [0] rfl)
  · have hm := hw_in hm c6
    refine hw_aload_n hx hb dX10_add_9 rfl (hl.at 0 rfl) ?_
    obtain ⟨v10, e10, hm⟩ := hw_bs hm
    refine hw_getP hx hb hw_cf10 hts hown hK hR e10 (by decide) rfl (hts _ hw_m70) (fun _ h9 => h9) dX10_add_10 ?_
    refine hw_aload_n hx hb dX10_add_13 rfl (hl.at 0 rfl) ?_
    obtain ⟨v14, e14, hm⟩ := hw_bs hm
    refine hw_getI hx hb hw_cf10 hts hown hK hR e14 (by decide) rfl (hts _ hw_m71) (fun _ h9 => h9) dX10_add_14 ?_
    refine lv_iload_n hx hb dX10_add_17 rfl (hl.at 1 rfl) ?_
    obtain ⟨σ18, e18, hm⟩ := hw_bs hm
    refine hw_iast hx hb hK hR hS e18 dX10_add_18 (fun _ _ hR hS => ?_)
    exact w10_add_b19 C0 hm hR hS (hl.sub [0] rfl)
set_option maxRecDepth 100000 in
theorem c10_add (l : Launch) (D : hw_D) (b : Nat) {x0 : Nat} {l1 : Int32} {σ : hw_S} {τ : hw_S} (hm : m10_add x0 l1 σ = some τ) : Met l yX10_add (Cond.code yX10_add cX10_add 2 none :: wsL_law) rm10_add (hw_P1 D b σ [hw_vr b (some x0), .int l1]) (hw_QV D b τ) 0 0 (fun q => b ≤ q) := by
  refine hw_start1 (by decide +kernel) (by exact Nat.le_of_ble_eq_true rfl) ?_
  intro p e s m below meth c ls C0 hR hS hl
  have hl : lv_has ls 2 [(0, hw_vr b (some x0)), (1, .int l1)] := by exact hl
  exact w10_add_s hm C0 hR hS ⟨hl, (List.forall_mem_cons.mpr ⟨(fun h => by rw [show (hw_vr b (some x0) : Value).category = 1 from (hw_vr_cat _ _)] at h; cases h), (List.forall_mem_cons.mpr ⟨(fun h => absurd (show (1 : Nat) = 2 from h) (by decide)), (fun _ h => absurd h List.not_mem_nil)⟩)⟩)⟩

abbrev rm3_fallen : Room := { frames := 1, cells := 0, slots := 0, locals := 21 }
def m3_fallen (x0 : Nat) (l1 : Int32) (l2 : Option Nat) (σ : hw_S) : Option (Int32 × hw_S) :=
  (hw_rv (hw_q 10) l2 σ).bind fun a2 =>
  (m10_add a2 (1 : Int32) σ).bind fun σ2 =>
  (hw_gI hw_qL 1 (some x0) σ2).bind fun v7 =>
  some ((l1 + v7), σ2)
set_option maxRecDepth 100000 in
theorem w3_fallen_s {p : Program} {l : Launch} {e : Env} {s : State} {m : MethodId} {args : Array Value} {below : List Frame} {meth : Method} {c : Code} {D : hw_D} {b : Nat} {x0 : Nat} {l1 : Int32} {l2 : Option Nat} {σ : hw_S} {r : Int32} {τ : hw_S} {H : Heap} {locs : List Loc} (hm : m3_fallen x0 l1 l2 σ = some (r, τ)) (C0 : hw_C p s m args meth c D yX3_fallen cX3_fallen 3 (some .int)) (hR : hw_R D b σ H) (hS : va_S (fun q => b ≤ q) s.heap H locs) {ls : Array Slot} (hl : hw_L ls 3 255 [(0, hw_vr b (some x0)), (1, .int l1), (2, hw_vr b l2)]) : W p l e rm3_fallen s m args below meth c H locs 0 0 (MQ below (hw_QI D b τ r) args s 0 0 (fun q => b ≤ q)) (F0 m 0 ls []) := by
  obtain ⟨hx, hb, hml, hr, hown, hts, hlk, hE, hnm⟩ := id C0
  have hown : s.vm.findClass RX3 = some m.cls := hown
  have hK := hE.1
  unfold m3_fallen at hm
  refine hw_aload_n hx hb dX3_fallen_0 rfl (hl.at 2 rfl) ?_
  refine lv_iconst (v := 1) hx hb dX3_fallen_1 (by decide) ?_
  obtain ⟨a2, g2, hm⟩ := hw_bs hm
  obtain ⟨h2, ht2⟩ := hw_rv_of g2
  rw [h2]
  obtain ⟨σ2, e2, hm⟩ := hw_bs hm
  refine hw_cWV (va_runV (As := [.int (1 : Int32)]) (rest := []) ⟨hx, hb, hml, hown, hts⟩ (c10_add l D b e2) (cwV 1 hts (hw_gV hw_m899 hw_m900 hw_m901 hw_m25 hw_m902) rfl rfl rfl (by decide +kernel) ⟨(Nat.le_of_ble_eq_true rfl), (Nat.le_of_ble_eq_true rfl)⟩) (hw_preV (ci := 10) hE hR rfl (by decide) (hw_q_of ht2)) rfl rfl hl.sz rfl (lv_room (Nat.le_of_ble_eq_true rfl)) dX3_fallen_2 ⟨(Nat.le_of_ble_eq_true rfl), (Nat.le_of_ble_eq_true rfl)⟩) hS (fun _ _ hR hS => ?_)
  refine lv_iload_n hx hb dX3_fallen_5 rfl (hl.at 1 rfl) ?_
  refine hw_aload_n hx hb dX3_fallen_6 rfl (hl.at 0 rfl) ?_
  obtain ⟨v7, e7, hm⟩ := hw_bs hm
  refine hw_getI hx hb hw_cfL hts hown hK hR e7 (by decide) rfl (hts _ hw_m295) (fun _ h9 => h9) dX3_fallen_7 ?_
  refine lv_iadd hx hb dX3_fallen_10 ?_
  exact hw_rWI hx hb hr hlk hR hS hm dX3_fallen_11
set_option maxRecDepth 100000 in
theorem c3_fallen (l : Launch) (D : hw_D) (b : Nat) {x0 : Nat} {l1 : Int32} {l2 : Option Nat} {σ : hw_S} {r : Int32} {τ : hw_S} (hm : m3_fallen x0 l1 l2 σ = some (r, τ)) : Met l yX3_fallen (Cond.code yX3_fallen cX3_fallen 3 (some .int) :: wsL_law) rm3_fallen (hw_P1 D b σ [hw_vr b (some x0), .int l1, hw_vr b l2]) (hw_QI D b τ r) 0 0 (fun q => b ≤ q) := by
  refine hw_start1 (by decide +kernel) (by cases l2 <;> exact Nat.le_of_ble_eq_true rfl) ?_
  intro p e s m below meth c ls C0 hR hS hl
  have hl : lv_has ls 3 [(0, hw_vr b (some x0)), (1, .int l1), (2, hw_vr b l2)] := by cases l2 <;> exact hl
  exact w3_fallen_s hm C0 hR hS ⟨hl, (List.forall_mem_cons.mpr ⟨(fun h => by rw [show (hw_vr b (some x0) : Value).category = 1 from (hw_vr_cat _ _)] at h; cases h), (List.forall_mem_cons.mpr ⟨(fun h => absurd (show (1 : Nat) = 2 from h) (by decide)), (List.forall_mem_cons.mpr ⟨(fun h => by rw [show (hw_vr b l2 : Value).category = 1 from (hw_vr_cat _ _)] at h; cases h), (fun _ h => absurd h List.not_mem_nil)⟩)⟩)⟩)⟩

abbrev rm6_fallen : Room := { frames := 2, cells := 0, slots := 0, locals := 43 }
def m6_fallen (x0 : Nat) (l1 : Int32) (l2 : Option Nat) (σ : hw_S) : Option (Int32 × hw_S) :=
  (hw_rv (hw_q 10) l2 σ).bind fun a3 =>
  (m10_add a3 (51 : Int32) σ).bind fun σ3 =>
  (hw_rv hw_qL (some x0) σ3).bind fun a9 =>
  hw_b2 (m3_fallen x0 l1 l2 σ3) fun v9 σ9 =>
  (hw_gI hw_qL 1 (some x0) σ9).bind fun v13 =>
  some ((v9 ^^^ v13), σ9)
set_option maxRecDepth 100000 in
theorem w6_fallen_s {p : Program} {l : Launch} {e : Env} {s : State} {m : MethodId} {args : Array Value} {below : List Frame} {meth : Method} {c : Code} {D : hw_D} {b : Nat} {x0 : Nat} {l1 : Int32} {l2 : Option Nat} {σ : hw_S} {r : Int32} {τ : hw_S} {H : Heap} {locs : List Loc} (hm : m6_fallen x0 l1 l2 σ = some (r, τ)) (C0 : hw_C p s m args meth c D yX6_fallen cX6_fallen 3 (some .int)) (hR : hw_R D b σ H) (hS : va_S (fun q => b ≤ q) s.heap H locs) {ls : Array Slot} (hl : hw_L ls 3 255 [(0, hw_vr b (some x0)), (1, .int l1), (2, hw_vr b l2)]) : W p l e rm6_fallen s m args below meth c H locs 0 0 (MQ below (hw_QI D b τ r) args s 0 0 (fun q => b ≤ q)) (F0 m 0 ls []) := by
  obtain ⟨hx, hb, hml, hr, hown, hts, hlk, hE, hnm⟩ := id C0
  have hown : s.vm.findClass RX6 = some m.cls := hown
  have hK := hE.1
  unfold m6_fallen at hm
  refine hw_aload_n hx hb dX6_fallen_0 rfl (hl.at 2 rfl) ?_
  refine lv_bipush (v := 51) hx hb dX6_fallen_1 (by decide) ?_
  obtain ⟨a3, g3, hm⟩ := hw_bs hm
  obtain ⟨h3, ht3⟩ := hw_rv_of g3
  rw [h3]
  obtain ⟨σ3, e3, hm⟩ := hw_bs hm
  refine hw_cWV (va_runV (As := [.int (51 : Int32)]) (rest := []) ⟨hx, hb, hml, hown, hts⟩ (c10_add l D b e3) (cwV 1 hts (hw_gV hw_m914 hw_m900 hw_m901 hw_m25 hw_m902) rfl rfl rfl (by decide +kernel) ⟨(Nat.le_of_ble_eq_true rfl), (Nat.le_of_ble_eq_true rfl)⟩) (hw_preV (ci := 10) hE hR rfl (by decide) (hw_q_of ht3)) rfl rfl hl.sz rfl (lv_room (Nat.le_of_ble_eq_true rfl)) dX6_fallen_3 ⟨(Nat.le_of_ble_eq_true rfl), (Nat.le_of_ble_eq_true rfl)⟩) hS (fun _ _ hR hS => ?_)
  refine hw_aload_n hx hb dX6_fallen_6 rfl (hl.at 0 rfl) ?_
  refine lv_iload_n hx hb dX6_fallen_7 rfl (hl.at 1 rfl) ?_
  refine hw_aload_n hx hb dX6_fallen_8 rfl (hl.at 2 rfl) ?_
  obtain ⟨a9, g9, hm⟩ := hw_bs hm
  obtain ⟨rfl, ht9⟩ := hw_rv_th g9
  obtain ⟨C9, cC9, hat9, hpre9⟩ := hw_preL (av := [.int l1, hw_vr b l2]) hE hR ht9
  obtain ⟨v9, σ9, e9, hm⟩ := hw_bs2 hm
  refine hw_cWI (hw_runSU2 (As := [.int l1, hw_vr b l2]) (rest := []) hat9 ⟨hx, hb, hml, hown, hts⟩ (c3_fallen l D b e9) 2 (hts _ hw_m1070) (hts _ hw_m1071) (hts _ hw_m1076) (hts _ hw_m929) (hts _ hw_m897) (hts _ hw_m285) (hw_gC hw_m898) (by decide +kernel) (Nat.le_of_ble_eq_true rfl) (Nat.le_of_ble_eq_true rfl) hpre9 rfl rfl hl.sz rfl (lv_room (Nat.le_of_ble_eq_true rfl)) dX6_fallen_9 ⟨(Nat.le_of_ble_eq_true rfl), (Nat.le_of_ble_eq_true rfl)⟩) hS (fun _ _ hR hS => ?_)
  refine hw_aload_n hx hb dX6_fallen_12 rfl (hl.at 0 rfl) ?_
  obtain ⟨v13, e13, hm⟩ := hw_bs hm
  refine hw_getI hx hb hw_cfL hts hown hK hR e13 (by decide) rfl (hts _ hw_m912) (fun x9 h9 => u_same (hts _ hw_m913) x9 h9) dX6_fallen_13 ?_
  refine lv_ixor hx hb dX6_fallen_16 ?_
  exact hw_rWI hx hb hr hlk hR hS hm dX6_fallen_17
set_option maxRecDepth 100000 in
theorem c6_fallen (l : Launch) (D : hw_D) (b : Nat) {x0 : Nat} {l1 : Int32} {l2 : Option Nat} {σ : hw_S} {r : Int32} {τ : hw_S} (hm : m6_fallen x0 l1 l2 σ = some (r, τ)) : Met l yX6_fallen (Cond.code yX6_fallen cX6_fallen 3 (some .int) :: wsL_law) rm6_fallen (hw_P1 D b σ [hw_vr b (some x0), .int l1, hw_vr b l2]) (hw_QI D b τ r) 0 0 (fun q => b ≤ q) := by
  refine hw_start1 (by decide +kernel) (by cases l2 <;> exact Nat.le_of_ble_eq_true rfl) ?_
  intro p e s m below meth c ls C0 hR hS hl
  have hl : lv_has ls 3 [(0, hw_vr b (some x0)), (1, .int l1), (2, hw_vr b l2)] := by cases l2 <;> exact hl
  exact w6_fallen_s hm C0 hR hS ⟨hl, (List.forall_mem_cons.mpr ⟨(fun h => by rw [show (hw_vr b (some x0) : Value).category = 1 from (hw_vr_cat _ _)] at h; cases h), (List.forall_mem_cons.mpr ⟨(fun h => absurd (show (1 : Nat) = 2 from h) (by decide)), (List.forall_mem_cons.mpr ⟨(fun h => by rw [show (hw_vr b l2 : Value).category = 1 from (hw_vr_cat _ _)] at h; cases h), (fun _ h => absurd h List.not_mem_nil)⟩)⟩)⟩)⟩

abbrev rm7_fallen : Room := { frames := 2, cells := 0, slots := 0, locals := 43 }
def m7_fallen (x0 : Nat) (l1 : Int32) (l2 : Option Nat) (σ : hw_S) : Option (Int32 × hw_S) :=
  (hw_rv (hw_q 10) l2 σ).bind fun a3 =>
  (m10_add a3 (11 : Int32) σ).bind fun σ3 =>
  (hw_rv hw_qL (some x0) σ3).bind fun a11 =>
  hw_b2 (m3_fallen x0 (l1 * (3 : Int32)) l2 σ3) fun v11 σ11 =>
  some (v11, σ11)
set_option maxRecDepth 100000 in
theorem w7_fallen_s {p : Program} {l : Launch} {e : Env} {s : State} {m : MethodId} {args : Array Value} {below : List Frame} {meth : Method} {c : Code} {D : hw_D} {b : Nat} {x0 : Nat} {l1 : Int32} {l2 : Option Nat} {σ : hw_S} {r : Int32} {τ : hw_S} {H : Heap} {locs : List Loc} (hm : m7_fallen x0 l1 l2 σ = some (r, τ)) (C0 : hw_C p s m args meth c D yX7_fallen cX7_fallen 3 (some .int)) (hR : hw_R D b σ H) (hS : va_S (fun q => b ≤ q) s.heap H locs) {ls : Array Slot} (hl : hw_L ls 3 255 [(0, hw_vr b (some x0)), (1, .int l1), (2, hw_vr b l2)]) : W p l e rm7_fallen s m args below meth c H locs 0 0 (MQ below (hw_QI D b τ r) args s 0 0 (fun q => b ≤ q)) (F0 m 0 ls []) := by
  obtain ⟨hx, hb, hml, hr, hown, hts, hlk, hE, hnm⟩ := id C0
  have hown : s.vm.findClass RX7 = some m.cls := hown
  have hK := hE.1
  unfold m7_fallen at hm
  refine hw_aload_n hx hb dX7_fallen_0 rfl (hl.at 2 rfl) ?_
  refine lv_bipush (v := 11) hx hb dX7_fallen_1 (by decide) ?_
  obtain ⟨a3, g3, hm⟩ := hw_bs hm
  obtain ⟨h3, ht3⟩ := hw_rv_of g3
  rw [h3]
  obtain ⟨σ3, e3, hm⟩ := hw_bs hm
  refine hw_cWV (va_runV (As := [.int (11 : Int32)]) (rest := []) ⟨hx, hb, hml, hown, hts⟩ (c10_add l D b e3) (cwV 1 hts (hw_gV hw_m918 hw_m900 hw_m901 hw_m25 hw_m902) rfl rfl rfl (by decide +kernel) ⟨(Nat.le_of_ble_eq_true rfl), (Nat.le_of_ble_eq_true rfl)⟩) (hw_preV (ci := 10) hE hR rfl (by decide) (hw_q_of ht3)) rfl rfl hl.sz rfl (lv_room (Nat.le_of_ble_eq_true rfl)) dX7_fallen_3 ⟨(Nat.le_of_ble_eq_true rfl), (Nat.le_of_ble_eq_true rfl)⟩) hS (fun _ _ hR hS => ?_)
  refine hw_aload_n hx hb dX7_fallen_6 rfl (hl.at 0 rfl) ?_
  refine lv_iload_n hx hb dX7_fallen_7 rfl (hl.at 1 rfl) ?_
  refine lv_iconst (v := 3) hx hb dX7_fallen_8 (by decide) ?_
  refine lv_imul hx hb dX7_fallen_9 ?_
  refine hw_aload_n hx hb dX7_fallen_10 rfl (hl.at 2 rfl) ?_
  obtain ⟨a11, g11, hm⟩ := hw_bs hm
  obtain ⟨rfl, ht11⟩ := hw_rv_th g11
  obtain ⟨C11, cC11, hat11, hpre11⟩ := hw_preL (av := [.int (l1 * (3 : Int32)), hw_vr b l2]) hE hR ht11
  obtain ⟨v11, σ11, e11, hm⟩ := hw_bs2 hm
  refine hw_cWI (va_runSU (As := [.int (l1 * (3 : Int32)), hw_vr b l2]) (rest := []) hat11 ⟨hx, hb, hml, hown, hts⟩ (c3_fallen l D b e11) (va_cwSU 2 hts (hw_gSU hw_m919 hw_m895 hw_m920 hw_m897 hw_m285 hw_m898) rfl rfl rfl (by decide +kernel) ⟨(Nat.le_of_ble_eq_true rfl), (Nat.le_of_ble_eq_true rfl)⟩) hpre11 rfl rfl hl.sz rfl (lv_room (Nat.le_of_ble_eq_true rfl)) dX7_fallen_11 ⟨(Nat.le_of_ble_eq_true rfl), (Nat.le_of_ble_eq_true rfl)⟩) hS (fun _ _ hR hS => ?_)
  exact hw_rWI hx hb hr hlk hR hS hm dX7_fallen_14
set_option maxRecDepth 100000 in
theorem c7_fallen (l : Launch) (D : hw_D) (b : Nat) {x0 : Nat} {l1 : Int32} {l2 : Option Nat} {σ : hw_S} {r : Int32} {τ : hw_S} (hm : m7_fallen x0 l1 l2 σ = some (r, τ)) : Met l yX7_fallen (Cond.code yX7_fallen cX7_fallen 3 (some .int) :: wsL_law) rm7_fallen (hw_P1 D b σ [hw_vr b (some x0), .int l1, hw_vr b l2]) (hw_QI D b τ r) 0 0 (fun q => b ≤ q) := by
  refine hw_start1 (by decide +kernel) (by cases l2 <;> exact Nat.le_of_ble_eq_true rfl) ?_
  intro p e s m below meth c ls C0 hR hS hl
  have hl : lv_has ls 3 [(0, hw_vr b (some x0)), (1, .int l1), (2, hw_vr b l2)] := by cases l2 <;> exact hl
  exact w7_fallen_s hm C0 hR hS ⟨hl, (List.forall_mem_cons.mpr ⟨(fun h => by rw [show (hw_vr b (some x0) : Value).category = 1 from (hw_vr_cat _ _)] at h; cases h), (List.forall_mem_cons.mpr ⟨(fun h => absurd (show (1 : Nat) = 2 from h) (by decide)), (List.forall_mem_cons.mpr ⟨(fun h => by rw [show (hw_vr b l2 : Value).category = 1 from (hw_vr_cat _ _)] at h; cases h), (fun _ h => absurd h List.not_mem_nil)⟩)⟩)⟩)⟩

def mv_fallen (x0 : Nat) (l1 : Int32) (l2 : Option Nat) (σ : hw_S) : Option (Int32 × hw_S) :=
  (if σ.1 x0 = 1 then m3_fallen x0 l1 l2 σ else (if σ.1 x0 = 2 then m3_fallen x0 l1 l2 σ else (if σ.1 x0 = 3 then m3_fallen x0 l1 l2 σ else (if σ.1 x0 = 4 then m3_fallen x0 l1 l2 σ else (if σ.1 x0 = 6 then m3_fallen x0 l1 l2 σ else (if σ.1 x0 = 7 then m6_fallen x0 l1 l2 σ else (if σ.1 x0 = 8 then m7_fallen x0 l1 l2 σ else  none)))))))
theorem mv_fallen_0 {x0 : Nat} {l1 : Int32} {l2 : Option Nat} {σ : hw_S} (h : σ.1 x0 = 1) : mv_fallen x0 l1 l2 σ = m3_fallen x0 l1 l2 σ := by simp [mv_fallen, h]
theorem mv_fallen_1 {x0 : Nat} {l1 : Int32} {l2 : Option Nat} {σ : hw_S} (h : σ.1 x0 = 2) : mv_fallen x0 l1 l2 σ = m3_fallen x0 l1 l2 σ := by simp [mv_fallen, h]
theorem mv_fallen_2 {x0 : Nat} {l1 : Int32} {l2 : Option Nat} {σ : hw_S} (h : σ.1 x0 = 3) : mv_fallen x0 l1 l2 σ = m3_fallen x0 l1 l2 σ := by simp [mv_fallen, h]
theorem mv_fallen_3 {x0 : Nat} {l1 : Int32} {l2 : Option Nat} {σ : hw_S} (h : σ.1 x0 = 4) : mv_fallen x0 l1 l2 σ = m3_fallen x0 l1 l2 σ := by simp [mv_fallen, h]
theorem mv_fallen_5 {x0 : Nat} {l1 : Int32} {l2 : Option Nat} {σ : hw_S} (h : σ.1 x0 = 6) : mv_fallen x0 l1 l2 σ = m3_fallen x0 l1 l2 σ := by simp [mv_fallen, h]
theorem mv_fallen_6 {x0 : Nat} {l1 : Int32} {l2 : Option Nat} {σ : hw_S} (h : σ.1 x0 = 7) : mv_fallen x0 l1 l2 σ = m6_fallen x0 l1 l2 σ := by simp [mv_fallen, h]
theorem mv_fallen_7 {x0 : Nat} {l1 : Int32} {l2 : Option Nat} {σ : hw_S} (h : σ.1 x0 = 8) : mv_fallen x0 l1 l2 σ = m7_fallen x0 l1 l2 σ := by simp [mv_fallen, h]

abbrev rm3_wound : Room := { frames := 3, cells := 0, slots := 0, locals := 65 }
def m3_wound (x0 : Nat) (l1 : Int32) (l2 : Option Nat) (σ : hw_S) : Option (Int32 × hw_S) :=
  (hw_rv (hw_q 10) l2 σ).bind fun a2 =>
  (m10_add a2 (2 : Int32) σ).bind fun σ2 =>
  (hw_rv hw_qL (some x0) σ2).bind fun a8 =>
  hw_b2 (mv_fallen x0 l1 l2 σ2) fun v8 σ8 =>
  (hw_gI hw_qL 2 (some x0) σ8).bind fun v12 =>
  some ((v8 - v12), σ8)
set_option maxRecDepth 100000 in
theorem w3_wound_s {p : Program} {l : Launch} {e : Env} {s : State} {m : MethodId} {args : Array Value} {below : List Frame} {meth : Method} {c : Code} {D : hw_D} {b : Nat} {x0 : Nat} {l1 : Int32} {l2 : Option Nat} {σ : hw_S} {r : Int32} {τ : hw_S} {H : Heap} {locs : List Loc} (hm : m3_wound x0 l1 l2 σ = some (r, τ)) (C0 : hw_C p s m args meth c D yX3_wound cX3_wound 3 (some .int)) (hR : hw_R D b σ H) (hS : va_S (fun q => b ≤ q) s.heap H locs) {ls : Array Slot} (hl : hw_L ls 3 255 [(0, hw_vr b (some x0)), (1, .int l1), (2, hw_vr b l2)]) : W p l e rm3_wound s m args below meth c H locs 0 0 (MQ below (hw_QI D b τ r) args s 0 0 (fun q => b ≤ q)) (F0 m 0 ls []) := by
  obtain ⟨hx, hb, hml, hr, hown, hts, hlk, hE, hnm⟩ := id C0
  have hown : s.vm.findClass RX3 = some m.cls := hown
  have hK := hE.1
  unfold m3_wound at hm
  refine hw_aload_n hx hb dX3_wound_0 rfl (hl.at 2 rfl) ?_
  refine lv_iconst (v := 2) hx hb dX3_wound_1 (by decide) ?_
  obtain ⟨a2, g2, hm⟩ := hw_bs hm
  obtain ⟨h2, ht2⟩ := hw_rv_of g2
  rw [h2]
  obtain ⟨σ2, e2, hm⟩ := hw_bs hm
  refine hw_cWV (va_runV (As := [.int (2 : Int32)]) (rest := []) ⟨hx, hb, hml, hown, hts⟩ (c10_add l D b e2) (cwV 1 hts (hw_gV hw_m899 hw_m900 hw_m901 hw_m25 hw_m902) rfl rfl rfl (by decide +kernel) ⟨(Nat.le_of_ble_eq_true rfl), (Nat.le_of_ble_eq_true rfl)⟩) (hw_preV (ci := 10) hE hR rfl (by decide) (hw_q_of ht2)) rfl rfl hl.sz rfl (lv_room (Nat.le_of_ble_eq_true rfl)) dX3_wound_2 ⟨(Nat.le_of_ble_eq_true rfl), (Nat.le_of_ble_eq_true rfl)⟩) hS (fun _ _ hR hS => ?_)
  refine hw_aload_n hx hb dX3_wound_5 rfl (hl.at 0 rfl) ?_
  refine lv_iload_n hx hb dX3_wound_6 rfl (hl.at 1 rfl) ?_
  refine hw_aload_n hx hb dX3_wound_7 rfl (hl.at 2 rfl) ?_
  obtain ⟨a8, g8, hm⟩ := hw_bs hm
  obtain ⟨rfl, ht8⟩ := hw_rv_th g8
  obtain ⟨v8, σ8, e8, hm⟩ := hw_bs2 hm
  refine hw_cWI (D := D) (r := v8) (τ := σ8) (mc := 0) (ms := 0) (rest := []) (a := (Value.ref (b + x0) :: [.int l1, hw_vr b l2]).toArray) ?_ hS (fun _ _ hR hS => ?_)
  · rcases hw_qL_or ht8 with ht8_0 | ht8_1 | ht8_2 | ht8_3 | ht8_5 | ht8_6 | ht8_7
    · exact va_runU (C := RX0) (owner := RX3) (As := [.int l1, hw_vr b l2]) (rest := []) ⟨hx, hb, hml, hown, hts⟩ (c3_fallen l D b ((mv_fallen_0 ht8_0).symm.trans e8)) (va_cwU 2 hts (hw_gU hw_m932 hw_m895 hw_m896 hw_m897 hw_m285 hw_m898) rfl rfl rfl rfl (by decide +kernel) ⟨(Nat.le_of_ble_eq_true rfl), (Nat.le_of_ble_eq_true rfl)⟩) (hw_preV (ci := 0) hE hR rfl (by decide) ht8_0) rfl rfl hl.sz rfl (lv_room (Nat.le_of_ble_eq_true rfl)) dX3_wound_8 ⟨(Nat.le_of_ble_eq_true rfl), (Nat.le_of_ble_eq_true rfl)⟩
    · exact va_runU (C := RX1) (owner := RX3) (As := [.int l1, hw_vr b l2]) (rest := []) ⟨hx, hb, hml, hown, hts⟩ (c3_fallen l D b ((mv_fallen_1 ht8_1).symm.trans e8)) (va_cwU 2 hts (hw_gU hw_m932 hw_m895 hw_m903 hw_m897 hw_m285 hw_m898) rfl rfl rfl rfl (by decide +kernel) ⟨(Nat.le_of_ble_eq_true rfl), (Nat.le_of_ble_eq_true rfl)⟩) (hw_preV (ci := 1) hE hR rfl (by decide) ht8_1) rfl rfl hl.sz rfl (lv_room (Nat.le_of_ble_eq_true rfl)) dX3_wound_8 ⟨(Nat.le_of_ble_eq_true rfl), (Nat.le_of_ble_eq_true rfl)⟩
    · exact va_runU (C := RX2) (owner := RX3) (As := [.int l1, hw_vr b l2]) (rest := []) ⟨hx, hb, hml, hown, hts⟩ (c3_fallen l D b ((mv_fallen_2 ht8_2).symm.trans e8)) (va_cwU 2 hts (hw_gU hw_m932 hw_m895 hw_m904 hw_m897 hw_m285 hw_m898) rfl rfl rfl rfl (by decide +kernel) ⟨(Nat.le_of_ble_eq_true rfl), (Nat.le_of_ble_eq_true rfl)⟩) (hw_preV (ci := 2) hE hR rfl (by decide) ht8_2) rfl rfl hl.sz rfl (lv_room (Nat.le_of_ble_eq_true rfl)) dX3_wound_8 ⟨(Nat.le_of_ble_eq_true rfl), (Nat.le_of_ble_eq_true rfl)⟩
    · exact va_runU (C := RX3) (owner := RX3) (As := [.int l1, hw_vr b l2]) (rest := []) ⟨hx, hb, hml, hown, hts⟩ (c3_fallen l D b ((mv_fallen_3 ht8_3).symm.trans e8)) (va_cwU 2 hts (hw_gU hw_m932 hw_m895 hw_m906 hw_m897 hw_m285 hw_m898) rfl rfl rfl rfl (by decide +kernel) ⟨(Nat.le_of_ble_eq_true rfl), (Nat.le_of_ble_eq_true rfl)⟩) (hw_preV (ci := 3) hE hR rfl (by decide) ht8_3) rfl rfl hl.sz rfl (lv_room (Nat.le_of_ble_eq_true rfl)) dX3_wound_8 ⟨(Nat.le_of_ble_eq_true rfl), (Nat.le_of_ble_eq_true rfl)⟩
    · exact va_runU (C := RX5) (owner := RX3) (As := [.int l1, hw_vr b l2]) (rest := []) ⟨hx, hb, hml, hown, hts⟩ (c3_fallen l D b ((mv_fallen_5 ht8_5).symm.trans e8)) (va_cwU 2 hts (hw_gU hw_m932 hw_m895 hw_m907 hw_m897 hw_m285 hw_m898) rfl rfl rfl rfl (by decide +kernel) ⟨(Nat.le_of_ble_eq_true rfl), (Nat.le_of_ble_eq_true rfl)⟩) (hw_preV (ci := 5) hE hR rfl (by decide) ht8_5) rfl rfl hl.sz rfl (lv_room (Nat.le_of_ble_eq_true rfl)) dX3_wound_8 ⟨(Nat.le_of_ble_eq_true rfl), (Nat.le_of_ble_eq_true rfl)⟩
    · exact va_runU (C := RX6) (owner := RX3) (As := [.int l1, hw_vr b l2]) (rest := []) ⟨hx, hb, hml, hown, hts⟩ (c6_fallen l D b ((mv_fallen_6 ht8_6).symm.trans e8)) (va_cwO 2 hts (hw_gO hw_m932 hw_m895 hw_m897 hw_m909 hw_m910 hw_m279 hw_m911) rfl rfl rfl hw_m898 (by decide +kernel) ⟨(Nat.le_of_ble_eq_true rfl), (Nat.le_of_ble_eq_true rfl)⟩) (hw_preV (ci := 6) hE hR rfl (by decide) ht8_6) rfl rfl hl.sz rfl (lv_room (Nat.le_of_ble_eq_true rfl)) dX3_wound_8 ⟨(Nat.le_of_ble_eq_true rfl), (Nat.le_of_ble_eq_true rfl)⟩
    · exact va_runU (C := RX7) (owner := RX3) (As := [.int l1, hw_vr b l2]) (rest := []) ⟨hx, hb, hml, hown, hts⟩ (c7_fallen l D b ((mv_fallen_7 ht8_7).symm.trans e8)) (va_cwO 2 hts (hw_gO hw_m932 hw_m895 hw_m897 hw_m915 hw_m916 hw_m267 hw_m917) rfl rfl rfl hw_m898 (by decide +kernel) ⟨(Nat.le_of_ble_eq_true rfl), (Nat.le_of_ble_eq_true rfl)⟩) (hw_preV (ci := 7) hE hR rfl (by decide) ht8_7) rfl rfl hl.sz rfl (lv_room (Nat.le_of_ble_eq_true rfl)) dX3_wound_8 ⟨(Nat.le_of_ble_eq_true rfl), (Nat.le_of_ble_eq_true rfl)⟩
  refine hw_aload_n hx hb dX3_wound_11 rfl (hl.at 0 rfl) ?_
  obtain ⟨v12, e12, hm⟩ := hw_bs hm
  refine hw_getI hx hb hw_cfL hts hown hK hR e12 (by decide) rfl (hts _ hw_m296) (fun _ h9 => h9) dX3_wound_12 ?_
  refine lv_isub hx hb dX3_wound_15 ?_
  exact hw_rWI hx hb hr hlk hR hS hm dX3_wound_16
set_option maxRecDepth 100000 in
theorem c3_wound (l : Launch) (D : hw_D) (b : Nat) {x0 : Nat} {l1 : Int32} {l2 : Option Nat} {σ : hw_S} {r : Int32} {τ : hw_S} (hm : m3_wound x0 l1 l2 σ = some (r, τ)) : Met l yX3_wound (Cond.code yX3_wound cX3_wound 3 (some .int) :: wsL_law) rm3_wound (hw_P1 D b σ [hw_vr b (some x0), .int l1, hw_vr b l2]) (hw_QI D b τ r) 0 0 (fun q => b ≤ q) := by
  refine hw_start1 (by decide +kernel) (by cases l2 <;> exact Nat.le_of_ble_eq_true rfl) ?_
  intro p e s m below meth c ls C0 hR hS hl
  have hl : lv_has ls 3 [(0, hw_vr b (some x0)), (1, .int l1), (2, hw_vr b l2)] := by cases l2 <;> exact hl
  exact w3_wound_s hm C0 hR hS ⟨hl, (List.forall_mem_cons.mpr ⟨(fun h => by rw [show (hw_vr b (some x0) : Value).category = 1 from (hw_vr_cat _ _)] at h; cases h), (List.forall_mem_cons.mpr ⟨(fun h => absurd (show (1 : Nat) = 2 from h) (by decide)), (List.forall_mem_cons.mpr ⟨(fun h => by rw [show (hw_vr b l2 : Value).category = 1 from (hw_vr_cat _ _)] at h; cases h), (fun _ h => absurd h List.not_mem_nil)⟩)⟩)⟩)⟩

abbrev rm2_wound : Room := { frames := 4, cells := 0, slots := 0, locals := 87 }
def m2_wound (x0 : Nat) (l1 : Int32) (l2 : Option Nat) (σ : hw_S) : Option (Int32 × hw_S) :=
  (hw_rv (hw_q 10) l2 σ).bind fun a3 =>
  (m10_add a3 (21 : Int32) σ).bind fun σ3 =>
  (hw_rv hw_qL (some x0) σ3).bind fun a9 =>
  hw_b2 (m3_wound x0 l1 l2 σ3) fun v9 σ9 =>
  some ((-v9), σ9)
set_option maxRecDepth 100000 in
theorem w2_wound_s {p : Program} {l : Launch} {e : Env} {s : State} {m : MethodId} {args : Array Value} {below : List Frame} {meth : Method} {c : Code} {D : hw_D} {b : Nat} {x0 : Nat} {l1 : Int32} {l2 : Option Nat} {σ : hw_S} {r : Int32} {τ : hw_S} {H : Heap} {locs : List Loc} (hm : m2_wound x0 l1 l2 σ = some (r, τ)) (C0 : hw_C p s m args meth c D yX2_wound cX2_wound 3 (some .int)) (hR : hw_R D b σ H) (hS : va_S (fun q => b ≤ q) s.heap H locs) {ls : Array Slot} (hl : hw_L ls 3 255 [(0, hw_vr b (some x0)), (1, .int l1), (2, hw_vr b l2)]) : W p l e rm2_wound s m args below meth c H locs 0 0 (MQ below (hw_QI D b τ r) args s 0 0 (fun q => b ≤ q)) (F0 m 0 ls []) := by
  obtain ⟨hx, hb, hml, hr, hown, hts, hlk, hE, hnm⟩ := id C0
  have hown : s.vm.findClass RX2 = some m.cls := hown
  have hK := hE.1
  unfold m2_wound at hm
  refine hw_aload_n hx hb dX2_wound_0 rfl (hl.at 2 rfl) ?_
  refine lv_bipush (v := 21) hx hb dX2_wound_1 (by decide) ?_
  obtain ⟨a3, g3, hm⟩ := hw_bs hm
  obtain ⟨h3, ht3⟩ := hw_rv_of g3
  rw [h3]
  obtain ⟨σ3, e3, hm⟩ := hw_bs hm
  refine hw_cWV (va_runV (As := [.int (21 : Int32)]) (rest := []) ⟨hx, hb, hml, hown, hts⟩ (c10_add l D b e3) (cwV 1 hts (hw_gV hw_m927 hw_m900 hw_m901 hw_m25 hw_m902) rfl rfl rfl (by decide +kernel) ⟨(Nat.le_of_ble_eq_true rfl), (Nat.le_of_ble_eq_true rfl)⟩) (hw_preV (ci := 10) hE hR rfl (by decide) (hw_q_of ht3)) rfl rfl hl.sz rfl (lv_room (Nat.le_of_ble_eq_true rfl)) dX2_wound_3 ⟨(Nat.le_of_ble_eq_true rfl), (Nat.le_of_ble_eq_true rfl)⟩) hS (fun _ _ hR hS => ?_)
  refine hw_aload_n hx hb dX2_wound_6 rfl (hl.at 0 rfl) ?_
  refine lv_iload_n hx hb dX2_wound_7 rfl (hl.at 1 rfl) ?_
  refine hw_aload_n hx hb dX2_wound_8 rfl (hl.at 2 rfl) ?_
  obtain ⟨a9, g9, hm⟩ := hw_bs hm
  obtain ⟨rfl, ht9⟩ := hw_rv_th g9
  obtain ⟨C9, cC9, hat9, hpre9⟩ := hw_preL (av := [.int l1, hw_vr b l2]) hE hR ht9
  obtain ⟨v9, σ9, e9, hm⟩ := hw_bs2 hm
  refine hw_cWI (va_runSU (As := [.int l1, hw_vr b l2]) (rest := []) hat9 ⟨hx, hb, hml, hown, hts⟩ (c3_wound l D b e9) (va_cwSU 2 hts (hw_gSU hw_m928 hw_m922 hw_m929 hw_m923 hw_m285 hw_m931) rfl rfl rfl (by decide +kernel) ⟨(Nat.le_of_ble_eq_true rfl), (Nat.le_of_ble_eq_true rfl)⟩) hpre9 rfl rfl hl.sz rfl (lv_room (Nat.le_of_ble_eq_true rfl)) dX2_wound_9 ⟨(Nat.le_of_ble_eq_true rfl), (Nat.le_of_ble_eq_true rfl)⟩) hS (fun _ _ hR hS => ?_)
  refine lv_ineg hx hb dX2_wound_12 ?_
  exact hw_rWI hx hb hr hlk hR hS hm dX2_wound_13
set_option maxRecDepth 100000 in
theorem c2_wound (l : Launch) (D : hw_D) (b : Nat) {x0 : Nat} {l1 : Int32} {l2 : Option Nat} {σ : hw_S} {r : Int32} {τ : hw_S} (hm : m2_wound x0 l1 l2 σ = some (r, τ)) : Met l yX2_wound (Cond.code yX2_wound cX2_wound 3 (some .int) :: wsL_law) rm2_wound (hw_P1 D b σ [hw_vr b (some x0), .int l1, hw_vr b l2]) (hw_QI D b τ r) 0 0 (fun q => b ≤ q) := by
  refine hw_start1 (by decide +kernel) (by cases l2 <;> exact Nat.le_of_ble_eq_true rfl) ?_
  intro p e s m below meth c ls C0 hR hS hl
  have hl : lv_has ls 3 [(0, hw_vr b (some x0)), (1, .int l1), (2, hw_vr b l2)] := by cases l2 <;> exact hl
  exact w2_wound_s hm C0 hR hS ⟨hl, (List.forall_mem_cons.mpr ⟨(fun h => by rw [show (hw_vr b (some x0) : Value).category = 1 from (hw_vr_cat _ _)] at h; cases h), (List.forall_mem_cons.mpr ⟨(fun h => absurd (show (1 : Nat) = 2 from h) (by decide)), (List.forall_mem_cons.mpr ⟨(fun h => by rw [show (hw_vr b l2 : Value).category = 1 from (hw_vr_cat _ _)] at h; cases h), (fun _ h => absurd h List.not_mem_nil)⟩)⟩)⟩)⟩

abbrev rm5_wound : Room := { frames := 4, cells := 0, slots := 0, locals := 87 }
def m5_wound (x0 : Nat) (l1 : Int32) (l2 : Option Nat) (σ : hw_S) : Option (Int32 × hw_S) :=
  (hw_rv (hw_q 10) l2 σ).bind fun a3 =>
  (m10_add a3 (61 : Int32) σ).bind fun σ3 =>
  (hw_rv hw_qL (some x0) σ3).bind fun a9 =>
  hw_b2 (m3_wound x0 l1 l2 σ3) fun v9 σ9 =>
  (hw_gI hw_qL 2 (some x0) σ9).bind fun v13 =>
  some ((v9 + v13), σ9)
set_option maxRecDepth 100000 in
theorem w5_wound_s {p : Program} {l : Launch} {e : Env} {s : State} {m : MethodId} {args : Array Value} {below : List Frame} {meth : Method} {c : Code} {D : hw_D} {b : Nat} {x0 : Nat} {l1 : Int32} {l2 : Option Nat} {σ : hw_S} {r : Int32} {τ : hw_S} {H : Heap} {locs : List Loc} (hm : m5_wound x0 l1 l2 σ = some (r, τ)) (C0 : hw_C p s m args meth c D yX5_wound cX5_wound 3 (some .int)) (hR : hw_R D b σ H) (hS : va_S (fun q => b ≤ q) s.heap H locs) {ls : Array Slot} (hl : hw_L ls 3 255 [(0, hw_vr b (some x0)), (1, .int l1), (2, hw_vr b l2)]) : W p l e rm5_wound s m args below meth c H locs 0 0 (MQ below (hw_QI D b τ r) args s 0 0 (fun q => b ≤ q)) (F0 m 0 ls []) := by
  obtain ⟨hx, hb, hml, hr, hown, hts, hlk, hE, hnm⟩ := id C0
  have hown : s.vm.findClass RX5 = some m.cls := hown
  have hK := hE.1
  unfold m5_wound at hm
  refine hw_aload_n hx hb dX5_wound_0 rfl (hl.at 2 rfl) ?_
  refine lv_bipush (v := 61) hx hb dX5_wound_1 (by decide) ?_
  obtain ⟨a3, g3, hm⟩ := hw_bs hm
  obtain ⟨h3, ht3⟩ := hw_rv_of g3
  rw [h3]
  obtain ⟨σ3, e3, hm⟩ := hw_bs hm
  refine hw_cWV (va_runV (As := [.int (61 : Int32)]) (rest := []) ⟨hx, hb, hml, hown, hts⟩ (c10_add l D b e3) (cwV 1 hts (hw_gV hw_m941 hw_m900 hw_m901 hw_m25 hw_m902) rfl rfl rfl (by decide +kernel) ⟨(Nat.le_of_ble_eq_true rfl), (Nat.le_of_ble_eq_true rfl)⟩) (hw_preV (ci := 10) hE hR rfl (by decide) (hw_q_of ht3)) rfl rfl hl.sz rfl (lv_room (Nat.le_of_ble_eq_true rfl)) dX5_wound_3 ⟨(Nat.le_of_ble_eq_true rfl), (Nat.le_of_ble_eq_true rfl)⟩) hS (fun _ _ hR hS => ?_)
  refine hw_aload_n hx hb dX5_wound_6 rfl (hl.at 0 rfl) ?_
  refine lv_iload_n hx hb dX5_wound_7 rfl (hl.at 1 rfl) ?_
  refine hw_aload_n hx hb dX5_wound_8 rfl (hl.at 2 rfl) ?_
  obtain ⟨a9, g9, hm⟩ := hw_bs hm
  obtain ⟨rfl, ht9⟩ := hw_rv_th g9
  obtain ⟨C9, cC9, hat9, hpre9⟩ := hw_preL (av := [.int l1, hw_vr b l2]) hE hR ht9
  obtain ⟨v9, σ9, e9, hm⟩ := hw_bs2 hm
  refine hw_cWI (hw_runSU2 (As := [.int l1, hw_vr b l2]) (rest := []) hat9 ⟨hx, hb, hml, hown, hts⟩ (c3_wound l D b e9) 2 (hts _ hw_m1072) (hts _ hw_m1073) (hts _ hw_m538) (hts _ hw_m960) (hts _ hw_m923) (hts _ hw_m285) (hw_gC hw_m931) (by decide +kernel) (Nat.le_of_ble_eq_true rfl) (Nat.le_of_ble_eq_true rfl) hpre9 rfl rfl hl.sz rfl (lv_room (Nat.le_of_ble_eq_true rfl)) dX5_wound_9 ⟨(Nat.le_of_ble_eq_true rfl), (Nat.le_of_ble_eq_true rfl)⟩) hS (fun _ _ hR hS => ?_)
  refine hw_aload_n hx hb dX5_wound_12 rfl (hl.at 0 rfl) ?_
  obtain ⟨v13, e13, hm⟩ := hw_bs hm
  refine hw_getI hx hb hw_cfL hts hown hK hR e13 (by decide) rfl (hts _ hw_m533) (fun x9 h9 => u_same (hts _ hw_m534) x9 h9) dX5_wound_13 ?_
  refine lv_iadd hx hb dX5_wound_16 ?_
  exact hw_rWI hx hb hr hlk hR hS hm dX5_wound_17
set_option maxRecDepth 100000 in
theorem c5_wound (l : Launch) (D : hw_D) (b : Nat) {x0 : Nat} {l1 : Int32} {l2 : Option Nat} {σ : hw_S} {r : Int32} {τ : hw_S} (hm : m5_wound x0 l1 l2 σ = some (r, τ)) : Met l yX5_wound (Cond.code yX5_wound cX5_wound 3 (some .int) :: wsL_law) rm5_wound (hw_P1 D b σ [hw_vr b (some x0), .int l1, hw_vr b l2]) (hw_QI D b τ r) 0 0 (fun q => b ≤ q) := by
  refine hw_start1 (by decide +kernel) (by cases l2 <;> exact Nat.le_of_ble_eq_true rfl) ?_
  intro p e s m below meth c ls C0 hR hS hl
  have hl : lv_has ls 3 [(0, hw_vr b (some x0)), (1, .int l1), (2, hw_vr b l2)] := by cases l2 <;> exact hl
  exact w5_wound_s hm C0 hR hS ⟨hl, (List.forall_mem_cons.mpr ⟨(fun h => by rw [show (hw_vr b (some x0) : Value).category = 1 from (hw_vr_cat _ _)] at h; cases h), (List.forall_mem_cons.mpr ⟨(fun h => absurd (show (1 : Nat) = 2 from h) (by decide)), (List.forall_mem_cons.mpr ⟨(fun h => by rw [show (hw_vr b l2 : Value).category = 1 from (hw_vr_cat _ _)] at h; cases h), (fun _ h => absurd h List.not_mem_nil)⟩)⟩)⟩)⟩

def mv_wound (x0 : Nat) (l1 : Int32) (l2 : Option Nat) (σ : hw_S) : Option (Int32 × hw_S) :=
  (if σ.1 x0 = 1 then m2_wound x0 l1 l2 σ else (if σ.1 x0 = 2 then m3_wound x0 l1 l2 σ else (if σ.1 x0 = 3 then m2_wound x0 l1 l2 σ else (if σ.1 x0 = 4 then m3_wound x0 l1 l2 σ else (if σ.1 x0 = 6 then m5_wound x0 l1 l2 σ else (if σ.1 x0 = 7 then m2_wound x0 l1 l2 σ else (if σ.1 x0 = 8 then m3_wound x0 l1 l2 σ else  none)))))))
theorem mv_wound_0 {x0 : Nat} {l1 : Int32} {l2 : Option Nat} {σ : hw_S} (h : σ.1 x0 = 1) : mv_wound x0 l1 l2 σ = m2_wound x0 l1 l2 σ := by simp [mv_wound, h]
theorem mv_wound_1 {x0 : Nat} {l1 : Int32} {l2 : Option Nat} {σ : hw_S} (h : σ.1 x0 = 2) : mv_wound x0 l1 l2 σ = m3_wound x0 l1 l2 σ := by simp [mv_wound, h]
theorem mv_wound_2 {x0 : Nat} {l1 : Int32} {l2 : Option Nat} {σ : hw_S} (h : σ.1 x0 = 3) : mv_wound x0 l1 l2 σ = m2_wound x0 l1 l2 σ := by simp [mv_wound, h]
theorem mv_wound_3 {x0 : Nat} {l1 : Int32} {l2 : Option Nat} {σ : hw_S} (h : σ.1 x0 = 4) : mv_wound x0 l1 l2 σ = m3_wound x0 l1 l2 σ := by simp [mv_wound, h]
theorem mv_wound_5 {x0 : Nat} {l1 : Int32} {l2 : Option Nat} {σ : hw_S} (h : σ.1 x0 = 6) : mv_wound x0 l1 l2 σ = m5_wound x0 l1 l2 σ := by simp [mv_wound, h]
theorem mv_wound_6 {x0 : Nat} {l1 : Int32} {l2 : Option Nat} {σ : hw_S} (h : σ.1 x0 = 7) : mv_wound x0 l1 l2 σ = m2_wound x0 l1 l2 σ := by simp [mv_wound, h]
theorem mv_wound_7 {x0 : Nat} {l1 : Int32} {l2 : Option Nat} {σ : hw_S} (h : σ.1 x0 = 8) : mv_wound x0 l1 l2 σ = m3_wound x0 l1 l2 σ := by simp [mv_wound, h]

abbrev rm3_laid : Room := { frames := 5, cells := 0, slots := 0, locals := 109 }
def m3_laid (x0 : Nat) (l1 : Int32) (l2 : Option Nat) (σ : hw_S) : Option (Int32 × hw_S) :=
  (hw_rv (hw_q 10) l2 σ).bind fun a2 =>
  (m10_add a2 (3 : Int32) σ).bind fun σ2 =>
  (hw_rv hw_qL (some x0) σ2).bind fun a8 =>
  hw_b2 (mv_wound x0 l1 l2 σ2) fun v8 σ8 =>
  some ((v8 * (2 : Int32)), σ8)
set_option maxRecDepth 100000 in
theorem w3_laid_s {p : Program} {l : Launch} {e : Env} {s : State} {m : MethodId} {args : Array Value} {below : List Frame} {meth : Method} {c : Code} {D : hw_D} {b : Nat} {x0 : Nat} {l1 : Int32} {l2 : Option Nat} {σ : hw_S} {r : Int32} {τ : hw_S} {H : Heap} {locs : List Loc} (hm : m3_laid x0 l1 l2 σ = some (r, τ)) (C0 : hw_C p s m args meth c D yX3_laid cX3_laid 3 (some .int)) (hR : hw_R D b σ H) (hS : va_S (fun q => b ≤ q) s.heap H locs) {ls : Array Slot} (hl : hw_L ls 3 255 [(0, hw_vr b (some x0)), (1, .int l1), (2, hw_vr b l2)]) : W p l e rm3_laid s m args below meth c H locs 0 0 (MQ below (hw_QI D b τ r) args s 0 0 (fun q => b ≤ q)) (F0 m 0 ls []) := by
  obtain ⟨hx, hb, hml, hr, hown, hts, hlk, hE, hnm⟩ := id C0
  have hown : s.vm.findClass RX3 = some m.cls := hown
  have hK := hE.1
  unfold m3_laid at hm
  refine hw_aload_n hx hb dX3_laid_0 rfl (hl.at 2 rfl) ?_
  refine lv_iconst (v := 3) hx hb dX3_laid_1 (by decide) ?_
  obtain ⟨a2, g2, hm⟩ := hw_bs hm
  obtain ⟨h2, ht2⟩ := hw_rv_of g2
  rw [h2]
  obtain ⟨σ2, e2, hm⟩ := hw_bs hm
  refine hw_cWV (va_runV (As := [.int (3 : Int32)]) (rest := []) ⟨hx, hb, hml, hown, hts⟩ (c10_add l D b e2) (cwV 1 hts (hw_gV hw_m899 hw_m900 hw_m901 hw_m25 hw_m902) rfl rfl rfl (by decide +kernel) ⟨(Nat.le_of_ble_eq_true rfl), (Nat.le_of_ble_eq_true rfl)⟩) (hw_preV (ci := 10) hE hR rfl (by decide) (hw_q_of ht2)) rfl rfl hl.sz rfl (lv_room (Nat.le_of_ble_eq_true rfl)) dX3_laid_2 ⟨(Nat.le_of_ble_eq_true rfl), (Nat.le_of_ble_eq_true rfl)⟩) hS (fun _ _ hR hS => ?_)
  refine hw_aload_n hx hb dX3_laid_5 rfl (hl.at 0 rfl) ?_
  refine lv_iload_n hx hb dX3_laid_6 rfl (hl.at 1 rfl) ?_
  refine hw_aload_n hx hb dX3_laid_7 rfl (hl.at 2 rfl) ?_
  obtain ⟨a8, g8, hm⟩ := hw_bs hm
  obtain ⟨rfl, ht8⟩ := hw_rv_th g8
  obtain ⟨v8, σ8, e8, hm⟩ := hw_bs2 hm
  refine hw_cWI (D := D) (r := v8) (τ := σ8) (mc := 0) (ms := 0) (rest := []) (a := (Value.ref (b + x0) :: [.int l1, hw_vr b l2]).toArray) ?_ hS (fun _ _ hR hS => ?_)
  · rcases hw_qL_or ht8 with ht8_0 | ht8_1 | ht8_2 | ht8_3 | ht8_5 | ht8_6 | ht8_7
    · exact va_runU (C := RX0) (owner := RX3) (As := [.int l1, hw_vr b l2]) (rest := []) ⟨hx, hb, hml, hown, hts⟩ (c2_wound l D b ((mv_wound_0 ht8_0).symm.trans e8)) (va_cwO 2 hts (hw_gO hw_m962 hw_m922 hw_m923 hw_m924 hw_m925 hw_m270 hw_m926) rfl rfl rfl hw_m931 (by decide +kernel) ⟨(Nat.le_of_ble_eq_true rfl), (Nat.le_of_ble_eq_true rfl)⟩) (hw_preV (ci := 0) hE hR rfl (by decide) ht8_0) rfl rfl hl.sz rfl (lv_room (Nat.le_of_ble_eq_true rfl)) dX3_laid_8 ⟨(Nat.le_of_ble_eq_true rfl), (Nat.le_of_ble_eq_true rfl)⟩
    · exact va_runU (C := RX1) (owner := RX3) (As := [.int l1, hw_vr b l2]) (rest := []) ⟨hx, hb, hml, hown, hts⟩ (c3_wound l D b ((mv_wound_1 ht8_1).symm.trans e8)) (va_cwU 2 hts (hw_gU hw_m962 hw_m922 hw_m934 hw_m923 hw_m285 hw_m931) rfl rfl rfl rfl (by decide +kernel) ⟨(Nat.le_of_ble_eq_true rfl), (Nat.le_of_ble_eq_true rfl)⟩) (hw_preV (ci := 1) hE hR rfl (by decide) ht8_1) rfl rfl hl.sz rfl (lv_room (Nat.le_of_ble_eq_true rfl)) dX3_laid_8 ⟨(Nat.le_of_ble_eq_true rfl), (Nat.le_of_ble_eq_true rfl)⟩
    · exact va_runU (C := RX2) (owner := RX3) (As := [.int l1, hw_vr b l2]) (rest := []) ⟨hx, hb, hml, hown, hts⟩ (c2_wound l D b ((mv_wound_2 ht8_2).symm.trans e8)) (va_cwO 2 hts (hw_gO hw_m962 hw_m922 hw_m923 hw_m935 hw_m925 hw_m270 hw_m926) rfl rfl rfl hw_m931 (by decide +kernel) ⟨(Nat.le_of_ble_eq_true rfl), (Nat.le_of_ble_eq_true rfl)⟩) (hw_preV (ci := 2) hE hR rfl (by decide) ht8_2) rfl rfl hl.sz rfl (lv_room (Nat.le_of_ble_eq_true rfl)) dX3_laid_8 ⟨(Nat.le_of_ble_eq_true rfl), (Nat.le_of_ble_eq_true rfl)⟩
    · exact va_runU (C := RX3) (owner := RX3) (As := [.int l1, hw_vr b l2]) (rest := []) ⟨hx, hb, hml, hown, hts⟩ (c3_wound l D b ((mv_wound_3 ht8_3).symm.trans e8)) (va_cwU 2 hts (hw_gU hw_m962 hw_m922 hw_m937 hw_m923 hw_m285 hw_m931) rfl rfl rfl rfl (by decide +kernel) ⟨(Nat.le_of_ble_eq_true rfl), (Nat.le_of_ble_eq_true rfl)⟩) (hw_preV (ci := 3) hE hR rfl (by decide) ht8_3) rfl rfl hl.sz rfl (lv_room (Nat.le_of_ble_eq_true rfl)) dX3_laid_8 ⟨(Nat.le_of_ble_eq_true rfl), (Nat.le_of_ble_eq_true rfl)⟩
    · exact va_runU (C := RX5) (owner := RX3) (As := [.int l1, hw_vr b l2]) (rest := []) ⟨hx, hb, hml, hown, hts⟩ (c5_wound l D b ((mv_wound_5 ht8_5).symm.trans e8)) (va_cwO 2 hts (hw_gO hw_m962 hw_m922 hw_m923 hw_m938 hw_m939 hw_m282 hw_m940) rfl rfl rfl hw_m931 (by decide +kernel) ⟨(Nat.le_of_ble_eq_true rfl), (Nat.le_of_ble_eq_true rfl)⟩) (hw_preV (ci := 5) hE hR rfl (by decide) ht8_5) rfl rfl hl.sz rfl (lv_room (Nat.le_of_ble_eq_true rfl)) dX3_laid_8 ⟨(Nat.le_of_ble_eq_true rfl), (Nat.le_of_ble_eq_true rfl)⟩
    · exact va_runU (C := RX6) (owner := RX3) (As := [.int l1, hw_vr b l2]) (rest := []) ⟨hx, hb, hml, hown, hts⟩ (c2_wound l D b ((mv_wound_6 ht8_6).symm.trans e8)) (va_cwO 2 hts (hw_gO hw_m962 hw_m922 hw_m923 hw_m942 hw_m925 hw_m270 hw_m926) rfl rfl rfl hw_m931 (by decide +kernel) ⟨(Nat.le_of_ble_eq_true rfl), (Nat.le_of_ble_eq_true rfl)⟩) (hw_preV (ci := 6) hE hR rfl (by decide) ht8_6) rfl rfl hl.sz rfl (lv_room (Nat.le_of_ble_eq_true rfl)) dX3_laid_8 ⟨(Nat.le_of_ble_eq_true rfl), (Nat.le_of_ble_eq_true rfl)⟩
    · exact va_runU (C := RX7) (owner := RX3) (As := [.int l1, hw_vr b l2]) (rest := []) ⟨hx, hb, hml, hown, hts⟩ (c3_wound l D b ((mv_wound_7 ht8_7).symm.trans e8)) (va_cwU 2 hts (hw_gU hw_m962 hw_m922 hw_m943 hw_m923 hw_m285 hw_m931) rfl rfl rfl rfl (by decide +kernel) ⟨(Nat.le_of_ble_eq_true rfl), (Nat.le_of_ble_eq_true rfl)⟩) (hw_preV (ci := 7) hE hR rfl (by decide) ht8_7) rfl rfl hl.sz rfl (lv_room (Nat.le_of_ble_eq_true rfl)) dX3_laid_8 ⟨(Nat.le_of_ble_eq_true rfl), (Nat.le_of_ble_eq_true rfl)⟩
  refine lv_iconst (v := 2) hx hb dX3_laid_11 (by decide) ?_
  refine lv_imul hx hb dX3_laid_12 ?_
  exact hw_rWI hx hb hr hlk hR hS hm dX3_laid_13
set_option maxRecDepth 100000 in
theorem c3_laid (l : Launch) (D : hw_D) (b : Nat) {x0 : Nat} {l1 : Int32} {l2 : Option Nat} {σ : hw_S} {r : Int32} {τ : hw_S} (hm : m3_laid x0 l1 l2 σ = some (r, τ)) : Met l yX3_laid (Cond.code yX3_laid cX3_laid 3 (some .int) :: wsL_law) rm3_laid (hw_P1 D b σ [hw_vr b (some x0), .int l1, hw_vr b l2]) (hw_QI D b τ r) 0 0 (fun q => b ≤ q) := by
  refine hw_start1 (by decide +kernel) (by cases l2 <;> exact Nat.le_of_ble_eq_true rfl) ?_
  intro p e s m below meth c ls C0 hR hS hl
  have hl : lv_has ls 3 [(0, hw_vr b (some x0)), (1, .int l1), (2, hw_vr b l2)] := by cases l2 <;> exact hl
  exact w3_laid_s hm C0 hR hS ⟨hl, (List.forall_mem_cons.mpr ⟨(fun h => by rw [show (hw_vr b (some x0) : Value).category = 1 from (hw_vr_cat _ _)] at h; cases h), (List.forall_mem_cons.mpr ⟨(fun h => absurd (show (1 : Nat) = 2 from h) (by decide)), (List.forall_mem_cons.mpr ⟨(fun h => by rw [show (hw_vr b l2 : Value).category = 1 from (hw_vr_cat _ _)] at h; cases h), (fun _ h => absurd h List.not_mem_nil)⟩)⟩)⟩)⟩

abbrev rm1_laid : Room := { frames := 6, cells := 0, slots := 0, locals := 131 }
def m1_laid (x0 : Nat) (l1 : Int32) (l2 : Option Nat) (σ : hw_S) : Option (Int32 × hw_S) :=
  (hw_rv (hw_q 10) l2 σ).bind fun a3 =>
  (m10_add a3 (31 : Int32) σ).bind fun σ3 =>
  (hw_rv hw_qL (some x0) σ3).bind fun a9 =>
  hw_b2 (m3_laid x0 l1 l2 σ3) fun v9 σ9 =>
  some ((v9 ^^^ (7 : Int32)), σ9)
set_option maxRecDepth 100000 in
theorem w1_laid_s {p : Program} {l : Launch} {e : Env} {s : State} {m : MethodId} {args : Array Value} {below : List Frame} {meth : Method} {c : Code} {D : hw_D} {b : Nat} {x0 : Nat} {l1 : Int32} {l2 : Option Nat} {σ : hw_S} {r : Int32} {τ : hw_S} {H : Heap} {locs : List Loc} (hm : m1_laid x0 l1 l2 σ = some (r, τ)) (C0 : hw_C p s m args meth c D yX1_laid cX1_laid 3 (some .int)) (hR : hw_R D b σ H) (hS : va_S (fun q => b ≤ q) s.heap H locs) {ls : Array Slot} (hl : hw_L ls 3 255 [(0, hw_vr b (some x0)), (1, .int l1), (2, hw_vr b l2)]) : W p l e rm1_laid s m args below meth c H locs 0 0 (MQ below (hw_QI D b τ r) args s 0 0 (fun q => b ≤ q)) (F0 m 0 ls []) := by
  obtain ⟨hx, hb, hml, hr, hown, hts, hlk, hE, hnm⟩ := id C0
  have hown : s.vm.findClass RX1 = some m.cls := hown
  have hK := hE.1
  unfold m1_laid at hm
  refine hw_aload_n hx hb dX1_laid_0 rfl (hl.at 2 rfl) ?_
  refine lv_bipush (v := 31) hx hb dX1_laid_1 (by decide) ?_
  obtain ⟨a3, g3, hm⟩ := hw_bs hm
  obtain ⟨h3, ht3⟩ := hw_rv_of g3
  rw [h3]
  obtain ⟨σ3, e3, hm⟩ := hw_bs hm
  refine hw_cWV (va_runV (As := [.int (31 : Int32)]) (rest := []) ⟨hx, hb, hml, hown, hts⟩ (c10_add l D b e3) (cwV 1 hts (hw_gV hw_m958 hw_m900 hw_m901 hw_m25 hw_m902) rfl rfl rfl (by decide +kernel) ⟨(Nat.le_of_ble_eq_true rfl), (Nat.le_of_ble_eq_true rfl)⟩) (hw_preV (ci := 10) hE hR rfl (by decide) (hw_q_of ht3)) rfl rfl hl.sz rfl (lv_room (Nat.le_of_ble_eq_true rfl)) dX1_laid_3 ⟨(Nat.le_of_ble_eq_true rfl), (Nat.le_of_ble_eq_true rfl)⟩) hS (fun _ _ hR hS => ?_)
  refine hw_aload_n hx hb dX1_laid_6 rfl (hl.at 0 rfl) ?_
  refine lv_iload_n hx hb dX1_laid_7 rfl (hl.at 1 rfl) ?_
  refine hw_aload_n hx hb dX1_laid_8 rfl (hl.at 2 rfl) ?_
  obtain ⟨a9, g9, hm⟩ := hw_bs hm
  obtain ⟨rfl, ht9⟩ := hw_rv_th g9
  obtain ⟨C9, cC9, hat9, hpre9⟩ := hw_preL (av := [.int l1, hw_vr b l2]) hE hR ht9
  obtain ⟨v9, σ9, e9, hm⟩ := hw_bs2 hm
  refine hw_cWI (va_runSU (As := [.int l1, hw_vr b l2]) (rest := []) hat9 ⟨hx, hb, hml, hown, hts⟩ (c3_laid l D b e9) (va_cwSU 2 hts (hw_gSU hw_m959 hw_m945 hw_m960 hw_m946 hw_m285 hw_m954) rfl rfl rfl (by decide +kernel) ⟨(Nat.le_of_ble_eq_true rfl), (Nat.le_of_ble_eq_true rfl)⟩) hpre9 rfl rfl hl.sz rfl (lv_room (Nat.le_of_ble_eq_true rfl)) dX1_laid_9 ⟨(Nat.le_of_ble_eq_true rfl), (Nat.le_of_ble_eq_true rfl)⟩) hS (fun _ _ hR hS => ?_)
  refine lv_bipush (v := 7) hx hb dX1_laid_12 (by decide) ?_
  refine lv_ixor hx hb dX1_laid_14 ?_
  exact hw_rWI hx hb hr hlk hR hS hm dX1_laid_15
set_option maxRecDepth 100000 in
theorem c1_laid (l : Launch) (D : hw_D) (b : Nat) {x0 : Nat} {l1 : Int32} {l2 : Option Nat} {σ : hw_S} {r : Int32} {τ : hw_S} (hm : m1_laid x0 l1 l2 σ = some (r, τ)) : Met l yX1_laid (Cond.code yX1_laid cX1_laid 3 (some .int) :: wsL_law) rm1_laid (hw_P1 D b σ [hw_vr b (some x0), .int l1, hw_vr b l2]) (hw_QI D b τ r) 0 0 (fun q => b ≤ q) := by
  refine hw_start1 (by decide +kernel) (by cases l2 <;> exact Nat.le_of_ble_eq_true rfl) ?_
  intro p e s m below meth c ls C0 hR hS hl
  have hl : lv_has ls 3 [(0, hw_vr b (some x0)), (1, .int l1), (2, hw_vr b l2)] := by cases l2 <;> exact hl
  exact w1_laid_s hm C0 hR hS ⟨hl, (List.forall_mem_cons.mpr ⟨(fun h => by rw [show (hw_vr b (some x0) : Value).category = 1 from (hw_vr_cat _ _)] at h; cases h), (List.forall_mem_cons.mpr ⟨(fun h => absurd (show (1 : Nat) = 2 from h) (by decide)), (List.forall_mem_cons.mpr ⟨(fun h => by rw [show (hw_vr b l2 : Value).category = 1 from (hw_vr_cat _ _)] at h; cases h), (fun _ h => absurd h List.not_mem_nil)⟩)⟩)⟩)⟩

abbrev rm0_laid : Room := { frames := 6, cells := 0, slots := 0, locals := 131 }
def m0_laid (x0 : Nat) (l1 : Int32) (l2 : Option Nat) (σ : hw_S) : Option (Int32 × hw_S) :=
  (hw_rv (hw_q 10) l2 σ).bind fun a3 =>
  (m10_add a3 (41 : Int32) σ).bind fun σ3 =>
  (hw_rv hw_qL (some x0) σ3).bind fun a11 =>
  hw_b2 (m3_laid x0 (l1 - (1 : Int32)) l2 σ3) fun v11 σ11 =>
  (hw_rv (hw_q 0) (some x0) σ11).bind fun a17 =>
  hw_b2 (m3_fallen x0 (2 : Int32) l2 σ11) fun v17 σ17 =>
  some ((v11 + v17), σ17)
set_option maxRecDepth 100000 in
theorem w0_laid_s {p : Program} {l : Launch} {e : Env} {s : State} {m : MethodId} {args : Array Value} {below : List Frame} {meth : Method} {c : Code} {D : hw_D} {b : Nat} {x0 : Nat} {l1 : Int32} {l2 : Option Nat} {σ : hw_S} {r : Int32} {τ : hw_S} {H : Heap} {locs : List Loc} (hm : m0_laid x0 l1 l2 σ = some (r, τ)) (C0 : hw_C p s m args meth c D yX0_laid cX0_laid 3 (some .int)) (hR : hw_R D b σ H) (hS : va_S (fun q => b ≤ q) s.heap H locs) {ls : Array Slot} (hl : hw_L ls 3 255 [(0, hw_vr b (some x0)), (1, .int l1), (2, hw_vr b l2)]) : W p l e rm0_laid s m args below meth c H locs 0 0 (MQ below (hw_QI D b τ r) args s 0 0 (fun q => b ≤ q)) (F0 m 0 ls []) := by
  obtain ⟨hx, hb, hml, hr, hown, hts, hlk, hE, hnm⟩ := id C0
  have hown : s.vm.findClass RX0 = some m.cls := hown
  have hK := hE.1
  unfold m0_laid at hm
  refine hw_aload_n hx hb dX0_laid_0 rfl (hl.at 2 rfl) ?_
  refine lv_bipush (v := 41) hx hb dX0_laid_1 (by decide) ?_
  obtain ⟨a3, g3, hm⟩ := hw_bs hm
  obtain ⟨h3, ht3⟩ := hw_rv_of g3
  rw [h3]
  obtain ⟨σ3, e3, hm⟩ := hw_bs hm
  refine hw_cWV (va_runV (As := [.int (41 : Int32)]) (rest := []) ⟨hx, hb, hml, hown, hts⟩ (c10_add l D b e3) (cwV 1 hts (hw_gV hw_m950 hw_m900 hw_m901 hw_m25 hw_m902) rfl rfl rfl (by decide +kernel) ⟨(Nat.le_of_ble_eq_true rfl), (Nat.le_of_ble_eq_true rfl)⟩) (hw_preV (ci := 10) hE hR rfl (by decide) (hw_q_of ht3)) rfl rfl hl.sz rfl (lv_room (Nat.le_of_ble_eq_true rfl)) dX0_laid_3 ⟨(Nat.le_of_ble_eq_true rfl), (Nat.le_of_ble_eq_true rfl)⟩) hS (fun _ _ hR hS => ?_)
  refine hw_aload_n hx hb dX0_laid_6 rfl (hl.at 0 rfl) ?_
  refine lv_iload_n hx hb dX0_laid_7 rfl (hl.at 1 rfl) ?_
  refine lv_iconst (v := 1) hx hb dX0_laid_8 (by decide) ?_
  refine lv_isub hx hb dX0_laid_9 ?_
  refine hw_aload_n hx hb dX0_laid_10 rfl (hl.at 2 rfl) ?_
  obtain ⟨a11, g11, hm⟩ := hw_bs hm
  obtain ⟨rfl, ht11⟩ := hw_rv_th g11
  obtain ⟨C11, cC11, hat11, hpre11⟩ := hw_preL (av := [.int (l1 - (1 : Int32)), hw_vr b l2]) hE hR ht11
  obtain ⟨v11, σ11, e11, hm⟩ := hw_bs2 hm
  refine hw_cWI (hw_runSU2 (As := [.int (l1 - (1 : Int32)), hw_vr b l2]) (rest := []) hat11 ⟨hx, hb, hml, hown, hts⟩ (c3_laid l D b e11) 2 (hts _ hw_m1074) (hts _ hw_m1075) (hts _ hw_m515) (hts _ hw_m929) (hts _ hw_m946) (hts _ hw_m285) (hw_gC hw_m954) (by decide +kernel) (Nat.le_of_ble_eq_true rfl) (Nat.le_of_ble_eq_true rfl) hpre11 rfl rfl hl.sz rfl (lv_room (Nat.le_of_ble_eq_true rfl)) dX0_laid_11 ⟨(Nat.le_of_ble_eq_true rfl), (Nat.le_of_ble_eq_true rfl)⟩) hS (fun _ _ hR hS => ?_)
  refine hw_aload_n hx hb dX0_laid_14 rfl (hl.at 0 rfl) ?_
  refine lv_iconst (v := 2) hx hb dX0_laid_15 (by decide) ?_
  refine hw_aload_n hx hb dX0_laid_16 rfl (hl.at 2 rfl) ?_
  obtain ⟨a17, g17, hm⟩ := hw_bs hm
  obtain ⟨rfl, ht17⟩ := hw_rv_th g17
  obtain ⟨v17, σ17, e17, hm⟩ := hw_bs2 hm
  refine hw_cWI (va_runU (C := RX0) (owner := RX3) (As := [.int (2 : Int32), hw_vr b l2]) (rest := [.int v11]) ⟨hx, hb, hml, hown, hts⟩ (c3_fallen l D b e17) (va_cwU 2 hts (hw_gU hw_m951 hw_m952 hw_m953 hw_m897 hw_m285 hw_m898) rfl rfl rfl rfl (by decide +kernel) ⟨(Nat.le_of_ble_eq_true rfl), (Nat.le_of_ble_eq_true rfl)⟩) (hw_preV (ci := 0) hE hR rfl (by decide) (hw_q_of ht17)) rfl rfl hl.sz rfl (lv_room (Nat.le_of_ble_eq_true rfl)) dX0_laid_17 ⟨(Nat.le_of_ble_eq_true rfl), (Nat.le_of_ble_eq_true rfl)⟩) hS (fun _ _ hR hS => ?_)
  refine lv_iadd hx hb dX0_laid_20 ?_
  exact hw_rWI hx hb hr hlk hR hS hm dX0_laid_21
set_option maxRecDepth 100000 in
theorem c0_laid (l : Launch) (D : hw_D) (b : Nat) {x0 : Nat} {l1 : Int32} {l2 : Option Nat} {σ : hw_S} {r : Int32} {τ : hw_S} (hm : m0_laid x0 l1 l2 σ = some (r, τ)) : Met l yX0_laid (Cond.code yX0_laid cX0_laid 3 (some .int) :: wsL_law) rm0_laid (hw_P1 D b σ [hw_vr b (some x0), .int l1, hw_vr b l2]) (hw_QI D b τ r) 0 0 (fun q => b ≤ q) := by
  refine hw_start1 (by decide +kernel) (by cases l2 <;> exact Nat.le_of_ble_eq_true rfl) ?_
  intro p e s m below meth c ls C0 hR hS hl
  have hl : lv_has ls 3 [(0, hw_vr b (some x0)), (1, .int l1), (2, hw_vr b l2)] := by cases l2 <;> exact hl
  exact w0_laid_s hm C0 hR hS ⟨hl, (List.forall_mem_cons.mpr ⟨(fun h => by rw [show (hw_vr b (some x0) : Value).category = 1 from (hw_vr_cat _ _)] at h; cases h), (List.forall_mem_cons.mpr ⟨(fun h => absurd (show (1 : Nat) = 2 from h) (by decide)), (List.forall_mem_cons.mpr ⟨(fun h => by rw [show (hw_vr b l2 : Value).category = 1 from (hw_vr_cat _ _)] at h; cases h), (fun _ h => absurd h List.not_mem_nil)⟩)⟩)⟩)⟩

def mv_laid (x0 : Nat) (l1 : Int32) (l2 : Option Nat) (σ : hw_S) : Option (Int32 × hw_S) :=
  (if σ.1 x0 = 1 then m0_laid x0 l1 l2 σ else (if σ.1 x0 = 2 then m1_laid x0 l1 l2 σ else (if σ.1 x0 = 3 then m3_laid x0 l1 l2 σ else (if σ.1 x0 = 4 then m3_laid x0 l1 l2 σ else (if σ.1 x0 = 6 then m1_laid x0 l1 l2 σ else (if σ.1 x0 = 7 then m3_laid x0 l1 l2 σ else (if σ.1 x0 = 8 then m3_laid x0 l1 l2 σ else  none)))))))
theorem mv_laid_0 {x0 : Nat} {l1 : Int32} {l2 : Option Nat} {σ : hw_S} (h : σ.1 x0 = 1) : mv_laid x0 l1 l2 σ = m0_laid x0 l1 l2 σ := by simp [mv_laid, h]
theorem mv_laid_1 {x0 : Nat} {l1 : Int32} {l2 : Option Nat} {σ : hw_S} (h : σ.1 x0 = 2) : mv_laid x0 l1 l2 σ = m1_laid x0 l1 l2 σ := by simp [mv_laid, h]
theorem mv_laid_2 {x0 : Nat} {l1 : Int32} {l2 : Option Nat} {σ : hw_S} (h : σ.1 x0 = 3) : mv_laid x0 l1 l2 σ = m3_laid x0 l1 l2 σ := by simp [mv_laid, h]
theorem mv_laid_3 {x0 : Nat} {l1 : Int32} {l2 : Option Nat} {σ : hw_S} (h : σ.1 x0 = 4) : mv_laid x0 l1 l2 σ = m3_laid x0 l1 l2 σ := by simp [mv_laid, h]
theorem mv_laid_5 {x0 : Nat} {l1 : Int32} {l2 : Option Nat} {σ : hw_S} (h : σ.1 x0 = 6) : mv_laid x0 l1 l2 σ = m1_laid x0 l1 l2 σ := by simp [mv_laid, h]
theorem mv_laid_6 {x0 : Nat} {l1 : Int32} {l2 : Option Nat} {σ : hw_S} (h : σ.1 x0 = 7) : mv_laid x0 l1 l2 σ = m3_laid x0 l1 l2 σ := by simp [mv_laid, h]
theorem mv_laid_7 {x0 : Nat} {l1 : Int32} {l2 : Option Nat} {σ : hw_S} (h : σ.1 x0 = 8) : mv_laid x0 l1 l2 σ = m3_laid x0 l1 l2 σ := by simp [mv_laid, h]

abbrev rm11_act : Room := { frames := 7, cells := 0, slots := 0, locals := 153 }
def m11_act (x0 : Nat) (l1 : Int32) (l2 : Int32) (l3 : Int32) (σ : hw_S) : Option (Int32 × hw_S) :=
  (hw_gP (hw_q 11) 4 (some x0) σ).bind fun v1 =>
  (hw_rv (hw_q 10) v1 σ).bind fun a4 =>
  (m10_begin a4 σ).bind fun σ4 =>
  (hw_rv (hw_q 11) (some x0) σ4).bind fun a9 =>
  (m11_lawAt x0 l1 σ4).bind fun v9 =>
  (if v9 = none then
  some ((0 : Int32), σ4)
  else
  (if l2 = 0 then
  (hw_gP (hw_q 11) 4 (some x0) σ4).bind fun v52 =>
  (hw_rv hw_qL v9 σ4).bind fun a55 =>
  hw_b2 (mv_fallen a55 l3 v52 σ4) fun v55 σ55 =>
  some (v55, σ55)
  else
  (if l2 = 1 then
  (hw_gP (hw_q 11) 4 (some x0) σ4).bind fun v63 =>
  (hw_rv hw_qL v9 σ4).bind fun a66 =>
  hw_b2 (mv_wound a66 l3 v63 σ4) fun v66 σ66 =>
  some (v66, σ66)
  else
  (if l2 = 2 then
  (hw_gP (hw_q 11) 4 (some x0) σ4).bind fun v74 =>
  (hw_rv hw_qL v9 σ4).bind fun a77 =>
  hw_b2 (mv_laid a77 l3 v74 σ4) fun v77 σ77 =>
  some (v77, σ77)
  else
  some ((0 : Int32), σ4)))))
set_option maxRecDepth 100000 in
theorem w11_act_s {p : Program} {l : Launch} {e : Env} {s : State} {m : MethodId} {args : Array Value} {below : List Frame} {meth : Method} {c : Code} {D : hw_D} {b : Nat} {x0 : Nat} {l1 : Int32} {l2 : Int32} {l3 : Int32} {σ : hw_S} {r : Int32} {τ : hw_S} {H : Heap} {locs : List Loc} (hm : m11_act x0 l1 l2 l3 σ = some (r, τ)) (C0 : hw_C p s m args meth c D yX11_act cX11_act 5 (some .int)) (hR : hw_R D b σ H) (hS : va_S (fun q => b ≤ q) s.heap H locs) {ls : Array Slot} (hl : hw_L ls 5 255 [(0, hw_vr b (some x0)), (1, .int l1), (2, .int l2), (3, .int l3)]) : W p l e rm11_act s m args below meth c H locs 0 0 (MQ below (hw_QI D b τ r) args s 0 0 (fun q => b ≤ q)) (F0 m 0 ls []) := by
  obtain ⟨hx, hb, hml, hr, hown, hts, hlk, hE, hnm⟩ := id C0
  have hown : s.vm.findClass RX11 = some m.cls := hown
  have hK := hE.1
  unfold m11_act at hm
  refine hw_aload_n hx hb dX11_act_0 rfl (hl.at 0 rfl) ?_
  obtain ⟨v1, e1, hm⟩ := hw_bs hm
  refine hw_getP hx hb hw_cf11 hts hown hK hR e1 (by decide) rfl (hts _ hw_m26) (fun _ h9 => h9) dX11_act_1 ?_
  obtain ⟨a4, g4, hm⟩ := hw_bs hm
  obtain ⟨h4, ht4⟩ := hw_rv_of g4
  rw [h4]
  obtain ⟨σ4, e4, hm⟩ := hw_bs hm
  refine hw_cWV (va_runV (As := []) (rest := []) ⟨hx, hb, hml, hown, hts⟩ (c10_begin l D b e4) (cwV 0 hts (hw_gV hw_m890 hw_m891 hw_m892 hw_m25 hw_m893) rfl rfl rfl (by decide +kernel) ⟨(Nat.le_of_ble_eq_true rfl), (Nat.le_of_ble_eq_true rfl)⟩) (hw_preV (ci := 10) hE hR rfl (by decide) (hw_q_of ht4)) rfl rfl hl.sz rfl (lv_room (Nat.le_of_ble_eq_true rfl)) dX11_act_4 ⟨(Nat.le_of_ble_eq_true rfl), (Nat.le_of_ble_eq_true rfl)⟩) hS (fun _ _ hR hS => ?_)
  refine hw_aload_n hx hb dX11_act_7 rfl (hl.at 0 rfl) ?_
  refine lv_iload_n hx hb dX11_act_8 rfl (hl.at 1 rfl) ?_
  obtain ⟨a9, g9, hm⟩ := hw_bs hm
  obtain ⟨rfl, ht9⟩ := hw_rv_th g9
  obtain ⟨v9, e9, hm⟩ := hw_bs hm
  refine hw_cRP (va_runV (As := [.int l1]) (rest := []) ⟨hx, hb, hml, hown, hts⟩ (c11_lawAt l D b e9) (cwV 1 hts (hw_gV hw_m426 hw_m427 hw_m428 hw_m2 hw_m429) rfl rfl rfl (by decide +kernel) ⟨(Nat.le_of_ble_eq_true rfl), (Nat.le_of_ble_eq_true rfl)⟩) (hw_preV (ci := 11) hE hR rfl (by decide) (hw_q_of ht9)) rfl rfl hl.sz rfl (lv_room (Nat.le_of_ble_eq_true rfl)) dX11_act_9 ⟨(Nat.le_of_ble_eq_true rfl), (Nat.le_of_ble_eq_true rfl)⟩) ?_
  refine hw_asto (lv' := [(4, hw_vr b v9), (0, hw_vr b (some x0)), (1, .int l1), (2, .int l2), (3, .int l3)]) hx hb dX11_act_12 hl (by decide) (by decide) rfl (fun ls hl => ?_)
  refine hw_aload hx hb dX11_act_14 (hl.at 0 rfl) ?_
  refine hw_ifnonnull (tgt := 21) hx hb dX11_act_16 (by decide) (fun c16 => ?_) (fun c16 => ?_)
  · have hm := hw_in hm c16
    refine lv_iload_n hx hb dX11_act_21 rfl (hl.at 3 rfl) ?_
    refine hw_case l2 (0) (fun c22_0 => ?_) (fun c22_0 => ?_)
    · have hm := hw_ip hm c22_0
      refine lv_tableIn (off := 26) (tgt := 48) hx hb dX11_act_22 (by rw [c22_0]; decide) (by rw [c22_0]; decide) (by rw [c22_0]; rfl) (by decide) ?_
      refine hw_aload hx hb dX11_act_48 (hl.at 0 rfl) ?_
      refine lv_iload_n hx hb dX11_act_50 rfl (hl.at 4 rfl) ?_
      refine hw_aload_n hx hb dX11_act_51 rfl (hl.at 1 rfl) ?_
      obtain ⟨v52, e52, hm⟩ := hw_bs hm
      refine hw_getP hx hb hw_cf11 hts hown hK hR e52 (by decide) rfl (hts _ hw_m26) (fun _ h9 => h9) dX11_act_52 ?_
      obtain ⟨a55, g55, hm⟩ := hw_bs hm
      obtain ⟨h55, ht55⟩ := hw_rv_of g55
      rw [h55]
      obtain ⟨v55, σ55, e55, hm⟩ := hw_bs2 hm
      refine hw_cWI (D := D) (r := v55) (τ := σ55) (mc := 0) (ms := 0) (rest := []) (a := (Value.ref (b + a55) :: [.int l3, hw_vr b v52]).toArray) ?_ hS (fun _ _ hR hS => ?_)
      · rcases hw_qL_or ht55 with ht55_0 | ht55_1 | ht55_2 | ht55_3 | ht55_5 | ht55_6 | ht55_7
        · exact va_runU (C := RX0) (owner := RX3) (As := [.int l3, hw_vr b v52]) (rest := []) ⟨hx, hb, hml, hown, hts⟩ (c3_fallen l D b ((mv_fallen_0 ht55_0).symm.trans e55)) (va_cwU 2 hts (hw_gU hw_m894 hw_m895 hw_m896 hw_m897 hw_m285 hw_m898) rfl rfl rfl rfl (by decide +kernel) ⟨(Nat.le_of_ble_eq_true rfl), (Nat.le_of_ble_eq_true rfl)⟩) (hw_preV (ci := 0) hE hR rfl (by decide) ht55_0) rfl rfl hl.sz rfl (lv_room (Nat.le_of_ble_eq_true rfl)) dX11_act_55 ⟨(Nat.le_of_ble_eq_true rfl), (Nat.le_of_ble_eq_true rfl)⟩
        · exact va_runU (C := RX1) (owner := RX3) (As := [.int l3, hw_vr b v52]) (rest := []) ⟨hx, hb, hml, hown, hts⟩ (c3_fallen l D b ((mv_fallen_1 ht55_1).symm.trans e55)) (va_cwU 2 hts (hw_gU hw_m894 hw_m895 hw_m903 hw_m897 hw_m285 hw_m898) rfl rfl rfl rfl (by decide +kernel) ⟨(Nat.le_of_ble_eq_true rfl), (Nat.le_of_ble_eq_true rfl)⟩) (hw_preV (ci := 1) hE hR rfl (by decide) ht55_1) rfl rfl hl.sz rfl (lv_room (Nat.le_of_ble_eq_true rfl)) dX11_act_55 ⟨(Nat.le_of_ble_eq_true rfl), (Nat.le_of_ble_eq_true rfl)⟩
        · exact va_runU (C := RX2) (owner := RX3) (As := [.int l3, hw_vr b v52]) (rest := []) ⟨hx, hb, hml, hown, hts⟩ (c3_fallen l D b ((mv_fallen_2 ht55_2).symm.trans e55)) (va_cwU 2 hts (hw_gU hw_m894 hw_m895 hw_m904 hw_m897 hw_m285 hw_m898) rfl rfl rfl rfl (by decide +kernel) ⟨(Nat.le_of_ble_eq_true rfl), (Nat.le_of_ble_eq_true rfl)⟩) (hw_preV (ci := 2) hE hR rfl (by decide) ht55_2) rfl rfl hl.sz rfl (lv_room (Nat.le_of_ble_eq_true rfl)) dX11_act_55 ⟨(Nat.le_of_ble_eq_true rfl), (Nat.le_of_ble_eq_true rfl)⟩
        · exact va_runU (C := RX3) (owner := RX3) (As := [.int l3, hw_vr b v52]) (rest := []) ⟨hx, hb, hml, hown, hts⟩ (c3_fallen l D b ((mv_fallen_3 ht55_3).symm.trans e55)) (va_cwU 2 hts (hw_gU hw_m894 hw_m895 hw_m906 hw_m897 hw_m285 hw_m898) rfl rfl rfl rfl (by decide +kernel) ⟨(Nat.le_of_ble_eq_true rfl), (Nat.le_of_ble_eq_true rfl)⟩) (hw_preV (ci := 3) hE hR rfl (by decide) ht55_3) rfl rfl hl.sz rfl (lv_room (Nat.le_of_ble_eq_true rfl)) dX11_act_55 ⟨(Nat.le_of_ble_eq_true rfl), (Nat.le_of_ble_eq_true rfl)⟩
        · exact va_runU (C := RX5) (owner := RX3) (As := [.int l3, hw_vr b v52]) (rest := []) ⟨hx, hb, hml, hown, hts⟩ (c3_fallen l D b ((mv_fallen_5 ht55_5).symm.trans e55)) (va_cwU 2 hts (hw_gU hw_m894 hw_m895 hw_m907 hw_m897 hw_m285 hw_m898) rfl rfl rfl rfl (by decide +kernel) ⟨(Nat.le_of_ble_eq_true rfl), (Nat.le_of_ble_eq_true rfl)⟩) (hw_preV (ci := 5) hE hR rfl (by decide) ht55_5) rfl rfl hl.sz rfl (lv_room (Nat.le_of_ble_eq_true rfl)) dX11_act_55 ⟨(Nat.le_of_ble_eq_true rfl), (Nat.le_of_ble_eq_true rfl)⟩
        · exact va_runU (C := RX6) (owner := RX3) (As := [.int l3, hw_vr b v52]) (rest := []) ⟨hx, hb, hml, hown, hts⟩ (c6_fallen l D b ((mv_fallen_6 ht55_6).symm.trans e55)) (va_cwO 2 hts (hw_gO hw_m894 hw_m895 hw_m897 hw_m909 hw_m910 hw_m279 hw_m911) rfl rfl rfl hw_m898 (by decide +kernel) ⟨(Nat.le_of_ble_eq_true rfl), (Nat.le_of_ble_eq_true rfl)⟩) (hw_preV (ci := 6) hE hR rfl (by decide) ht55_6) rfl rfl hl.sz rfl (lv_room (Nat.le_of_ble_eq_true rfl)) dX11_act_55 ⟨(Nat.le_of_ble_eq_true rfl), (Nat.le_of_ble_eq_true rfl)⟩
        · exact va_runU (C := RX7) (owner := RX3) (As := [.int l3, hw_vr b v52]) (rest := []) ⟨hx, hb, hml, hown, hts⟩ (c7_fallen l D b ((mv_fallen_7 ht55_7).symm.trans e55)) (va_cwO 2 hts (hw_gO hw_m894 hw_m895 hw_m897 hw_m915 hw_m916 hw_m267 hw_m917) rfl rfl rfl hw_m898 (by decide +kernel) ⟨(Nat.le_of_ble_eq_true rfl), (Nat.le_of_ble_eq_true rfl)⟩) (hw_preV (ci := 7) hE hR rfl (by decide) ht55_7) rfl rfl hl.sz rfl (lv_room (Nat.le_of_ble_eq_true rfl)) dX11_act_55 ⟨(Nat.le_of_ble_eq_true rfl), (Nat.le_of_ble_eq_true rfl)⟩
      exact hw_rWI hx hb hr hlk hR hS hm dX11_act_58
    · have hm := hw_in hm c22_0
      refine hw_case l2 (1) (fun c22_1 => ?_) (fun c22_1 => ?_)
      · have hm := hw_ip hm c22_1
        refine lv_tableIn (off := 37) (tgt := 59) hx hb dX11_act_22 (by rw [c22_1]; decide) (by rw [c22_1]; decide) (by rw [c22_1]; rfl) (by decide) ?_
        refine hw_aload hx hb dX11_act_59 (hl.at 0 rfl) ?_
        refine lv_iload_n hx hb dX11_act_61 rfl (hl.at 4 rfl) ?_
        refine hw_aload_n hx hb dX11_act_62 rfl (hl.at 1 rfl) ?_
        obtain ⟨v63, e63, hm⟩ := hw_bs hm
        refine hw_getP hx hb hw_cf11 hts hown hK hR e63 (by decide) rfl (hts _ hw_m26) (fun _ h9 => h9) dX11_act_63 ?_
        obtain ⟨a66, g66, hm⟩ := hw_bs hm
        obtain ⟨h66, ht66⟩ := hw_rv_of g66
        rw [h66]
        obtain ⟨v66, σ66, e66, hm⟩ := hw_bs2 hm
        refine hw_cWI (D := D) (r := v66) (τ := σ66) (mc := 0) (ms := 0) (rest := []) (a := (Value.ref (b + a66) :: [.int l3, hw_vr b v63]).toArray) ?_ hS (fun _ _ hR hS => ?_)
        · rcases hw_qL_or ht66 with ht66_0 | ht66_1 | ht66_2 | ht66_3 | ht66_5 | ht66_6 | ht66_7
          · exact va_runU (C := RX0) (owner := RX3) (As := [.int l3, hw_vr b v63]) (rest := []) ⟨hx, hb, hml, hown, hts⟩ (c2_wound l D b ((mv_wound_0 ht66_0).symm.trans e66)) (va_cwO 2 hts (hw_gO hw_m921 hw_m922 hw_m923 hw_m924 hw_m925 hw_m270 hw_m926) rfl rfl rfl hw_m931 (by decide +kernel) ⟨(Nat.le_of_ble_eq_true rfl), (Nat.le_of_ble_eq_true rfl)⟩) (hw_preV (ci := 0) hE hR rfl (by decide) ht66_0) rfl rfl hl.sz rfl (lv_room (Nat.le_of_ble_eq_true rfl)) dX11_act_66 ⟨(Nat.le_of_ble_eq_true rfl), (Nat.le_of_ble_eq_true rfl)⟩
          · exact va_runU (C := RX1) (owner := RX3) (As := [.int l3, hw_vr b v63]) (rest := []) ⟨hx, hb, hml, hown, hts⟩ (c3_wound l D b ((mv_wound_1 ht66_1).symm.trans e66)) (va_cwU 2 hts (hw_gU hw_m921 hw_m922 hw_m934 hw_m923 hw_m285 hw_m931) rfl rfl rfl rfl (by decide +kernel) ⟨(Nat.le_of_ble_eq_true rfl), (Nat.le_of_ble_eq_true rfl)⟩) (hw_preV (ci := 1) hE hR rfl (by decide) ht66_1) rfl rfl hl.sz rfl (lv_room (Nat.le_of_ble_eq_true rfl)) dX11_act_66 ⟨(Nat.le_of_ble_eq_true rfl), (Nat.le_of_ble_eq_true rfl)⟩
          · exact va_runU (C := RX2) (owner := RX3) (As := [.int l3, hw_vr b v63]) (rest := []) ⟨hx, hb, hml, hown, hts⟩ (c2_wound l D b ((mv_wound_2 ht66_2).symm.trans e66)) (va_cwO 2 hts (hw_gO hw_m921 hw_m922 hw_m923 hw_m935 hw_m925 hw_m270 hw_m926) rfl rfl rfl hw_m931 (by decide +kernel) ⟨(Nat.le_of_ble_eq_true rfl), (Nat.le_of_ble_eq_true rfl)⟩) (hw_preV (ci := 2) hE hR rfl (by decide) ht66_2) rfl rfl hl.sz rfl (lv_room (Nat.le_of_ble_eq_true rfl)) dX11_act_66 ⟨(Nat.le_of_ble_eq_true rfl), (Nat.le_of_ble_eq_true rfl)⟩
          · exact va_runU (C := RX3) (owner := RX3) (As := [.int l3, hw_vr b v63]) (rest := []) ⟨hx, hb, hml, hown, hts⟩ (c3_wound l D b ((mv_wound_3 ht66_3).symm.trans e66)) (va_cwU 2 hts (hw_gU hw_m921 hw_m922 hw_m937 hw_m923 hw_m285 hw_m931) rfl rfl rfl rfl (by decide +kernel) ⟨(Nat.le_of_ble_eq_true rfl), (Nat.le_of_ble_eq_true rfl)⟩) (hw_preV (ci := 3) hE hR rfl (by decide) ht66_3) rfl rfl hl.sz rfl (lv_room (Nat.le_of_ble_eq_true rfl)) dX11_act_66 ⟨(Nat.le_of_ble_eq_true rfl), (Nat.le_of_ble_eq_true rfl)⟩
          · exact va_runU (C := RX5) (owner := RX3) (As := [.int l3, hw_vr b v63]) (rest := []) ⟨hx, hb, hml, hown, hts⟩ (c5_wound l D b ((mv_wound_5 ht66_5).symm.trans e66)) (va_cwO 2 hts (hw_gO hw_m921 hw_m922 hw_m923 hw_m938 hw_m939 hw_m282 hw_m940) rfl rfl rfl hw_m931 (by decide +kernel) ⟨(Nat.le_of_ble_eq_true rfl), (Nat.le_of_ble_eq_true rfl)⟩) (hw_preV (ci := 5) hE hR rfl (by decide) ht66_5) rfl rfl hl.sz rfl (lv_room (Nat.le_of_ble_eq_true rfl)) dX11_act_66 ⟨(Nat.le_of_ble_eq_true rfl), (Nat.le_of_ble_eq_true rfl)⟩
          · exact va_runU (C := RX6) (owner := RX3) (As := [.int l3, hw_vr b v63]) (rest := []) ⟨hx, hb, hml, hown, hts⟩ (c2_wound l D b ((mv_wound_6 ht66_6).symm.trans e66)) (va_cwO 2 hts (hw_gO hw_m921 hw_m922 hw_m923 hw_m942 hw_m925 hw_m270 hw_m926) rfl rfl rfl hw_m931 (by decide +kernel) ⟨(Nat.le_of_ble_eq_true rfl), (Nat.le_of_ble_eq_true rfl)⟩) (hw_preV (ci := 6) hE hR rfl (by decide) ht66_6) rfl rfl hl.sz rfl (lv_room (Nat.le_of_ble_eq_true rfl)) dX11_act_66 ⟨(Nat.le_of_ble_eq_true rfl), (Nat.le_of_ble_eq_true rfl)⟩
          · exact va_runU (C := RX7) (owner := RX3) (As := [.int l3, hw_vr b v63]) (rest := []) ⟨hx, hb, hml, hown, hts⟩ (c3_wound l D b ((mv_wound_7 ht66_7).symm.trans e66)) (va_cwU 2 hts (hw_gU hw_m921 hw_m922 hw_m943 hw_m923 hw_m285 hw_m931) rfl rfl rfl rfl (by decide +kernel) ⟨(Nat.le_of_ble_eq_true rfl), (Nat.le_of_ble_eq_true rfl)⟩) (hw_preV (ci := 7) hE hR rfl (by decide) ht66_7) rfl rfl hl.sz rfl (lv_room (Nat.le_of_ble_eq_true rfl)) dX11_act_66 ⟨(Nat.le_of_ble_eq_true rfl), (Nat.le_of_ble_eq_true rfl)⟩
        exact hw_rWI hx hb hr hlk hR hS hm dX11_act_69
      · have hm := hw_in hm c22_1
        refine hw_case l2 (2) (fun c22_2 => ?_) (fun c22_2 => ?_)
        · have hm := hw_ip hm c22_2
          refine lv_tableIn (off := 48) (tgt := 70) hx hb dX11_act_22 (by rw [c22_2]; decide) (by rw [c22_2]; decide) (by rw [c22_2]; rfl) (by decide) ?_
          refine hw_aload hx hb dX11_act_70 (hl.at 0 rfl) ?_
          refine lv_iload_n hx hb dX11_act_72 rfl (hl.at 4 rfl) ?_
          refine hw_aload_n hx hb dX11_act_73 rfl (hl.at 1 rfl) ?_
          obtain ⟨v74, e74, hm⟩ := hw_bs hm
          refine hw_getP hx hb hw_cf11 hts hown hK hR e74 (by decide) rfl (hts _ hw_m26) (fun _ h9 => h9) dX11_act_74 ?_
          obtain ⟨a77, g77, hm⟩ := hw_bs hm
          obtain ⟨h77, ht77⟩ := hw_rv_of g77
          rw [h77]
          obtain ⟨v77, σ77, e77, hm⟩ := hw_bs2 hm
          refine hw_cWI (D := D) (r := v77) (τ := σ77) (mc := 0) (ms := 0) (rest := []) (a := (Value.ref (b + a77) :: [.int l3, hw_vr b v74]).toArray) ?_ hS (fun _ _ hR hS => ?_)
          · rcases hw_qL_or ht77 with ht77_0 | ht77_1 | ht77_2 | ht77_3 | ht77_5 | ht77_6 | ht77_7
            · exact va_runU (C := RX0) (owner := RX3) (As := [.int l3, hw_vr b v74]) (rest := []) ⟨hx, hb, hml, hown, hts⟩ (c0_laid l D b ((mv_laid_0 ht77_0).symm.trans e77)) (va_cwO 2 hts (hw_gO hw_m944 hw_m945 hw_m946 hw_m947 hw_m948 hw_m276 hw_m949) rfl rfl rfl hw_m954 (by decide +kernel) ⟨(Nat.le_of_ble_eq_true rfl), (Nat.le_of_ble_eq_true rfl)⟩) (hw_preV (ci := 0) hE hR rfl (by decide) ht77_0) rfl rfl hl.sz rfl (lv_room (Nat.le_of_ble_eq_true rfl)) dX11_act_77 ⟨(Nat.le_of_ble_eq_true rfl), (Nat.le_of_ble_eq_true rfl)⟩
            · exact va_runU (C := RX1) (owner := RX3) (As := [.int l3, hw_vr b v74]) (rest := []) ⟨hx, hb, hml, hown, hts⟩ (c1_laid l D b ((mv_laid_1 ht77_1).symm.trans e77)) (va_cwO 2 hts (hw_gO hw_m944 hw_m945 hw_m946 hw_m955 hw_m956 hw_m273 hw_m957) rfl rfl rfl hw_m954 (by decide +kernel) ⟨(Nat.le_of_ble_eq_true rfl), (Nat.le_of_ble_eq_true rfl)⟩) (hw_preV (ci := 1) hE hR rfl (by decide) ht77_1) rfl rfl hl.sz rfl (lv_room (Nat.le_of_ble_eq_true rfl)) dX11_act_77 ⟨(Nat.le_of_ble_eq_true rfl), (Nat.le_of_ble_eq_true rfl)⟩
            · exact va_runU (C := RX2) (owner := RX3) (As := [.int l3, hw_vr b v74]) (rest := []) ⟨hx, hb, hml, hown, hts⟩ (c3_laid l D b ((mv_laid_2 ht77_2).symm.trans e77)) (va_cwU 2 hts (hw_gU hw_m944 hw_m945 hw_m964 hw_m946 hw_m285 hw_m954) rfl rfl rfl rfl (by decide +kernel) ⟨(Nat.le_of_ble_eq_true rfl), (Nat.le_of_ble_eq_true rfl)⟩) (hw_preV (ci := 2) hE hR rfl (by decide) ht77_2) rfl rfl hl.sz rfl (lv_room (Nat.le_of_ble_eq_true rfl)) dX11_act_77 ⟨(Nat.le_of_ble_eq_true rfl), (Nat.le_of_ble_eq_true rfl)⟩
            · exact va_runU (C := RX3) (owner := RX3) (As := [.int l3, hw_vr b v74]) (rest := []) ⟨hx, hb, hml, hown, hts⟩ (c3_laid l D b ((mv_laid_3 ht77_3).symm.trans e77)) (va_cwU 2 hts (hw_gU hw_m944 hw_m945 hw_m966 hw_m946 hw_m285 hw_m954) rfl rfl rfl rfl (by decide +kernel) ⟨(Nat.le_of_ble_eq_true rfl), (Nat.le_of_ble_eq_true rfl)⟩) (hw_preV (ci := 3) hE hR rfl (by decide) ht77_3) rfl rfl hl.sz rfl (lv_room (Nat.le_of_ble_eq_true rfl)) dX11_act_77 ⟨(Nat.le_of_ble_eq_true rfl), (Nat.le_of_ble_eq_true rfl)⟩
            · exact va_runU (C := RX5) (owner := RX3) (As := [.int l3, hw_vr b v74]) (rest := []) ⟨hx, hb, hml, hown, hts⟩ (c1_laid l D b ((mv_laid_5 ht77_5).symm.trans e77)) (va_cwO 2 hts (hw_gO hw_m944 hw_m945 hw_m946 hw_m967 hw_m956 hw_m273 hw_m957) rfl rfl rfl hw_m954 (by decide +kernel) ⟨(Nat.le_of_ble_eq_true rfl), (Nat.le_of_ble_eq_true rfl)⟩) (hw_preV (ci := 5) hE hR rfl (by decide) ht77_5) rfl rfl hl.sz rfl (lv_room (Nat.le_of_ble_eq_true rfl)) dX11_act_77 ⟨(Nat.le_of_ble_eq_true rfl), (Nat.le_of_ble_eq_true rfl)⟩
            · exact va_runU (C := RX6) (owner := RX3) (As := [.int l3, hw_vr b v74]) (rest := []) ⟨hx, hb, hml, hown, hts⟩ (c3_laid l D b ((mv_laid_6 ht77_6).symm.trans e77)) (va_cwU 2 hts (hw_gU hw_m944 hw_m945 hw_m968 hw_m946 hw_m285 hw_m954) rfl rfl rfl rfl (by decide +kernel) ⟨(Nat.le_of_ble_eq_true rfl), (Nat.le_of_ble_eq_true rfl)⟩) (hw_preV (ci := 6) hE hR rfl (by decide) ht77_6) rfl rfl hl.sz rfl (lv_room (Nat.le_of_ble_eq_true rfl)) dX11_act_77 ⟨(Nat.le_of_ble_eq_true rfl), (Nat.le_of_ble_eq_true rfl)⟩
            · exact va_runU (C := RX7) (owner := RX3) (As := [.int l3, hw_vr b v74]) (rest := []) ⟨hx, hb, hml, hown, hts⟩ (c3_laid l D b ((mv_laid_7 ht77_7).symm.trans e77)) (va_cwU 2 hts (hw_gU hw_m944 hw_m945 hw_m969 hw_m946 hw_m285 hw_m954) rfl rfl rfl rfl (by decide +kernel) ⟨(Nat.le_of_ble_eq_true rfl), (Nat.le_of_ble_eq_true rfl)⟩) (hw_preV (ci := 7) hE hR rfl (by decide) ht77_7) rfl rfl hl.sz rfl (lv_room (Nat.le_of_ble_eq_true rfl)) dX11_act_77 ⟨(Nat.le_of_ble_eq_true rfl), (Nat.le_of_ble_eq_true rfl)⟩
          exact hw_rWI hx hb hr hlk hR hS hm dX11_act_80
        · have hm := hw_in hm c22_2
          refine lv_tableOut (tgt := 81) hx hb dX11_act_22 (by have h0 := hw_ne (0) c22_0 rfl; have h1 := hw_ne (1) c22_1 rfl; have h2 := hw_ne (2) c22_2 rfl; omega) (by decide) ?_
          refine lv_iconst (v := 0) hx hb dX11_act_81 (by decide) ?_
          exact hw_rWI hx hb hr hlk hR hS hm dX11_act_82
  · have hm := hw_ip hm c16
    refine lv_iconst (v := 0) hx hb dX11_act_19 (by decide) ?_
    exact hw_rWI hx hb hr hlk hR hS hm dX11_act_20
set_option maxRecDepth 100000 in
theorem c11_act (l : Launch) (D : hw_D) (b : Nat) {x0 : Nat} {l1 : Int32} {l2 : Int32} {l3 : Int32} {σ : hw_S} {r : Int32} {τ : hw_S} (hm : m11_act x0 l1 l2 l3 σ = some (r, τ)) : Met l yX11_act (Cond.code yX11_act cX11_act 5 (some .int) :: wsL_law) rm11_act (hw_P1 D b σ [hw_vr b (some x0), .int l1, .int l2, .int l3]) (hw_QI D b τ r) 0 0 (fun q => b ≤ q) := by
  refine hw_start1 (by decide +kernel) (by exact Nat.le_of_ble_eq_true rfl) ?_
  intro p e s m below meth c ls C0 hR hS hl
  have hl : lv_has ls 5 [(0, hw_vr b (some x0)), (1, .int l1), (2, .int l2), (3, .int l3)] := by exact hl
  exact w11_act_s hm C0 hR hS ⟨hl, (List.forall_mem_cons.mpr ⟨(fun h => by rw [show (hw_vr b (some x0) : Value).category = 1 from (hw_vr_cat _ _)] at h; cases h), (List.forall_mem_cons.mpr ⟨(fun h => absurd (show (1 : Nat) = 2 from h) (by decide)), (List.forall_mem_cons.mpr ⟨(fun h => absurd (show (1 : Nat) = 2 from h) (by decide)), (List.forall_mem_cons.mpr ⟨(fun h => absurd (show (1 : Nat) = 2 from h) (by decide)), (fun _ h => absurd h List.not_mem_nil)⟩)⟩)⟩)⟩)⟩

abbrev rm12_ranBody : Room := { frames := 0, cells := 0, slots := 0, locals := 0 }
def m12_ranBody_b19 (x0 : Nat) (σ : hw_S) : Option hw_S :=
  (hw_gI (hw_q 12) 22 (some x0) σ).bind fun v21 =>
  (hw_pI (hw_q 12) 22 (some x0) (v21 + (1 : Int32)) σ).bind fun σ26 =>
  some σ26
set_option maxRecDepth 100000 in
theorem w12_ranBody_b19 {p : Program} {l : Launch} {e : Env} {s : State} {m : MethodId} {args : Array Value} {below : List Frame} {meth : Method} {c : Code} {D : hw_D} {b : Nat} {τ : hw_S} (C0 : hw_C p s m args meth c D yX12_ranBody cX12_ranBody 2 none) {x0 : Nat} {σ : hw_S} {H : Heap} {locs : List Loc} (hm : m12_ranBody_b19 x0 σ = some τ) (hR : hw_R D b σ H) (hS : va_S (fun q => b ≤ q) s.heap H locs) {ls : Array Slot} (hl : hw_L ls 2 255 [(0, hw_vr b (some x0))]) : W p l e rm12_ranBody s m args below meth c H locs 0 0 (MQ below (hw_QV D b τ) args s 0 0 (fun q => b ≤ q)) (F0 m 19 ls []) := by
  obtain ⟨hx, hb, hml, hr, hown, hts, hlk, hE, hnm⟩ := id C0
  have hown : s.vm.findClass RX12 = some m.cls := hown
  have hK := hE.1
  unfold m12_ranBody_b19 at hm
  refine hw_aload_n hx hb dX12_ranBody_19 rfl (hl.at 0 rfl) ?_
  refine lv_dup hx hb dX12_ranBody_20 (hw_vr_cat _ _) ?_
  obtain ⟨v21, e21, hm⟩ := hw_bs hm
  refine hw_getI hx hb hw_cf12 hts hown hK hR e21 (by decide) rfl (hts _ hw_m974) (fun _ h9 => h9) dX12_ranBody_21 ?_
  refine lv_iconst (v := 1) hx hb dX12_ranBody_24 (by decide) ?_
  refine lv_iadd hx hb dX12_ranBody_25 ?_
  obtain ⟨σ26, e26, hm⟩ := hw_bs hm
  refine hw_putI hx hb hw_cf12 hts hown hK hR hS e26 (by decide) rfl rfl (hts _ hw_m974) (fun _ h9 => h9) (Or.inl rfl) dX12_ranBody_26 (fun _ _ hR hS => ?_)
  exact hw_rWV hx hb hr hlk hR hS hm dX12_ranBody_29
def m12_ranBody (x0 : Nat) (l1 : Int32) (σ : hw_S) : Option hw_S :=
  (hw_gI (hw_q 12) 22 (some x0) σ).bind fun v1 =>
  (if (20 : Int32) ≤ v1 then
  m12_ranBody_b19 x0 σ
  else
  (hw_gP (hw_q 12) 21 (some x0) σ).bind fun v10 =>
  (hw_gI (hw_q 12) 22 (some x0) σ).bind fun v14 =>
  (hw_sI v10 v14 l1 σ).bind fun σ18 =>
  m12_ranBody_b19 x0 σ18)
set_option maxRecDepth 100000 in
theorem w12_ranBody_s {p : Program} {l : Launch} {e : Env} {s : State} {m : MethodId} {args : Array Value} {below : List Frame} {meth : Method} {c : Code} {D : hw_D} {b : Nat} {x0 : Nat} {l1 : Int32} {σ : hw_S} {τ : hw_S} {H : Heap} {locs : List Loc} (hm : m12_ranBody x0 l1 σ = some τ) (C0 : hw_C p s m args meth c D yX12_ranBody cX12_ranBody 2 none) (hR : hw_R D b σ H) (hS : va_S (fun q => b ≤ q) s.heap H locs) {ls : Array Slot} (hl : hw_L ls 2 255 [(0, hw_vr b (some x0)), (1, .int l1)]) : W p l e rm12_ranBody s m args below meth c H locs 0 0 (MQ below (hw_QV D b τ) args s 0 0 (fun q => b ≤ q)) (F0 m 0 ls []) := by
  obtain ⟨hx, hb, hml, hr, hown, hts, hlk, hE, hnm⟩ := id C0
  have hown : s.vm.findClass RX12 = some m.cls := hown
  have hK := hE.1
  unfold m12_ranBody at hm
  refine hw_aload_n hx hb dX12_ranBody_0 rfl (hl.at 0 rfl) ?_
  obtain ⟨v1, e1, hm⟩ := hw_bs hm
  refine hw_getI hx hb hw_cf12 hts hown hK hR e1 (by decide) rfl (hts _ hw_m974) (fun _ h9 => h9) dX12_ranBody_1 ?_
  refine lv_bipush (v := 20) hx hb dX12_ranBody_4 (by decide) ?_
  refine lv_icmp_ge (tgt := 19) hx hb dX12_ranBody_6 (by decide) (fun c6 => ?_) (fun c6 => ?_)
  · have hm := hw_ip hm c6
    exact w12_ranBody_b19 C0 hm hR hS (hl.sub [0] rfl)
  · have hm := hw_in hm c6
    refine hw_aload_n hx hb dX12_ranBody_9 rfl (hl.at 0 rfl) ?_
    obtain ⟨v10, e10, hm⟩ := hw_bs hm
    refine hw_getP hx hb hw_cf12 hts hown hK hR e10 (by decide) rfl (hts _ hw_m89) (fun _ h9 => h9) dX12_ranBody_10 ?_
    refine hw_aload_n hx hb dX12_ranBody_13 rfl (hl.at 0 rfl) ?_
    obtain ⟨v14, e14, hm⟩ := hw_bs hm
    refine hw_getI hx hb hw_cf12 hts hown hK hR e14 (by decide) rfl (hts _ hw_m974) (fun _ h9 => h9) dX12_ranBody_14 ?_
    refine lv_iload_n hx hb dX12_ranBody_17 rfl (hl.at 1 rfl) ?_
    obtain ⟨σ18, e18, hm⟩ := hw_bs hm
    refine hw_iast hx hb hK hR hS e18 dX12_ranBody_18 (fun _ _ hR hS => ?_)
    exact w12_ranBody_b19 C0 hm hR hS (hl.sub [0] rfl)
set_option maxRecDepth 100000 in
theorem c12_ranBody (l : Launch) (D : hw_D) (b : Nat) {x0 : Nat} {l1 : Int32} {σ : hw_S} {τ : hw_S} (hm : m12_ranBody x0 l1 σ = some τ) : Met l yX12_ranBody (Cond.code yX12_ranBody cX12_ranBody 2 none :: wsL_law) rm12_ranBody (hw_P1 D b σ [hw_vr b (some x0), .int l1]) (hw_QV D b τ) 0 0 (fun q => b ≤ q) := by
  refine hw_start1 (by decide +kernel) (by exact Nat.le_of_ble_eq_true rfl) ?_
  intro p e s m below meth c ls C0 hR hS hl
  have hl : lv_has ls 2 [(0, hw_vr b (some x0)), (1, .int l1)] := by exact hl
  exact w12_ranBody_s hm C0 hR hS ⟨hl, (List.forall_mem_cons.mpr ⟨(fun h => by rw [show (hw_vr b (some x0) : Value).category = 1 from (hw_vr_cat _ _)] at h; cases h), (List.forall_mem_cons.mpr ⟨(fun h => absurd (show (1 : Nat) = 2 from h) (by decide)), (fun _ h => absurd h List.not_mem_nil)⟩)⟩)⟩

abbrev rm12_plainFalls : Room := { frames := 1, cells := 0, slots := 0, locals := 21 }
def m12_plainFalls (x0 : Nat) (l1 : Int32) (σ : hw_S) : Option (Int32 × hw_S) :=
  (hw_rv (hw_q 12) (some x0) σ).bind fun a2 =>
  (m12_ranBody x0 (1 : Int32) σ).bind fun σ2 =>
  (hw_gI (hw_q 12) 24 (some x0) σ2).bind fun v7 =>
  some ((l1 + v7), σ2)
set_option maxRecDepth 100000 in
theorem w12_plainFalls_s {p : Program} {l : Launch} {e : Env} {s : State} {m : MethodId} {args : Array Value} {below : List Frame} {meth : Method} {c : Code} {D : hw_D} {b : Nat} {x0 : Nat} {l1 : Int32} {σ : hw_S} {r : Int32} {τ : hw_S} {H : Heap} {locs : List Loc} (hm : m12_plainFalls x0 l1 σ = some (r, τ)) (C0 : hw_C p s m args meth c D yX12_plainFalls cX12_plainFalls 2 (some .int)) (hR : hw_R D b σ H) (hS : va_S (fun q => b ≤ q) s.heap H locs) {ls : Array Slot} (hl : hw_L ls 2 255 [(0, hw_vr b (some x0)), (1, .int l1)]) : W p l e rm12_plainFalls s m args below meth c H locs 0 0 (MQ below (hw_QI D b τ r) args s 0 0 (fun q => b ≤ q)) (F0 m 0 ls []) := by
  obtain ⟨hx, hb, hml, hr, hown, hts, hlk, hE, hnm⟩ := id C0
  have hown : s.vm.findClass RX12 = some m.cls := hown
  have hK := hE.1
  unfold m12_plainFalls at hm
  refine hw_aload_n hx hb dX12_plainFalls_0 rfl (hl.at 0 rfl) ?_
  refine lv_iconst (v := 1) hx hb dX12_plainFalls_1 (by decide) ?_
  obtain ⟨a2, g2, hm⟩ := hw_bs hm
  obtain ⟨rfl, ht2⟩ := hw_rv_th g2
  obtain ⟨σ2, e2, hm⟩ := hw_bs hm
  refine hw_cWV (va_runV (As := [.int (1 : Int32)]) (rest := []) ⟨hx, hb, hml, hown, hts⟩ (c12_ranBody l D b e2) (cwV 1 hts (hw_gV hw_m982 hw_m983 hw_m984 hw_m5 hw_m985) rfl rfl rfl (by decide +kernel) ⟨(Nat.le_of_ble_eq_true rfl), (Nat.le_of_ble_eq_true rfl)⟩) (hw_preV (ci := 12) hE hR rfl (by decide) (hw_q_of ht2)) rfl rfl hl.sz rfl (lv_room (Nat.le_of_ble_eq_true rfl)) dX12_plainFalls_2 ⟨(Nat.le_of_ble_eq_true rfl), (Nat.le_of_ble_eq_true rfl)⟩) hS (fun _ _ hR hS => ?_)
  refine lv_iload_n hx hb dX12_plainFalls_5 rfl (hl.at 1 rfl) ?_
  refine hw_aload_n hx hb dX12_plainFalls_6 rfl (hl.at 0 rfl) ?_
  obtain ⟨v7, e7, hm⟩ := hw_bs hm
  refine hw_getI hx hb hw_cf12 hts hown hK hR e7 (by decide) rfl (hts _ hw_m976) (fun _ h9 => h9) dX12_plainFalls_7 ?_
  refine lv_iadd hx hb dX12_plainFalls_10 ?_
  exact hw_rWI hx hb hr hlk hR hS hm dX12_plainFalls_11
set_option maxRecDepth 100000 in
theorem c12_plainFalls (l : Launch) (D : hw_D) (b : Nat) {x0 : Nat} {l1 : Int32} {σ : hw_S} {r : Int32} {τ : hw_S} (hm : m12_plainFalls x0 l1 σ = some (r, τ)) : Met l yX12_plainFalls (Cond.code yX12_plainFalls cX12_plainFalls 2 (some .int) :: wsL_law) rm12_plainFalls (hw_P1 D b σ [hw_vr b (some x0), .int l1]) (hw_QI D b τ r) 0 0 (fun q => b ≤ q) := by
  refine hw_start1 (by decide +kernel) (by exact Nat.le_of_ble_eq_true rfl) ?_
  intro p e s m below meth c ls C0 hR hS hl
  have hl : lv_has ls 2 [(0, hw_vr b (some x0)), (1, .int l1)] := by exact hl
  exact w12_plainFalls_s hm C0 hR hS ⟨hl, (List.forall_mem_cons.mpr ⟨(fun h => by rw [show (hw_vr b (some x0) : Value).category = 1 from (hw_vr_cat _ _)] at h; cases h), (List.forall_mem_cons.mpr ⟨(fun h => absurd (show (1 : Nat) = 2 from h) (by decide)), (fun _ h => absurd h List.not_mem_nil)⟩)⟩)⟩

abbrev rm12_fallsActs : Room := { frames := 2, cells := 0, slots := 0, locals := 42 }
def m12_fallsActs (x0 : Nat) (l1 : Int32) (σ : hw_S) : Option (Int32 × hw_S) :=
  (hw_gI (hw_q 12) 23 (some x0) σ).bind fun v1 =>
  (if v1 = (1 : Int32) then
  (hw_rv (hw_q 12) (some x0) σ).bind fun a11 =>
  (m12_ranBody x0 (11 : Int32) σ).bind fun σ11 =>
  (hw_rv (hw_q 12) (some x0) σ11).bind fun a18 =>
  hw_b2 (m12_plainFalls x0 (l1 * (3 : Int32)) σ11) fun v18 σ18 =>
  some (v18, σ18)
  else
  (hw_gI (hw_q 12) 23 (some x0) σ).bind fun v23 =>
  (if v23 = (5 : Int32) then
  (hw_rv (hw_q 12) (some x0) σ).bind fun a33 =>
  (m12_ranBody x0 (51 : Int32) σ).bind fun σ33 =>
  (hw_rv (hw_q 12) (some x0) σ33).bind fun a38 =>
  hw_b2 (m12_plainFalls x0 l1 σ33) fun v38 σ38 =>
  (hw_gI (hw_q 12) 24 (some x0) σ38).bind fun v42 =>
  some ((v38 ^^^ v42), σ38)
  else
  (hw_rv (hw_q 12) (some x0) σ).bind fun a49 =>
  hw_b2 (m12_plainFalls x0 l1 σ) fun v49 σ49 =>
  some (v49, σ49)))
set_option maxRecDepth 100000 in
theorem w12_fallsActs_s {p : Program} {l : Launch} {e : Env} {s : State} {m : MethodId} {args : Array Value} {below : List Frame} {meth : Method} {c : Code} {D : hw_D} {b : Nat} {x0 : Nat} {l1 : Int32} {σ : hw_S} {r : Int32} {τ : hw_S} {H : Heap} {locs : List Loc} (hm : m12_fallsActs x0 l1 σ = some (r, τ)) (C0 : hw_C p s m args meth c D yX12_fallsActs cX12_fallsActs 2 (some .int)) (hR : hw_R D b σ H) (hS : va_S (fun q => b ≤ q) s.heap H locs) {ls : Array Slot} (hl : hw_L ls 2 255 [(0, hw_vr b (some x0)), (1, .int l1)]) : W p l e rm12_fallsActs s m args below meth c H locs 0 0 (MQ below (hw_QI D b τ r) args s 0 0 (fun q => b ≤ q)) (F0 m 0 ls []) := by
  obtain ⟨hx, hb, hml, hr, hown, hts, hlk, hE, hnm⟩ := id C0
  have hown : s.vm.findClass RX12 = some m.cls := hown
  have hK := hE.1
  unfold m12_fallsActs at hm
  refine hw_aload_n hx hb dX12_fallsActs_0 rfl (hl.at 0 rfl) ?_
  obtain ⟨v1, e1, hm⟩ := hw_bs hm
  refine hw_getI hx hb hw_cf12 hts hown hK hR e1 (by decide) rfl (hts _ hw_m975) (fun _ h9 => h9) dX12_fallsActs_1 ?_
  refine lv_iconst (v := 1) hx hb dX12_fallsActs_4 (by decide) ?_
  refine lv_icmp_ne (tgt := 22) hx hb dX12_fallsActs_5 (by decide) (fun c5 => ?_) (fun c5 => ?_)
  · have hm := hw_in hm c5
    refine hw_aload_n hx hb dX12_fallsActs_22 rfl (hl.at 0 rfl) ?_
    obtain ⟨v23, e23, hm⟩ := hw_bs hm
    refine hw_getI hx hb hw_cf12 hts hown hK hR e23 (by decide) rfl (hts _ hw_m975) (fun _ h9 => h9) dX12_fallsActs_23 ?_
    refine lv_iconst (v := 5) hx hb dX12_fallsActs_26 (by decide) ?_
    refine lv_icmp_ne (tgt := 47) hx hb dX12_fallsActs_27 (by decide) (fun c27 => ?_) (fun c27 => ?_)
    · have hm := hw_in hm c27
      refine hw_aload_n hx hb dX12_fallsActs_47 rfl (hl.at 0 rfl) ?_
      refine lv_iload_n hx hb dX12_fallsActs_48 rfl (hl.at 1 rfl) ?_
      obtain ⟨a49, g49, hm⟩ := hw_bs hm
      obtain ⟨rfl, ht49⟩ := hw_rv_th g49
      obtain ⟨v49, σ49, e49, hm⟩ := hw_bs2 hm
      refine hw_cWI (va_runV (As := [.int l1]) (rest := []) ⟨hx, hb, hml, hown, hts⟩ (c12_plainFalls l D b e49) (cwV 1 hts (hw_gV hw_m986 hw_m987 hw_m988 hw_m5 hw_m989) rfl rfl rfl (by decide +kernel) ⟨(Nat.le_of_ble_eq_true rfl), (Nat.le_of_ble_eq_true rfl)⟩) (hw_preV (ci := 12) hE hR rfl (by decide) (hw_q_of ht49)) rfl rfl hl.sz rfl (lv_room (Nat.le_of_ble_eq_true rfl)) dX12_fallsActs_49 ⟨(Nat.le_of_ble_eq_true rfl), (Nat.le_of_ble_eq_true rfl)⟩) hS (fun _ _ hR hS => ?_)
      exact hw_rWI hx hb hr hlk hR hS hm dX12_fallsActs_52
    · have hm := hw_ip hm c27
      refine hw_aload_n hx hb dX12_fallsActs_30 rfl (hl.at 0 rfl) ?_
      refine lv_bipush (v := 51) hx hb dX12_fallsActs_31 (by decide) ?_
      obtain ⟨a33, g33, hm⟩ := hw_bs hm
      obtain ⟨rfl, ht33⟩ := hw_rv_th g33
      obtain ⟨σ33, e33, hm⟩ := hw_bs hm
      refine hw_cWV (va_runV (As := [.int (51 : Int32)]) (rest := []) ⟨hx, hb, hml, hown, hts⟩ (c12_ranBody l D b e33) (cwV 1 hts (hw_gV hw_m982 hw_m983 hw_m984 hw_m5 hw_m985) rfl rfl rfl (by decide +kernel) ⟨(Nat.le_of_ble_eq_true rfl), (Nat.le_of_ble_eq_true rfl)⟩) (hw_preV (ci := 12) hE hR rfl (by decide) (hw_q_of ht33)) rfl rfl hl.sz rfl (lv_room (Nat.le_of_ble_eq_true rfl)) dX12_fallsActs_33 ⟨(Nat.le_of_ble_eq_true rfl), (Nat.le_of_ble_eq_true rfl)⟩) hS (fun _ _ hR hS => ?_)
      refine hw_aload_n hx hb dX12_fallsActs_36 rfl (hl.at 0 rfl) ?_
      refine lv_iload_n hx hb dX12_fallsActs_37 rfl (hl.at 1 rfl) ?_
      obtain ⟨a38, g38, hm⟩ := hw_bs hm
      obtain ⟨rfl, ht38⟩ := hw_rv_th g38
      obtain ⟨v38, σ38, e38, hm⟩ := hw_bs2 hm
      refine hw_cWI (va_runV (As := [.int l1]) (rest := []) ⟨hx, hb, hml, hown, hts⟩ (c12_plainFalls l D b e38) (cwV 1 hts (hw_gV hw_m986 hw_m987 hw_m988 hw_m5 hw_m989) rfl rfl rfl (by decide +kernel) ⟨(Nat.le_of_ble_eq_true rfl), (Nat.le_of_ble_eq_true rfl)⟩) (hw_preV (ci := 12) hE hR rfl (by decide) (hw_q_of ht38)) rfl rfl hl.sz rfl (lv_room (Nat.le_of_ble_eq_true rfl)) dX12_fallsActs_38 ⟨(Nat.le_of_ble_eq_true rfl), (Nat.le_of_ble_eq_true rfl)⟩) hS (fun _ _ hR hS => ?_)
      refine hw_aload_n hx hb dX12_fallsActs_41 rfl (hl.at 0 rfl) ?_
      obtain ⟨v42, e42, hm⟩ := hw_bs hm
      refine hw_getI hx hb hw_cf12 hts hown hK hR e42 (by decide) rfl (hts _ hw_m976) (fun _ h9 => h9) dX12_fallsActs_42 ?_
      refine lv_ixor hx hb dX12_fallsActs_45 ?_
      exact hw_rWI hx hb hr hlk hR hS hm dX12_fallsActs_46
  · have hm := hw_ip hm c5
    refine hw_aload_n hx hb dX12_fallsActs_8 rfl (hl.at 0 rfl) ?_
    refine lv_bipush (v := 11) hx hb dX12_fallsActs_9 (by decide) ?_
    obtain ⟨a11, g11, hm⟩ := hw_bs hm
    obtain ⟨rfl, ht11⟩ := hw_rv_th g11
    obtain ⟨σ11, e11, hm⟩ := hw_bs hm
    refine hw_cWV (va_runV (As := [.int (11 : Int32)]) (rest := []) ⟨hx, hb, hml, hown, hts⟩ (c12_ranBody l D b e11) (cwV 1 hts (hw_gV hw_m982 hw_m983 hw_m984 hw_m5 hw_m985) rfl rfl rfl (by decide +kernel) ⟨(Nat.le_of_ble_eq_true rfl), (Nat.le_of_ble_eq_true rfl)⟩) (hw_preV (ci := 12) hE hR rfl (by decide) (hw_q_of ht11)) rfl rfl hl.sz rfl (lv_room (Nat.le_of_ble_eq_true rfl)) dX12_fallsActs_11 ⟨(Nat.le_of_ble_eq_true rfl), (Nat.le_of_ble_eq_true rfl)⟩) hS (fun _ _ hR hS => ?_)
    refine hw_aload_n hx hb dX12_fallsActs_14 rfl (hl.at 0 rfl) ?_
    refine lv_iload_n hx hb dX12_fallsActs_15 rfl (hl.at 1 rfl) ?_
    refine lv_iconst (v := 3) hx hb dX12_fallsActs_16 (by decide) ?_
    refine lv_imul hx hb dX12_fallsActs_17 ?_
    obtain ⟨a18, g18, hm⟩ := hw_bs hm
    obtain ⟨rfl, ht18⟩ := hw_rv_th g18
    obtain ⟨v18, σ18, e18, hm⟩ := hw_bs2 hm
    refine hw_cWI (va_runV (As := [.int (l1 * (3 : Int32))]) (rest := []) ⟨hx, hb, hml, hown, hts⟩ (c12_plainFalls l D b e18) (cwV 1 hts (hw_gV hw_m986 hw_m987 hw_m988 hw_m5 hw_m989) rfl rfl rfl (by decide +kernel) ⟨(Nat.le_of_ble_eq_true rfl), (Nat.le_of_ble_eq_true rfl)⟩) (hw_preV (ci := 12) hE hR rfl (by decide) (hw_q_of ht18)) rfl rfl hl.sz rfl (lv_room (Nat.le_of_ble_eq_true rfl)) dX12_fallsActs_18 ⟨(Nat.le_of_ble_eq_true rfl), (Nat.le_of_ble_eq_true rfl)⟩) hS (fun _ _ hR hS => ?_)
    exact hw_rWI hx hb hr hlk hR hS hm dX12_fallsActs_21
set_option maxRecDepth 100000 in
theorem c12_fallsActs (l : Launch) (D : hw_D) (b : Nat) {x0 : Nat} {l1 : Int32} {σ : hw_S} {r : Int32} {τ : hw_S} (hm : m12_fallsActs x0 l1 σ = some (r, τ)) : Met l yX12_fallsActs (Cond.code yX12_fallsActs cX12_fallsActs 2 (some .int) :: wsL_law) rm12_fallsActs (hw_P1 D b σ [hw_vr b (some x0), .int l1]) (hw_QI D b τ r) 0 0 (fun q => b ≤ q) := by
  refine hw_start1 (by decide +kernel) (by exact Nat.le_of_ble_eq_true rfl) ?_
  intro p e s m below meth c ls C0 hR hS hl
  have hl : lv_has ls 2 [(0, hw_vr b (some x0)), (1, .int l1)] := by exact hl
  exact w12_fallsActs_s hm C0 hR hS ⟨hl, (List.forall_mem_cons.mpr ⟨(fun h => by rw [show (hw_vr b (some x0) : Value).category = 1 from (hw_vr_cat _ _)] at h; cases h), (List.forall_mem_cons.mpr ⟨(fun h => absurd (show (1 : Nat) = 2 from h) (by decide)), (fun _ h => absurd h List.not_mem_nil)⟩)⟩)⟩

abbrev rm12_isUnder : Room := { frames := 0, cells := 0, slots := 0, locals := 0 }
def m12_isUnder_b40 (t0 : Int32) : Option Int32 :=
  (hw_tf t0).bind fun _ =>
  some t0
set_option maxRecDepth 100000 in
theorem w12_isUnder_b40 {p : Program} {l : Launch} {e : Env} {s : State} {m : MethodId} {args : Array Value} {below : List Frame} {meth : Method} {c : Code} {D : hw_D} {r : Int32} (C0 : hw_C p s m args meth c D yX12_isUnder cX12_isUnder 2 (some .boolean)) {t0 : Int32} (hm : m12_isUnder_b40 t0 = some r) {ls : Array Slot} (hl : hw_L ls 2 255 []) : W p l e rm12_isUnder s m args below meth c s.heap [] 0 0 (MQ below (hw_RI r) args s 0 0 hw_nof) (F0 m 40 ls [.int t0]) := by
  obtain ⟨hx, hb, hml, hr, hown, hts, hlk, hE, hnm⟩ := id C0
  have hown : s.vm.findClass RX12 = some m.cls := hown
  unfold m12_isUnder_b40 at hm
  obtain ⟨_, z40, hm⟩ := hw_bs hm
  exact hw_rRZ hx hb hr hlk z40 hm dX12_isUnder_40
def m12_isUnder_b35 : Option Int32 :=
  m12_isUnder_b40 (1 : Int32)
set_option maxRecDepth 100000 in
theorem w12_isUnder_b35 {p : Program} {l : Launch} {e : Env} {s : State} {m : MethodId} {args : Array Value} {below : List Frame} {meth : Method} {c : Code} {D : hw_D} {r : Int32} (C0 : hw_C p s m args meth c D yX12_isUnder cX12_isUnder 2 (some .boolean)) (hm : m12_isUnder_b35  = some r) {ls : Array Slot} (hl : hw_L ls 2 255 []) : W p l e rm12_isUnder s m args below meth c s.heap [] 0 0 (MQ below (hw_RI r) args s 0 0 hw_nof) (F0 m 35 ls []) := by
  obtain ⟨hx, hb, hml, hr, hown, hts, hlk, hE, hnm⟩ := id C0
  have hown : s.vm.findClass RX12 = some m.cls := hown
  unfold m12_isUnder_b35 at hm
  refine lv_iconst (v := 1) hx hb dX12_isUnder_35 (by decide) ?_
  refine lv_goto (tgt := 40) hx hb dX12_isUnder_36 (by decide) ?_
  exact w12_isUnder_b40 C0 hm (hl.sub [] rfl)
def m12_isUnder_b39 : Option Int32 :=
  m12_isUnder_b40 (0 : Int32)
set_option maxRecDepth 100000 in
theorem w12_isUnder_b39 {p : Program} {l : Launch} {e : Env} {s : State} {m : MethodId} {args : Array Value} {below : List Frame} {meth : Method} {c : Code} {D : hw_D} {r : Int32} (C0 : hw_C p s m args meth c D yX12_isUnder cX12_isUnder 2 (some .boolean)) (hm : m12_isUnder_b39  = some r) {ls : Array Slot} (hl : hw_L ls 2 255 []) : W p l e rm12_isUnder s m args below meth c s.heap [] 0 0 (MQ below (hw_RI r) args s 0 0 hw_nof) (F0 m 39 ls []) := by
  obtain ⟨hx, hb, hml, hr, hown, hts, hlk, hE, hnm⟩ := id C0
  have hown : s.vm.findClass RX12 = some m.cls := hown
  unfold m12_isUnder_b39 at hm
  refine lv_iconst (v := 0) hx hb dX12_isUnder_39 (by decide) ?_
  exact w12_isUnder_b40 C0 hm (hl.sub [] rfl)
def m12_isUnder_b24 (l0 : Int32) (l1 : Int32) : Option Int32 :=
  (if l1 = (3 : Int32) then
  (if l0 = (6 : Int32) then
  m12_isUnder_b35 
  else
  m12_isUnder_b39 )
  else
  m12_isUnder_b39 )
set_option maxRecDepth 100000 in
theorem w12_isUnder_b24 {p : Program} {l : Launch} {e : Env} {s : State} {m : MethodId} {args : Array Value} {below : List Frame} {meth : Method} {c : Code} {D : hw_D} {r : Int32} (C0 : hw_C p s m args meth c D yX12_isUnder cX12_isUnder 2 (some .boolean)) {l0 : Int32} {l1 : Int32} (hm : m12_isUnder_b24 l0 l1 = some r) {ls : Array Slot} (hl : hw_L ls 2 255 [(0, .int l0), (1, .int l1)]) : W p l e rm12_isUnder s m args below meth c s.heap [] 0 0 (MQ below (hw_RI r) args s 0 0 hw_nof) (F0 m 24 ls []) := by
  obtain ⟨hx, hb, hml, hr, hown, hts, hlk, hE, hnm⟩ := id C0
  have hown : s.vm.findClass RX12 = some m.cls := hown
  unfold m12_isUnder_b24 at hm
  refine lv_iload_n hx hb dX12_isUnder_24 rfl (hl.at 1 rfl) ?_
  refine lv_iconst (v := 3) hx hb dX12_isUnder_25 (by decide) ?_
  refine lv_icmp_ne (tgt := 39) hx hb dX12_isUnder_26 (by decide) (fun c26 => ?_) (fun c26 => ?_)
  · have hm := hw_in hm c26
    exact w12_isUnder_b39 C0 hm (hl.sub [] rfl)
  · have hm := hw_ip hm c26
    refine lv_iload_n hx hb dX12_isUnder_29 rfl (hl.at 0 rfl) ?_
    refine lv_bipush (v := 6) hx hb dX12_isUnder_30 (by decide) ?_
    refine lv_icmp_ne (tgt := 39) hx hb dX12_isUnder_32 (by decide) (fun c32 => ?_) (fun c32 => ?_)
    · have hm := hw_in hm c32
      exact w12_isUnder_b39 C0 hm (hl.sub [] rfl)
    · have hm := hw_ip hm c32
      exact w12_isUnder_b35 C0 hm (hl.sub [] rfl)
def m12_isUnder (l0 : Int32) (l1 : Int32) : Option Int32 :=
  (if l1 = 0 then
  m12_isUnder_b35 
  else
  (if l1 = l0 then
  m12_isUnder_b35 
  else
  (if l1 = (2 : Int32) then
  (if l0 = (4 : Int32) then
  m12_isUnder_b35 
  else
  (if l0 = (5 : Int32) then
  m12_isUnder_b35 
  else
  m12_isUnder_b24 l0 l1))
  else
  m12_isUnder_b24 l0 l1)))
set_option maxRecDepth 100000 in
theorem w12_isUnder_s {p : Program} {l : Launch} {e : Env} {s : State} {m : MethodId} {args : Array Value} {below : List Frame} {meth : Method} {c : Code} {D : hw_D} {l0 : Int32} {l1 : Int32} {r : Int32} (hm : m12_isUnder l0 l1 = some r) (C0 : hw_C p s m args meth c D yX12_isUnder cX12_isUnder 2 (some .boolean)) {ls : Array Slot} (hl : hw_L ls 2 255 [(0, .int l0), (1, .int l1)]) : W p l e rm12_isUnder s m args below meth c s.heap [] 0 0 (MQ below (hw_RI r) args s 0 0 hw_nof) (F0 m 0 ls []) := by
  obtain ⟨hx, hb, hml, hr, hown, hts, hlk, hE, hnm⟩ := id C0
  have hown : s.vm.findClass RX12 = some m.cls := hown
  unfold m12_isUnder at hm
  refine lv_iload_n hx hb dX12_isUnder_0 rfl (hl.at 1 rfl) ?_
  refine lv_if_eq (tgt := 35) hx hb dX12_isUnder_1 (by decide) (fun c1 => ?_) (fun c1 => ?_)
  · have hm := hw_ip hm c1
    exact w12_isUnder_b35 C0 hm (hl.sub [] rfl)
  · have hm := hw_in hm c1
    refine lv_iload_n hx hb dX12_isUnder_4 rfl (hl.at 1 rfl) ?_
    refine lv_iload_n hx hb dX12_isUnder_5 rfl (hl.at 0 rfl) ?_
    refine lv_icmp_eq (tgt := 35) hx hb dX12_isUnder_6 (by decide) (fun c6 => ?_) (fun c6 => ?_)
    · have hm := hw_ip hm c6
      exact w12_isUnder_b35 C0 hm (hl.sub [] rfl)
    · have hm := hw_in hm c6
      refine lv_iload_n hx hb dX12_isUnder_9 rfl (hl.at 1 rfl) ?_
      refine lv_iconst (v := 2) hx hb dX12_isUnder_10 (by decide) ?_
      refine lv_icmp_ne (tgt := 24) hx hb dX12_isUnder_11 (by decide) (fun c11 => ?_) (fun c11 => ?_)
      · have hm := hw_in hm c11
        exact w12_isUnder_b24 C0 hm (hl.sub [0, 1] rfl)
      · have hm := hw_ip hm c11
        refine lv_iload_n hx hb dX12_isUnder_14 rfl (hl.at 0 rfl) ?_
        refine lv_iconst (v := 4) hx hb dX12_isUnder_15 (by decide) ?_
        refine lv_icmp_eq (tgt := 35) hx hb dX12_isUnder_16 (by decide) (fun c16 => ?_) (fun c16 => ?_)
        · have hm := hw_ip hm c16
          exact w12_isUnder_b35 C0 hm (hl.sub [] rfl)
        · have hm := hw_in hm c16
          refine lv_iload_n hx hb dX12_isUnder_19 rfl (hl.at 0 rfl) ?_
          refine lv_iconst (v := 5) hx hb dX12_isUnder_20 (by decide) ?_
          refine lv_icmp_eq (tgt := 35) hx hb dX12_isUnder_21 (by decide) (fun c21 => ?_) (fun c21 => ?_)
          · have hm := hw_ip hm c21
            exact w12_isUnder_b35 C0 hm (hl.sub [] rfl)
          · have hm := hw_in hm c21
            exact w12_isUnder_b24 C0 hm (hl.sub [0, 1] rfl)
set_option maxRecDepth 100000 in
theorem c12_isUnder (l : Launch) (D : hw_D) {l0 : Int32} {l1 : Int32} {r : Int32} (hm : m12_isUnder l0 l1 = some r) : Met l yX12_isUnder (Cond.code yX12_isUnder cX12_isUnder 2 (some .boolean) :: wsL_law) rm12_isUnder (hw_P0 D [.int l0, .int l1]) (hw_RI r) 0 0 hw_nof := by
  refine hw_start0 (by decide +kernel) (by exact Nat.le_of_ble_eq_true rfl) ?_
  intro p e s m below meth c ls C0 hl
  have hl : lv_has ls 2 [(0, .int l0), (1, .int l1)] := by exact hl
  exact w12_isUnder_s hm C0 ⟨hl, (List.forall_mem_cons.mpr ⟨(fun h => absurd (show (1 : Nat) = 2 from h) (by decide)), (List.forall_mem_cons.mpr ⟨(fun h => absurd (show (1 : Nat) = 2 from h) (by decide)), (fun _ h => absurd h List.not_mem_nil)⟩)⟩)⟩

abbrev rm12_plainWinds : Room := { frames := 3, cells := 0, slots := 0, locals := 63 }
def m12_plainWinds (x0 : Nat) (l1 : Int32) (σ : hw_S) : Option (Int32 × hw_S) :=
  (hw_rv (hw_q 12) (some x0) σ).bind fun a2 =>
  (m12_ranBody x0 (2 : Int32) σ).bind fun σ2 =>
  (hw_rv (hw_q 12) (some x0) σ2).bind fun a7 =>
  hw_b2 (m12_fallsActs x0 l1 σ2) fun v7 σ7 =>
  (hw_gI (hw_q 12) 25 (some x0) σ7).bind fun v11 =>
  some ((v7 - v11), σ7)
set_option maxRecDepth 100000 in
theorem w12_plainWinds_s {p : Program} {l : Launch} {e : Env} {s : State} {m : MethodId} {args : Array Value} {below : List Frame} {meth : Method} {c : Code} {D : hw_D} {b : Nat} {x0 : Nat} {l1 : Int32} {σ : hw_S} {r : Int32} {τ : hw_S} {H : Heap} {locs : List Loc} (hm : m12_plainWinds x0 l1 σ = some (r, τ)) (C0 : hw_C p s m args meth c D yX12_plainWinds cX12_plainWinds 2 (some .int)) (hR : hw_R D b σ H) (hS : va_S (fun q => b ≤ q) s.heap H locs) {ls : Array Slot} (hl : hw_L ls 2 255 [(0, hw_vr b (some x0)), (1, .int l1)]) : W p l e rm12_plainWinds s m args below meth c H locs 0 0 (MQ below (hw_QI D b τ r) args s 0 0 (fun q => b ≤ q)) (F0 m 0 ls []) := by
  obtain ⟨hx, hb, hml, hr, hown, hts, hlk, hE, hnm⟩ := id C0
  have hown : s.vm.findClass RX12 = some m.cls := hown
  have hK := hE.1
  unfold m12_plainWinds at hm
  refine hw_aload_n hx hb dX12_plainWinds_0 rfl (hl.at 0 rfl) ?_
  refine lv_iconst (v := 2) hx hb dX12_plainWinds_1 (by decide) ?_
  obtain ⟨a2, g2, hm⟩ := hw_bs hm
  obtain ⟨rfl, ht2⟩ := hw_rv_th g2
  obtain ⟨σ2, e2, hm⟩ := hw_bs hm
  refine hw_cWV (va_runV (As := [.int (2 : Int32)]) (rest := []) ⟨hx, hb, hml, hown, hts⟩ (c12_ranBody l D b e2) (cwV 1 hts (hw_gV hw_m982 hw_m983 hw_m984 hw_m5 hw_m985) rfl rfl rfl (by decide +kernel) ⟨(Nat.le_of_ble_eq_true rfl), (Nat.le_of_ble_eq_true rfl)⟩) (hw_preV (ci := 12) hE hR rfl (by decide) (hw_q_of ht2)) rfl rfl hl.sz rfl (lv_room (Nat.le_of_ble_eq_true rfl)) dX12_plainWinds_2 ⟨(Nat.le_of_ble_eq_true rfl), (Nat.le_of_ble_eq_true rfl)⟩) hS (fun _ _ hR hS => ?_)
  refine hw_aload_n hx hb dX12_plainWinds_5 rfl (hl.at 0 rfl) ?_
  refine lv_iload_n hx hb dX12_plainWinds_6 rfl (hl.at 1 rfl) ?_
  obtain ⟨a7, g7, hm⟩ := hw_bs hm
  obtain ⟨rfl, ht7⟩ := hw_rv_th g7
  obtain ⟨v7, σ7, e7, hm⟩ := hw_bs2 hm
  refine hw_cWI (va_runV (As := [.int l1]) (rest := []) ⟨hx, hb, hml, hown, hts⟩ (c12_fallsActs l D b e7) (cwV 1 hts (hw_gV hw_m978 hw_m979 hw_m980 hw_m5 hw_m981) rfl rfl rfl (by decide +kernel) ⟨(Nat.le_of_ble_eq_true rfl), (Nat.le_of_ble_eq_true rfl)⟩) (hw_preV (ci := 12) hE hR rfl (by decide) (hw_q_of ht7)) rfl rfl hl.sz rfl (lv_room (Nat.le_of_ble_eq_true rfl)) dX12_plainWinds_7 ⟨(Nat.le_of_ble_eq_true rfl), (Nat.le_of_ble_eq_true rfl)⟩) hS (fun _ _ hR hS => ?_)
  refine hw_aload_n hx hb dX12_plainWinds_10 rfl (hl.at 0 rfl) ?_
  obtain ⟨v11, e11, hm⟩ := hw_bs hm
  refine hw_getI hx hb hw_cf12 hts hown hK hR e11 (by decide) rfl (hts _ hw_m977) (fun _ h9 => h9) dX12_plainWinds_11 ?_
  refine lv_isub hx hb dX12_plainWinds_14 ?_
  exact hw_rWI hx hb hr hlk hR hS hm dX12_plainWinds_15
set_option maxRecDepth 100000 in
theorem c12_plainWinds (l : Launch) (D : hw_D) (b : Nat) {x0 : Nat} {l1 : Int32} {σ : hw_S} {r : Int32} {τ : hw_S} (hm : m12_plainWinds x0 l1 σ = some (r, τ)) : Met l yX12_plainWinds (Cond.code yX12_plainWinds cX12_plainWinds 2 (some .int) :: wsL_law) rm12_plainWinds (hw_P1 D b σ [hw_vr b (some x0), .int l1]) (hw_QI D b τ r) 0 0 (fun q => b ≤ q) := by
  refine hw_start1 (by decide +kernel) (by exact Nat.le_of_ble_eq_true rfl) ?_
  intro p e s m below meth c ls C0 hR hS hl
  have hl : lv_has ls 2 [(0, hw_vr b (some x0)), (1, .int l1)] := by exact hl
  exact w12_plainWinds_s hm C0 hR hS ⟨hl, (List.forall_mem_cons.mpr ⟨(fun h => by rw [show (hw_vr b (some x0) : Value).category = 1 from (hw_vr_cat _ _)] at h; cases h), (List.forall_mem_cons.mpr ⟨(fun h => absurd (show (1 : Nat) = 2 from h) (by decide)), (fun _ h => absurd h List.not_mem_nil)⟩)⟩)⟩

abbrev rm12_windsActs : Room := { frames := 4, cells := 0, slots := 0, locals := 84 }
def m12_windsActs (x0 : Nat) (l1 : Int32) (σ : hw_S) : Option (Int32 × hw_S) :=
  (hw_gI (hw_q 12) 23 (some x0) σ).bind fun v1 =>
  (m12_isUnder v1 (2 : Int32)).bind fun v5 =>
  (if v5 = 0 then
  (hw_gI (hw_q 12) 23 (some x0) σ).bind fun v25 =>
  (if v25 = (6 : Int32) then
  (hw_rv (hw_q 12) (some x0) σ).bind fun a36 =>
  (m12_ranBody x0 (61 : Int32) σ).bind fun σ36 =>
  (hw_rv (hw_q 12) (some x0) σ36).bind fun a41 =>
  hw_b2 (m12_plainWinds x0 l1 σ36) fun v41 σ41 =>
  (hw_gI (hw_q 12) 25 (some x0) σ41).bind fun v45 =>
  some ((v41 + v45), σ41)
  else
  (hw_rv (hw_q 12) (some x0) σ).bind fun a52 =>
  hw_b2 (m12_plainWinds x0 l1 σ) fun v52 σ52 =>
  some (v52, σ52))
  else
  (hw_rv (hw_q 12) (some x0) σ).bind fun a14 =>
  (m12_ranBody x0 (21 : Int32) σ).bind fun σ14 =>
  (hw_rv (hw_q 12) (some x0) σ14).bind fun a19 =>
  hw_b2 (m12_plainWinds x0 l1 σ14) fun v19 σ19 =>
  some ((-v19), σ19))
set_option maxRecDepth 100000 in
theorem w12_windsActs_s {p : Program} {l : Launch} {e : Env} {s : State} {m : MethodId} {args : Array Value} {below : List Frame} {meth : Method} {c : Code} {D : hw_D} {b : Nat} {x0 : Nat} {l1 : Int32} {σ : hw_S} {r : Int32} {τ : hw_S} {H : Heap} {locs : List Loc} (hm : m12_windsActs x0 l1 σ = some (r, τ)) (C0 : hw_C p s m args meth c D yX12_windsActs cX12_windsActs 2 (some .int)) (hR : hw_R D b σ H) (hS : va_S (fun q => b ≤ q) s.heap H locs) {ls : Array Slot} (hl : hw_L ls 2 255 [(0, hw_vr b (some x0)), (1, .int l1)]) : W p l e rm12_windsActs s m args below meth c H locs 0 0 (MQ below (hw_QI D b τ r) args s 0 0 (fun q => b ≤ q)) (F0 m 0 ls []) := by
  obtain ⟨hx, hb, hml, hr, hown, hts, hlk, hE, hnm⟩ := id C0
  have hown : s.vm.findClass RX12 = some m.cls := hown
  have hK := hE.1
  unfold m12_windsActs at hm
  refine hw_aload_n hx hb dX12_windsActs_0 rfl (hl.at 0 rfl) ?_
  obtain ⟨v1, e1, hm⟩ := hw_bs hm
  refine hw_getI hx hb hw_cf12 hts hown hK hR e1 (by decide) rfl (hts _ hw_m975) (fun _ h9 => h9) dX12_windsActs_1 ?_
  refine lv_iconst (v := 2) hx hb dX12_windsActs_4 (by decide) ?_
  obtain ⟨v5, e5, hm⟩ := hw_bs hm
  refine hw_cRI (va_runS (As := [.int v1, .int (2 : Int32)]) (rest := []) ⟨hx, hb, hml, hown, hts⟩ (c12_isUnder l D e5) (cwS 2 hts (hw_gS hw_m994 hw_m995 hw_m5 hw_m996) rfl rfl rfl (by decide +kernel) ⟨(Nat.le_of_ble_eq_true rfl), (Nat.le_of_ble_eq_true rfl)⟩) (hw_pre0 hE) rfl rfl hl.sz rfl (lv_room (Nat.le_of_ble_eq_true rfl)) dX12_windsActs_5 ⟨(Nat.le_of_ble_eq_true rfl), (Nat.le_of_ble_eq_true rfl)⟩) ?_
  refine lv_if_eq (tgt := 24) hx hb dX12_windsActs_8 (by decide) (fun c8 => ?_) (fun c8 => ?_)
  · have hm := hw_ip hm c8
    refine hw_aload_n hx hb dX12_windsActs_24 rfl (hl.at 0 rfl) ?_
    obtain ⟨v25, e25, hm⟩ := hw_bs hm
    refine hw_getI hx hb hw_cf12 hts hown hK hR e25 (by decide) rfl (hts _ hw_m975) (fun _ h9 => h9) dX12_windsActs_25 ?_
    refine lv_bipush (v := 6) hx hb dX12_windsActs_28 (by decide) ?_
    refine lv_icmp_ne (tgt := 50) hx hb dX12_windsActs_30 (by decide) (fun c30 => ?_) (fun c30 => ?_)
    · have hm := hw_in hm c30
      refine hw_aload_n hx hb dX12_windsActs_50 rfl (hl.at 0 rfl) ?_
      refine lv_iload_n hx hb dX12_windsActs_51 rfl (hl.at 1 rfl) ?_
      obtain ⟨a52, g52, hm⟩ := hw_bs hm
      obtain ⟨rfl, ht52⟩ := hw_rv_th g52
      obtain ⟨v52, σ52, e52, hm⟩ := hw_bs2 hm
      refine hw_cWI (va_runV (As := [.int l1]) (rest := []) ⟨hx, hb, hml, hown, hts⟩ (c12_plainWinds l D b e52) (cwV 1 hts (hw_gV hw_m997 hw_m998 hw_m999 hw_m5 hw_m1000) rfl rfl rfl (by decide +kernel) ⟨(Nat.le_of_ble_eq_true rfl), (Nat.le_of_ble_eq_true rfl)⟩) (hw_preV (ci := 12) hE hR rfl (by decide) (hw_q_of ht52)) rfl rfl hl.sz rfl (lv_room (Nat.le_of_ble_eq_true rfl)) dX12_windsActs_52 ⟨(Nat.le_of_ble_eq_true rfl), (Nat.le_of_ble_eq_true rfl)⟩) hS (fun _ _ hR hS => ?_)
      exact hw_rWI hx hb hr hlk hR hS hm dX12_windsActs_55
    · have hm := hw_ip hm c30
      refine hw_aload_n hx hb dX12_windsActs_33 rfl (hl.at 0 rfl) ?_
      refine lv_bipush (v := 61) hx hb dX12_windsActs_34 (by decide) ?_
      obtain ⟨a36, g36, hm⟩ := hw_bs hm
      obtain ⟨rfl, ht36⟩ := hw_rv_th g36
      obtain ⟨σ36, e36, hm⟩ := hw_bs hm
      refine hw_cWV (va_runV (As := [.int (61 : Int32)]) (rest := []) ⟨hx, hb, hml, hown, hts⟩ (c12_ranBody l D b e36) (cwV 1 hts (hw_gV hw_m982 hw_m983 hw_m984 hw_m5 hw_m985) rfl rfl rfl (by decide +kernel) ⟨(Nat.le_of_ble_eq_true rfl), (Nat.le_of_ble_eq_true rfl)⟩) (hw_preV (ci := 12) hE hR rfl (by decide) (hw_q_of ht36)) rfl rfl hl.sz rfl (lv_room (Nat.le_of_ble_eq_true rfl)) dX12_windsActs_36 ⟨(Nat.le_of_ble_eq_true rfl), (Nat.le_of_ble_eq_true rfl)⟩) hS (fun _ _ hR hS => ?_)
      refine hw_aload_n hx hb dX12_windsActs_39 rfl (hl.at 0 rfl) ?_
      refine lv_iload_n hx hb dX12_windsActs_40 rfl (hl.at 1 rfl) ?_
      obtain ⟨a41, g41, hm⟩ := hw_bs hm
      obtain ⟨rfl, ht41⟩ := hw_rv_th g41
      obtain ⟨v41, σ41, e41, hm⟩ := hw_bs2 hm
      refine hw_cWI (va_runV (As := [.int l1]) (rest := []) ⟨hx, hb, hml, hown, hts⟩ (c12_plainWinds l D b e41) (cwV 1 hts (hw_gV hw_m997 hw_m998 hw_m999 hw_m5 hw_m1000) rfl rfl rfl (by decide +kernel) ⟨(Nat.le_of_ble_eq_true rfl), (Nat.le_of_ble_eq_true rfl)⟩) (hw_preV (ci := 12) hE hR rfl (by decide) (hw_q_of ht41)) rfl rfl hl.sz rfl (lv_room (Nat.le_of_ble_eq_true rfl)) dX12_windsActs_41 ⟨(Nat.le_of_ble_eq_true rfl), (Nat.le_of_ble_eq_true rfl)⟩) hS (fun _ _ hR hS => ?_)
      refine hw_aload_n hx hb dX12_windsActs_44 rfl (hl.at 0 rfl) ?_
      obtain ⟨v45, e45, hm⟩ := hw_bs hm
      refine hw_getI hx hb hw_cf12 hts hown hK hR e45 (by decide) rfl (hts _ hw_m977) (fun _ h9 => h9) dX12_windsActs_45 ?_
      refine lv_iadd hx hb dX12_windsActs_48 ?_
      exact hw_rWI hx hb hr hlk hR hS hm dX12_windsActs_49
  · have hm := hw_in hm c8
    refine hw_aload_n hx hb dX12_windsActs_11 rfl (hl.at 0 rfl) ?_
    refine lv_bipush (v := 21) hx hb dX12_windsActs_12 (by decide) ?_
    obtain ⟨a14, g14, hm⟩ := hw_bs hm
    obtain ⟨rfl, ht14⟩ := hw_rv_th g14
    obtain ⟨σ14, e14, hm⟩ := hw_bs hm
    refine hw_cWV (va_runV (As := [.int (21 : Int32)]) (rest := []) ⟨hx, hb, hml, hown, hts⟩ (c12_ranBody l D b e14) (cwV 1 hts (hw_gV hw_m982 hw_m983 hw_m984 hw_m5 hw_m985) rfl rfl rfl (by decide +kernel) ⟨(Nat.le_of_ble_eq_true rfl), (Nat.le_of_ble_eq_true rfl)⟩) (hw_preV (ci := 12) hE hR rfl (by decide) (hw_q_of ht14)) rfl rfl hl.sz rfl (lv_room (Nat.le_of_ble_eq_true rfl)) dX12_windsActs_14 ⟨(Nat.le_of_ble_eq_true rfl), (Nat.le_of_ble_eq_true rfl)⟩) hS (fun _ _ hR hS => ?_)
    refine hw_aload_n hx hb dX12_windsActs_17 rfl (hl.at 0 rfl) ?_
    refine lv_iload_n hx hb dX12_windsActs_18 rfl (hl.at 1 rfl) ?_
    obtain ⟨a19, g19, hm⟩ := hw_bs hm
    obtain ⟨rfl, ht19⟩ := hw_rv_th g19
    obtain ⟨v19, σ19, e19, hm⟩ := hw_bs2 hm
    refine hw_cWI (va_runV (As := [.int l1]) (rest := []) ⟨hx, hb, hml, hown, hts⟩ (c12_plainWinds l D b e19) (cwV 1 hts (hw_gV hw_m997 hw_m998 hw_m999 hw_m5 hw_m1000) rfl rfl rfl (by decide +kernel) ⟨(Nat.le_of_ble_eq_true rfl), (Nat.le_of_ble_eq_true rfl)⟩) (hw_preV (ci := 12) hE hR rfl (by decide) (hw_q_of ht19)) rfl rfl hl.sz rfl (lv_room (Nat.le_of_ble_eq_true rfl)) dX12_windsActs_19 ⟨(Nat.le_of_ble_eq_true rfl), (Nat.le_of_ble_eq_true rfl)⟩) hS (fun _ _ hR hS => ?_)
    refine lv_ineg hx hb dX12_windsActs_22 ?_
    exact hw_rWI hx hb hr hlk hR hS hm dX12_windsActs_23
set_option maxRecDepth 100000 in
theorem c12_windsActs (l : Launch) (D : hw_D) (b : Nat) {x0 : Nat} {l1 : Int32} {σ : hw_S} {r : Int32} {τ : hw_S} (hm : m12_windsActs x0 l1 σ = some (r, τ)) : Met l yX12_windsActs (Cond.code yX12_windsActs cX12_windsActs 2 (some .int) :: wsL_law) rm12_windsActs (hw_P1 D b σ [hw_vr b (some x0), .int l1]) (hw_QI D b τ r) 0 0 (fun q => b ≤ q) := by
  refine hw_start1 (by decide +kernel) (by exact Nat.le_of_ble_eq_true rfl) ?_
  intro p e s m below meth c ls C0 hR hS hl
  have hl : lv_has ls 2 [(0, hw_vr b (some x0)), (1, .int l1)] := by exact hl
  exact w12_windsActs_s hm C0 hR hS ⟨hl, (List.forall_mem_cons.mpr ⟨(fun h => by rw [show (hw_vr b (some x0) : Value).category = 1 from (hw_vr_cat _ _)] at h; cases h), (List.forall_mem_cons.mpr ⟨(fun h => absurd (show (1 : Nat) = 2 from h) (by decide)), (fun _ h => absurd h List.not_mem_nil)⟩)⟩)⟩

abbrev rm12_plainLies : Room := { frames := 5, cells := 0, slots := 0, locals := 105 }
def m12_plainLies (x0 : Nat) (l1 : Int32) (σ : hw_S) : Option (Int32 × hw_S) :=
  (hw_rv (hw_q 12) (some x0) σ).bind fun a2 =>
  (m12_ranBody x0 (3 : Int32) σ).bind fun σ2 =>
  (hw_rv (hw_q 12) (some x0) σ2).bind fun a7 =>
  hw_b2 (m12_windsActs x0 l1 σ2) fun v7 σ7 =>
  some ((v7 * (2 : Int32)), σ7)
set_option maxRecDepth 100000 in
theorem w12_plainLies_s {p : Program} {l : Launch} {e : Env} {s : State} {m : MethodId} {args : Array Value} {below : List Frame} {meth : Method} {c : Code} {D : hw_D} {b : Nat} {x0 : Nat} {l1 : Int32} {σ : hw_S} {r : Int32} {τ : hw_S} {H : Heap} {locs : List Loc} (hm : m12_plainLies x0 l1 σ = some (r, τ)) (C0 : hw_C p s m args meth c D yX12_plainLies cX12_plainLies 2 (some .int)) (hR : hw_R D b σ H) (hS : va_S (fun q => b ≤ q) s.heap H locs) {ls : Array Slot} (hl : hw_L ls 2 255 [(0, hw_vr b (some x0)), (1, .int l1)]) : W p l e rm12_plainLies s m args below meth c H locs 0 0 (MQ below (hw_QI D b τ r) args s 0 0 (fun q => b ≤ q)) (F0 m 0 ls []) := by
  obtain ⟨hx, hb, hml, hr, hown, hts, hlk, hE, hnm⟩ := id C0
  have hown : s.vm.findClass RX12 = some m.cls := hown
  have hK := hE.1
  unfold m12_plainLies at hm
  refine hw_aload_n hx hb dX12_plainLies_0 rfl (hl.at 0 rfl) ?_
  refine lv_iconst (v := 3) hx hb dX12_plainLies_1 (by decide) ?_
  obtain ⟨a2, g2, hm⟩ := hw_bs hm
  obtain ⟨rfl, ht2⟩ := hw_rv_th g2
  obtain ⟨σ2, e2, hm⟩ := hw_bs hm
  refine hw_cWV (va_runV (As := [.int (3 : Int32)]) (rest := []) ⟨hx, hb, hml, hown, hts⟩ (c12_ranBody l D b e2) (cwV 1 hts (hw_gV hw_m982 hw_m983 hw_m984 hw_m5 hw_m985) rfl rfl rfl (by decide +kernel) ⟨(Nat.le_of_ble_eq_true rfl), (Nat.le_of_ble_eq_true rfl)⟩) (hw_preV (ci := 12) hE hR rfl (by decide) (hw_q_of ht2)) rfl rfl hl.sz rfl (lv_room (Nat.le_of_ble_eq_true rfl)) dX12_plainLies_2 ⟨(Nat.le_of_ble_eq_true rfl), (Nat.le_of_ble_eq_true rfl)⟩) hS (fun _ _ hR hS => ?_)
  refine hw_aload_n hx hb dX12_plainLies_5 rfl (hl.at 0 rfl) ?_
  refine lv_iload_n hx hb dX12_plainLies_6 rfl (hl.at 1 rfl) ?_
  obtain ⟨a7, g7, hm⟩ := hw_bs hm
  obtain ⟨rfl, ht7⟩ := hw_rv_th g7
  obtain ⟨v7, σ7, e7, hm⟩ := hw_bs2 hm
  refine hw_cWI (va_runV (As := [.int l1]) (rest := []) ⟨hx, hb, hml, hown, hts⟩ (c12_windsActs l D b e7) (cwV 1 hts (hw_gV hw_m990 hw_m991 hw_m992 hw_m5 hw_m993) rfl rfl rfl (by decide +kernel) ⟨(Nat.le_of_ble_eq_true rfl), (Nat.le_of_ble_eq_true rfl)⟩) (hw_preV (ci := 12) hE hR rfl (by decide) (hw_q_of ht7)) rfl rfl hl.sz rfl (lv_room (Nat.le_of_ble_eq_true rfl)) dX12_plainLies_7 ⟨(Nat.le_of_ble_eq_true rfl), (Nat.le_of_ble_eq_true rfl)⟩) hS (fun _ _ hR hS => ?_)
  refine lv_iconst (v := 2) hx hb dX12_plainLies_10 (by decide) ?_
  refine lv_imul hx hb dX12_plainLies_11 ?_
  exact hw_rWI hx hb hr hlk hR hS hm dX12_plainLies_12
set_option maxRecDepth 100000 in
theorem c12_plainLies (l : Launch) (D : hw_D) (b : Nat) {x0 : Nat} {l1 : Int32} {σ : hw_S} {r : Int32} {τ : hw_S} (hm : m12_plainLies x0 l1 σ = some (r, τ)) : Met l yX12_plainLies (Cond.code yX12_plainLies cX12_plainLies 2 (some .int) :: wsL_law) rm12_plainLies (hw_P1 D b σ [hw_vr b (some x0), .int l1]) (hw_QI D b τ r) 0 0 (fun q => b ≤ q) := by
  refine hw_start1 (by decide +kernel) (by exact Nat.le_of_ble_eq_true rfl) ?_
  intro p e s m below meth c ls C0 hR hS hl
  have hl : lv_has ls 2 [(0, hw_vr b (some x0)), (1, .int l1)] := by exact hl
  exact w12_plainLies_s hm C0 hR hS ⟨hl, (List.forall_mem_cons.mpr ⟨(fun h => by rw [show (hw_vr b (some x0) : Value).category = 1 from (hw_vr_cat _ _)] at h; cases h), (List.forall_mem_cons.mpr ⟨(fun h => absurd (show (1 : Nat) = 2 from h) (by decide)), (fun _ h => absurd h List.not_mem_nil)⟩)⟩)⟩

abbrev rm12_liesActs : Room := { frames := 6, cells := 0, slots := 0, locals := 126 }
def m12_liesActs (x0 : Nat) (l1 : Int32) (σ : hw_S) : Option (Int32 × hw_S) :=
  (hw_gI (hw_q 12) 23 (some x0) σ).bind fun v1 =>
  (m12_isUnder v1 (3 : Int32)).bind fun v5 =>
  (if v5 = 0 then
  (hw_gI (hw_q 12) 23 (some x0) σ).bind fun v27 =>
  (if v27 = (4 : Int32) then
  (hw_rv (hw_q 12) (some x0) σ).bind fun a37 =>
  (m12_ranBody x0 (41 : Int32) σ).bind fun σ37 =>
  (hw_rv (hw_q 12) (some x0) σ37).bind fun a44 =>
  hw_b2 (m12_plainLies x0 (l1 - (1 : Int32)) σ37) fun v44 σ44 =>
  (hw_rv (hw_q 12) (some x0) σ44).bind fun a51 =>
  hw_b2 (m12_fallsActs x0 (2 : Int32) σ44) fun v51 σ51 =>
  some ((v44 + v51), σ51)
  else
  (hw_rv (hw_q 12) (some x0) σ).bind fun a58 =>
  hw_b2 (m12_plainLies x0 l1 σ) fun v58 σ58 =>
  some (v58, σ58))
  else
  (hw_rv (hw_q 12) (some x0) σ).bind fun a14 =>
  (m12_ranBody x0 (31 : Int32) σ).bind fun σ14 =>
  (hw_rv (hw_q 12) (some x0) σ14).bind fun a19 =>
  hw_b2 (m12_plainLies x0 l1 σ14) fun v19 σ19 =>
  some ((v19 ^^^ (7 : Int32)), σ19))
set_option maxRecDepth 100000 in
theorem w12_liesActs_s {p : Program} {l : Launch} {e : Env} {s : State} {m : MethodId} {args : Array Value} {below : List Frame} {meth : Method} {c : Code} {D : hw_D} {b : Nat} {x0 : Nat} {l1 : Int32} {σ : hw_S} {r : Int32} {τ : hw_S} {H : Heap} {locs : List Loc} (hm : m12_liesActs x0 l1 σ = some (r, τ)) (C0 : hw_C p s m args meth c D yX12_liesActs cX12_liesActs 3 (some .int)) (hR : hw_R D b σ H) (hS : va_S (fun q => b ≤ q) s.heap H locs) {ls : Array Slot} (hl : hw_L ls 3 255 [(0, hw_vr b (some x0)), (1, .int l1)]) : W p l e rm12_liesActs s m args below meth c H locs 0 0 (MQ below (hw_QI D b τ r) args s 0 0 (fun q => b ≤ q)) (F0 m 0 ls []) := by
  obtain ⟨hx, hb, hml, hr, hown, hts, hlk, hE, hnm⟩ := id C0
  have hown : s.vm.findClass RX12 = some m.cls := hown
  have hK := hE.1
  unfold m12_liesActs at hm
  refine hw_aload_n hx hb dX12_liesActs_0 rfl (hl.at 0 rfl) ?_
  obtain ⟨v1, e1, hm⟩ := hw_bs hm
  refine hw_getI hx hb hw_cf12 hts hown hK hR e1 (by decide) rfl (hts _ hw_m975) (fun _ h9 => h9) dX12_liesActs_1 ?_
  refine lv_iconst (v := 3) hx hb dX12_liesActs_4 (by decide) ?_
  obtain ⟨v5, e5, hm⟩ := hw_bs hm
  refine hw_cRI (va_runS (As := [.int v1, .int (3 : Int32)]) (rest := []) ⟨hx, hb, hml, hown, hts⟩ (c12_isUnder l D e5) (cwS 2 hts (hw_gS hw_m994 hw_m995 hw_m5 hw_m996) rfl rfl rfl (by decide +kernel) ⟨(Nat.le_of_ble_eq_true rfl), (Nat.le_of_ble_eq_true rfl)⟩) (hw_pre0 hE) rfl rfl hl.sz rfl (lv_room (Nat.le_of_ble_eq_true rfl)) dX12_liesActs_5 ⟨(Nat.le_of_ble_eq_true rfl), (Nat.le_of_ble_eq_true rfl)⟩) ?_
  refine lv_if_eq (tgt := 26) hx hb dX12_liesActs_8 (by decide) (fun c8 => ?_) (fun c8 => ?_)
  · have hm := hw_ip hm c8
    refine hw_aload_n hx hb dX12_liesActs_26 rfl (hl.at 0 rfl) ?_
    obtain ⟨v27, e27, hm⟩ := hw_bs hm
    refine hw_getI hx hb hw_cf12 hts hown hK hR e27 (by decide) rfl (hts _ hw_m975) (fun _ h9 => h9) dX12_liesActs_27 ?_
    refine lv_iconst (v := 4) hx hb dX12_liesActs_30 (by decide) ?_
    refine lv_icmp_ne (tgt := 56) hx hb dX12_liesActs_31 (by decide) (fun c31 => ?_) (fun c31 => ?_)
    · have hm := hw_in hm c31
      refine hw_aload_n hx hb dX12_liesActs_56 rfl (hl.at 0 rfl) ?_
      refine lv_iload_n hx hb dX12_liesActs_57 rfl (hl.at 1 rfl) ?_
      obtain ⟨a58, g58, hm⟩ := hw_bs hm
      obtain ⟨rfl, ht58⟩ := hw_rv_th g58
      obtain ⟨v58, σ58, e58, hm⟩ := hw_bs2 hm
      refine hw_cWI (va_runV (As := [.int l1]) (rest := []) ⟨hx, hb, hml, hown, hts⟩ (c12_plainLies l D b e58) (cwV 1 hts (hw_gV hw_m1005 hw_m1006 hw_m1007 hw_m5 hw_m1008) rfl rfl rfl (by decide +kernel) ⟨(Nat.le_of_ble_eq_true rfl), (Nat.le_of_ble_eq_true rfl)⟩) (hw_preV (ci := 12) hE hR rfl (by decide) (hw_q_of ht58)) rfl rfl hl.sz rfl (lv_room (Nat.le_of_ble_eq_true rfl)) dX12_liesActs_58 ⟨(Nat.le_of_ble_eq_true rfl), (Nat.le_of_ble_eq_true rfl)⟩) hS (fun _ _ hR hS => ?_)
      exact hw_rWI hx hb hr hlk hR hS hm dX12_liesActs_61
    · have hm := hw_ip hm c31
      refine hw_aload_n hx hb dX12_liesActs_34 rfl (hl.at 0 rfl) ?_
      refine lv_bipush (v := 41) hx hb dX12_liesActs_35 (by decide) ?_
      obtain ⟨a37, g37, hm⟩ := hw_bs hm
      obtain ⟨rfl, ht37⟩ := hw_rv_th g37
      obtain ⟨σ37, e37, hm⟩ := hw_bs hm
      refine hw_cWV (va_runV (As := [.int (41 : Int32)]) (rest := []) ⟨hx, hb, hml, hown, hts⟩ (c12_ranBody l D b e37) (cwV 1 hts (hw_gV hw_m982 hw_m983 hw_m984 hw_m5 hw_m985) rfl rfl rfl (by decide +kernel) ⟨(Nat.le_of_ble_eq_true rfl), (Nat.le_of_ble_eq_true rfl)⟩) (hw_preV (ci := 12) hE hR rfl (by decide) (hw_q_of ht37)) rfl rfl hl.sz rfl (lv_room (Nat.le_of_ble_eq_true rfl)) dX12_liesActs_37 ⟨(Nat.le_of_ble_eq_true rfl), (Nat.le_of_ble_eq_true rfl)⟩) hS (fun _ _ hR hS => ?_)
      refine hw_aload_n hx hb dX12_liesActs_40 rfl (hl.at 0 rfl) ?_
      refine lv_iload_n hx hb dX12_liesActs_41 rfl (hl.at 1 rfl) ?_
      refine lv_iconst (v := 1) hx hb dX12_liesActs_42 (by decide) ?_
      refine lv_isub hx hb dX12_liesActs_43 ?_
      obtain ⟨a44, g44, hm⟩ := hw_bs hm
      obtain ⟨rfl, ht44⟩ := hw_rv_th g44
      obtain ⟨v44, σ44, e44, hm⟩ := hw_bs2 hm
      refine hw_cWI (va_runV (As := [.int (l1 - (1 : Int32))]) (rest := []) ⟨hx, hb, hml, hown, hts⟩ (c12_plainLies l D b e44) (cwV 1 hts (hw_gV hw_m1005 hw_m1006 hw_m1007 hw_m5 hw_m1008) rfl rfl rfl (by decide +kernel) ⟨(Nat.le_of_ble_eq_true rfl), (Nat.le_of_ble_eq_true rfl)⟩) (hw_preV (ci := 12) hE hR rfl (by decide) (hw_q_of ht44)) rfl rfl hl.sz rfl (lv_room (Nat.le_of_ble_eq_true rfl)) dX12_liesActs_44 ⟨(Nat.le_of_ble_eq_true rfl), (Nat.le_of_ble_eq_true rfl)⟩) hS (fun _ _ hR hS => ?_)
      refine hw_istore_n (lv' := [(2, .int v44), (0, hw_vr b (some x0)), (1, .int l1)]) hx hb dX12_liesActs_47 rfl hl (by decide) (by decide) rfl (fun ls hl => ?_)
      refine lv_iload_n hx hb dX12_liesActs_48 rfl (hl.at 0 rfl) ?_
      refine hw_aload_n hx hb dX12_liesActs_49 rfl (hl.at 1 rfl) ?_
      refine lv_iconst (v := 2) hx hb dX12_liesActs_50 (by decide) ?_
      obtain ⟨a51, g51, hm⟩ := hw_bs hm
      obtain ⟨rfl, ht51⟩ := hw_rv_th g51
      obtain ⟨v51, σ51, e51, hm⟩ := hw_bs2 hm
      refine hw_cWI (va_runV (As := [.int (2 : Int32)]) (rest := [.int v44]) ⟨hx, hb, hml, hown, hts⟩ (c12_fallsActs l D b e51) (cwV 1 hts (hw_gV hw_m978 hw_m979 hw_m980 hw_m5 hw_m981) rfl rfl rfl (by decide +kernel) ⟨(Nat.le_of_ble_eq_true rfl), (Nat.le_of_ble_eq_true rfl)⟩) (hw_preV (ci := 12) hE hR rfl (by decide) (hw_q_of ht51)) rfl rfl hl.sz rfl (lv_room (Nat.le_of_ble_eq_true rfl)) dX12_liesActs_51 ⟨(Nat.le_of_ble_eq_true rfl), (Nat.le_of_ble_eq_true rfl)⟩) hS (fun _ _ hR hS => ?_)
      refine lv_iadd hx hb dX12_liesActs_54 ?_
      exact hw_rWI hx hb hr hlk hR hS hm dX12_liesActs_55
  · have hm := hw_in hm c8
    refine hw_aload_n hx hb dX12_liesActs_11 rfl (hl.at 0 rfl) ?_
    refine lv_bipush (v := 31) hx hb dX12_liesActs_12 (by decide) ?_
    obtain ⟨a14, g14, hm⟩ := hw_bs hm
    obtain ⟨rfl, ht14⟩ := hw_rv_th g14
    obtain ⟨σ14, e14, hm⟩ := hw_bs hm
    refine hw_cWV (va_runV (As := [.int (31 : Int32)]) (rest := []) ⟨hx, hb, hml, hown, hts⟩ (c12_ranBody l D b e14) (cwV 1 hts (hw_gV hw_m982 hw_m983 hw_m984 hw_m5 hw_m985) rfl rfl rfl (by decide +kernel) ⟨(Nat.le_of_ble_eq_true rfl), (Nat.le_of_ble_eq_true rfl)⟩) (hw_preV (ci := 12) hE hR rfl (by decide) (hw_q_of ht14)) rfl rfl hl.sz rfl (lv_room (Nat.le_of_ble_eq_true rfl)) dX12_liesActs_14 ⟨(Nat.le_of_ble_eq_true rfl), (Nat.le_of_ble_eq_true rfl)⟩) hS (fun _ _ hR hS => ?_)
    refine hw_aload_n hx hb dX12_liesActs_17 rfl (hl.at 0 rfl) ?_
    refine lv_iload_n hx hb dX12_liesActs_18 rfl (hl.at 1 rfl) ?_
    obtain ⟨a19, g19, hm⟩ := hw_bs hm
    obtain ⟨rfl, ht19⟩ := hw_rv_th g19
    obtain ⟨v19, σ19, e19, hm⟩ := hw_bs2 hm
    refine hw_cWI (va_runV (As := [.int l1]) (rest := []) ⟨hx, hb, hml, hown, hts⟩ (c12_plainLies l D b e19) (cwV 1 hts (hw_gV hw_m1005 hw_m1006 hw_m1007 hw_m5 hw_m1008) rfl rfl rfl (by decide +kernel) ⟨(Nat.le_of_ble_eq_true rfl), (Nat.le_of_ble_eq_true rfl)⟩) (hw_preV (ci := 12) hE hR rfl (by decide) (hw_q_of ht19)) rfl rfl hl.sz rfl (lv_room (Nat.le_of_ble_eq_true rfl)) dX12_liesActs_19 ⟨(Nat.le_of_ble_eq_true rfl), (Nat.le_of_ble_eq_true rfl)⟩) hS (fun _ _ hR hS => ?_)
    refine lv_bipush (v := 7) hx hb dX12_liesActs_22 (by decide) ?_
    refine lv_ixor hx hb dX12_liesActs_24 ?_
    exact hw_rWI hx hb hr hlk hR hS hm dX12_liesActs_25
set_option maxRecDepth 100000 in
theorem c12_liesActs (l : Launch) (D : hw_D) (b : Nat) {x0 : Nat} {l1 : Int32} {σ : hw_S} {r : Int32} {τ : hw_S} (hm : m12_liesActs x0 l1 σ = some (r, τ)) : Met l yX12_liesActs (Cond.code yX12_liesActs cX12_liesActs 3 (some .int) :: wsL_law) rm12_liesActs (hw_P1 D b σ [hw_vr b (some x0), .int l1]) (hw_QI D b τ r) 0 0 (fun q => b ≤ q) := by
  refine hw_start1 (by decide +kernel) (by exact Nat.le_of_ble_eq_true rfl) ?_
  intro p e s m below meth c ls C0 hR hS hl
  have hl : lv_has ls 3 [(0, hw_vr b (some x0)), (1, .int l1)] := by exact hl
  exact w12_liesActs_s hm C0 hR hS ⟨hl, (List.forall_mem_cons.mpr ⟨(fun h => by rw [show (hw_vr b (some x0) : Value).category = 1 from (hw_vr_cat _ _)] at h; cases h), (List.forall_mem_cons.mpr ⟨(fun h => absurd (show (1 : Nat) = 2 from h) (by decide)), (fun _ h => absurd h List.not_mem_nil)⟩)⟩)⟩

abbrev rm12_act : Room := { frames := 7, cells := 0, slots := 0, locals := 148 }
def m12_act_b22 (x0 : Nat) (σ : hw_S) : Option (Int32 × hw_S) :=
  some ((0 : Int32), σ)
set_option maxRecDepth 100000 in
theorem w12_act_b22 {p : Program} {l : Launch} {e : Env} {s : State} {m : MethodId} {args : Array Value} {below : List Frame} {meth : Method} {c : Code} {D : hw_D} {b : Nat} {r : Int32} {τ : hw_S} (C0 : hw_C p s m args meth c D yX12_act cX12_act 4 (some .int)) {x0 : Nat} {σ : hw_S} {H : Heap} {locs : List Loc} (hm : m12_act_b22 x0 σ = some (r, τ)) (hR : hw_R D b σ H) (hS : va_S (fun q => b ≤ q) s.heap H locs) {ls : Array Slot} (hl : hw_L ls 4 255 [(0, hw_vr b (some x0))]) : W p l e rm12_act s m args below meth c H locs 0 0 (MQ below (hw_QI D b τ r) args s 0 0 (fun q => b ≤ q)) (F0 m 22 ls []) := by
  obtain ⟨hx, hb, hml, hr, hown, hts, hlk, hE, hnm⟩ := id C0
  have hown : s.vm.findClass RX12 = some m.cls := hown
  have hK := hE.1
  unfold m12_act_b22 at hm
  refine lv_iconst (v := 0) hx hb dX12_act_22 (by decide) ?_
  exact hw_rWI hx hb hr hlk hR hS hm dX12_act_23
def m12_act_b87 (x0 : Nat) (t0 : Int32) (σ : hw_S) : Option (Int32 × hw_S) :=
  some (t0, σ)
set_option maxRecDepth 100000 in
theorem w12_act_b87 {p : Program} {l : Launch} {e : Env} {s : State} {m : MethodId} {args : Array Value} {below : List Frame} {meth : Method} {c : Code} {D : hw_D} {b : Nat} {r : Int32} {τ : hw_S} (C0 : hw_C p s m args meth c D yX12_act cX12_act 4 (some .int)) {x0 : Nat} {t0 : Int32} {σ : hw_S} {H : Heap} {locs : List Loc} (hm : m12_act_b87 x0 t0 σ = some (r, τ)) (hR : hw_R D b σ H) (hS : va_S (fun q => b ≤ q) s.heap H locs) {ls : Array Slot} (hl : hw_L ls 4 255 [(0, hw_vr b (some x0))]) : W p l e rm12_act s m args below meth c H locs 0 0 (MQ below (hw_QI D b τ r) args s 0 0 (fun q => b ≤ q)) (F0 m 87 ls [.int t0]) := by
  obtain ⟨hx, hb, hml, hr, hown, hts, hlk, hE, hnm⟩ := id C0
  have hown : s.vm.findClass RX12 = some m.cls := hown
  have hK := hE.1
  unfold m12_act_b87 at hm
  exact hw_rWI hx hb hr hlk hR hS hm dX12_act_87
def m12_act (x0 : Nat) (l1 : Int32) (l2 : Int32) (l3 : Int32) (σ : hw_S) : Option (Int32 × hw_S) :=
  (hw_pI (hw_q 12) 22 (some x0) (0 : Int32) σ).bind fun σ2 =>
  (hw_rv (hw_q 12) (some x0) σ2).bind fun a7 =>
  (m12_isLaw x0 l1 σ2).bind fun v7 =>
  (if v7 = 0 then
  m12_act_b22 x0 σ2
  else
  (m12_in l2 (0 : Int32) (2 : Int32)).bind fun v16 =>
  (if v16 = 0 then
  m12_act_b22 x0 σ2
  else
  (hw_gP (hw_q 12) 1 (some x0) σ2).bind fun v26 =>
  (hw_aI 0 v26 ((140 : Int32) + l1) σ2).bind fun v34 =>
  (hw_pI (hw_q 12) 23 (some x0) v34 σ2).bind fun σ35 =>
  (hw_pI (hw_q 12) 24 (some x0) l1 σ35).bind fun σ40 =>
  (hw_gP (hw_q 12) 1 (some x0) σ40).bind fun v45 =>
  (hw_aI 0 v45 ((148 : Int32) + l1) σ40).bind fun v53 =>
  (hw_pI (hw_q 12) 25 (some x0) v53 σ40).bind fun σ54 =>
  (if l2 = 0 then
  (hw_rv (hw_q 12) (some x0) σ54).bind fun a63 =>
  hw_b2 (m12_fallsActs x0 l3 σ54) fun v63 σ63 =>
  m12_act_b87 x0 v63 σ63
  else
  (if l2 = (1 : Int32) then
  (hw_rv (hw_q 12) (some x0) σ54).bind fun a76 =>
  hw_b2 (m12_windsActs x0 l3 σ54) fun v76 σ76 =>
  m12_act_b87 x0 v76 σ76
  else
  (hw_rv (hw_q 12) (some x0) σ54).bind fun a84 =>
  hw_b2 (m12_liesActs x0 l3 σ54) fun v84 σ84 =>
  m12_act_b87 x0 v84 σ84))))
set_option maxRecDepth 100000 in
theorem w12_act_s {p : Program} {l : Launch} {e : Env} {s : State} {m : MethodId} {args : Array Value} {below : List Frame} {meth : Method} {c : Code} {D : hw_D} {b : Nat} {x0 : Nat} {l1 : Int32} {l2 : Int32} {l3 : Int32} {σ : hw_S} {r : Int32} {τ : hw_S} {H : Heap} {locs : List Loc} (hm : m12_act x0 l1 l2 l3 σ = some (r, τ)) (C0 : hw_C p s m args meth c D yX12_act cX12_act 4 (some .int)) (hR : hw_R D b σ H) (hS : va_S (fun q => b ≤ q) s.heap H locs) {ls : Array Slot} (hl : hw_L ls 4 255 [(0, hw_vr b (some x0)), (1, .int l1), (2, .int l2), (3, .int l3)]) : W p l e rm12_act s m args below meth c H locs 0 0 (MQ below (hw_QI D b τ r) args s 0 0 (fun q => b ≤ q)) (F0 m 0 ls []) := by
  obtain ⟨hx, hb, hml, hr, hown, hts, hlk, hE, hnm⟩ := id C0
  have hown : s.vm.findClass RX12 = some m.cls := hown
  have hK := hE.1
  unfold m12_act at hm
  refine hw_aload_n hx hb dX12_act_0 rfl (hl.at 0 rfl) ?_
  refine lv_iconst (v := 0) hx hb dX12_act_1 (by decide) ?_
  obtain ⟨σ2, e2, hm⟩ := hw_bs hm
  refine hw_putI hx hb hw_cf12 hts hown hK hR hS e2 (by decide) rfl rfl (hts _ hw_m974) (fun _ h9 => h9) (Or.inl rfl) dX12_act_2 (fun _ _ hR hS => ?_)
  refine hw_aload_n hx hb dX12_act_5 rfl (hl.at 0 rfl) ?_
  refine lv_iload_n hx hb dX12_act_6 rfl (hl.at 1 rfl) ?_
  obtain ⟨a7, g7, hm⟩ := hw_bs hm
  obtain ⟨rfl, ht7⟩ := hw_rv_th g7
  obtain ⟨v7, e7, hm⟩ := hw_bs hm
  refine hw_cRI (va_runV (As := [.int l1]) (rest := []) ⟨hx, hb, hml, hown, hts⟩ (c12_isLaw l D b e7) (cwV 1 hts (hw_gV hw_m434 hw_m435 hw_m436 hw_m5 hw_m437) rfl rfl rfl (by decide +kernel) ⟨(Nat.le_of_ble_eq_true rfl), (Nat.le_of_ble_eq_true rfl)⟩) (hw_preV (ci := 12) hE hR rfl (by decide) (hw_q_of ht7)) rfl rfl hl.sz rfl (lv_room (Nat.le_of_ble_eq_true rfl)) dX12_act_7 ⟨(Nat.le_of_ble_eq_true rfl), (Nat.le_of_ble_eq_true rfl)⟩) ?_
  refine lv_if_eq (tgt := 22) hx hb dX12_act_10 (by decide) (fun c10 => ?_) (fun c10 => ?_)
  · have hm := hw_ip hm c10
    exact w12_act_b22 C0 hm hR hS (hl.sub [0] rfl)
  · have hm := hw_in hm c10
    refine lv_iload_n hx hb dX12_act_13 rfl (hl.at 2 rfl) ?_
    refine lv_iconst (v := 0) hx hb dX12_act_14 (by decide) ?_
    refine lv_iconst (v := 2) hx hb dX12_act_15 (by decide) ?_
    obtain ⟨v16, e16, hm⟩ := hw_bs hm
    refine hw_cRI (va_runS (As := [.int l2, .int (0 : Int32), .int (2 : Int32)]) (rest := []) ⟨hx, hb, hml, hown, hts⟩ (c12_in l D e16) (cwS 3 hts (hw_gS hw_m112 hw_m113 hw_m5 hw_m114) rfl rfl rfl (by decide +kernel) ⟨(Nat.le_of_ble_eq_true rfl), (Nat.le_of_ble_eq_true rfl)⟩) (hw_pre0 hE) rfl rfl hl.sz rfl (lv_room (Nat.le_of_ble_eq_true rfl)) dX12_act_16 ⟨(Nat.le_of_ble_eq_true rfl), (Nat.le_of_ble_eq_true rfl)⟩) ?_
    refine lv_if_ne (tgt := 24) hx hb dX12_act_19 (by decide) (fun c19 => ?_) (fun c19 => ?_)
    · have hm := hw_in hm c19
      refine hw_aload_n hx hb dX12_act_24 rfl (hl.at 0 rfl) ?_
      refine hw_aload_n hx hb dX12_act_25 rfl (hl.at 0 rfl) ?_
      obtain ⟨v26, e26, hm⟩ := hw_bs hm
      refine hw_getP hx hb hw_cf12 hts hown hK hR e26 (by decide) rfl (hts _ hw_m76) (fun _ h9 => h9) dX12_act_26 ?_
      refine lv_sipush (v := 140) hx hb dX12_act_29 (by decide) ?_
      refine lv_iload_n hx hb dX12_act_32 rfl (hl.at 1 rfl) ?_
      refine lv_iadd hx hb dX12_act_33 ?_
      obtain ⟨v34, e34, hm⟩ := hw_bs hm
      refine hw_iald hx hb hK hR e34 dX12_act_34 ?_
      obtain ⟨σ35, e35, hm⟩ := hw_bs hm
      refine hw_putI hx hb hw_cf12 hts hown hK hR hS e35 (by decide) rfl rfl (hts _ hw_m975) (fun _ h9 => h9) (Or.inl rfl) dX12_act_35 (fun _ _ hR hS => ?_)
      refine hw_aload_n hx hb dX12_act_38 rfl (hl.at 0 rfl) ?_
      refine lv_iload_n hx hb dX12_act_39 rfl (hl.at 1 rfl) ?_
      obtain ⟨σ40, e40, hm⟩ := hw_bs hm
      refine hw_putI hx hb hw_cf12 hts hown hK hR hS e40 (by decide) rfl rfl (hts _ hw_m976) (fun _ h9 => h9) (Or.inl rfl) dX12_act_40 (fun _ _ hR hS => ?_)
      refine hw_aload_n hx hb dX12_act_43 rfl (hl.at 0 rfl) ?_
      refine hw_aload_n hx hb dX12_act_44 rfl (hl.at 0 rfl) ?_
      obtain ⟨v45, e45, hm⟩ := hw_bs hm
      refine hw_getP hx hb hw_cf12 hts hown hK hR e45 (by decide) rfl (hts _ hw_m76) (fun _ h9 => h9) dX12_act_45 ?_
      refine lv_sipush (v := 148) hx hb dX12_act_48 (by decide) ?_
      refine lv_iload_n hx hb dX12_act_51 rfl (hl.at 1 rfl) ?_
      refine lv_iadd hx hb dX12_act_52 ?_
      obtain ⟨v53, e53, hm⟩ := hw_bs hm
      refine hw_iald hx hb hK hR e53 dX12_act_53 ?_
      obtain ⟨σ54, e54, hm⟩ := hw_bs hm
      refine hw_putI hx hb hw_cf12 hts hown hK hR hS e54 (by decide) rfl rfl (hts _ hw_m977) (fun _ h9 => h9) (Or.inl rfl) dX12_act_54 (fun _ _ hR hS => ?_)
      refine lv_iload_n hx hb dX12_act_57 rfl (hl.at 2 rfl) ?_
      refine lv_if_ne (tgt := 69) hx hb dX12_act_58 (by decide) (fun c58 => ?_) (fun c58 => ?_)
      · have hm := hw_in hm c58
        refine lv_iload_n hx hb dX12_act_69 rfl (hl.at 2 rfl) ?_
        refine lv_iconst (v := 1) hx hb dX12_act_70 (by decide) ?_
        refine lv_icmp_ne (tgt := 82) hx hb dX12_act_71 (by decide) (fun c71 => ?_) (fun c71 => ?_)
        · have hm := hw_in hm c71
          refine hw_aload_n hx hb dX12_act_82 rfl (hl.at 0 rfl) ?_
          refine lv_iload_n hx hb dX12_act_83 rfl (hl.at 3 rfl) ?_
          obtain ⟨a84, g84, hm⟩ := hw_bs hm
          obtain ⟨rfl, ht84⟩ := hw_rv_th g84
          obtain ⟨v84, σ84, e84, hm⟩ := hw_bs2 hm
          refine hw_cWI (va_runV (As := [.int l3]) (rest := []) ⟨hx, hb, hml, hown, hts⟩ (c12_liesActs l D b e84) (cwV 1 hts (hw_gV hw_m1001 hw_m1002 hw_m1003 hw_m5 hw_m1004) rfl rfl rfl (by decide +kernel) ⟨(Nat.le_of_ble_eq_true rfl), (Nat.le_of_ble_eq_true rfl)⟩) (hw_preV (ci := 12) hE hR rfl (by decide) (hw_q_of ht84)) rfl rfl hl.sz rfl (lv_room (Nat.le_of_ble_eq_true rfl)) dX12_act_84 ⟨(Nat.le_of_ble_eq_true rfl), (Nat.le_of_ble_eq_true rfl)⟩) hS (fun _ _ hR hS => ?_)
          exact w12_act_b87 C0 hm hR hS (hl.sub [0] rfl)
        · have hm := hw_ip hm c71
          refine hw_aload_n hx hb dX12_act_74 rfl (hl.at 0 rfl) ?_
          refine lv_iload_n hx hb dX12_act_75 rfl (hl.at 3 rfl) ?_
          obtain ⟨a76, g76, hm⟩ := hw_bs hm
          obtain ⟨rfl, ht76⟩ := hw_rv_th g76
          obtain ⟨v76, σ76, e76, hm⟩ := hw_bs2 hm
          refine hw_cWI (va_runV (As := [.int l3]) (rest := []) ⟨hx, hb, hml, hown, hts⟩ (c12_windsActs l D b e76) (cwV 1 hts (hw_gV hw_m990 hw_m991 hw_m992 hw_m5 hw_m993) rfl rfl rfl (by decide +kernel) ⟨(Nat.le_of_ble_eq_true rfl), (Nat.le_of_ble_eq_true rfl)⟩) (hw_preV (ci := 12) hE hR rfl (by decide) (hw_q_of ht76)) rfl rfl hl.sz rfl (lv_room (Nat.le_of_ble_eq_true rfl)) dX12_act_76 ⟨(Nat.le_of_ble_eq_true rfl), (Nat.le_of_ble_eq_true rfl)⟩) hS (fun _ _ hR hS => ?_)
          refine lv_goto (tgt := 87) hx hb dX12_act_79 (by decide) ?_
          exact w12_act_b87 C0 hm hR hS (hl.sub [0] rfl)
      · have hm := hw_ip hm c58
        refine hw_aload_n hx hb dX12_act_61 rfl (hl.at 0 rfl) ?_
        refine lv_iload_n hx hb dX12_act_62 rfl (hl.at 3 rfl) ?_
        obtain ⟨a63, g63, hm⟩ := hw_bs hm
        obtain ⟨rfl, ht63⟩ := hw_rv_th g63
        obtain ⟨v63, σ63, e63, hm⟩ := hw_bs2 hm
        refine hw_cWI (va_runV (As := [.int l3]) (rest := []) ⟨hx, hb, hml, hown, hts⟩ (c12_fallsActs l D b e63) (cwV 1 hts (hw_gV hw_m978 hw_m979 hw_m980 hw_m5 hw_m981) rfl rfl rfl (by decide +kernel) ⟨(Nat.le_of_ble_eq_true rfl), (Nat.le_of_ble_eq_true rfl)⟩) (hw_preV (ci := 12) hE hR rfl (by decide) (hw_q_of ht63)) rfl rfl hl.sz rfl (lv_room (Nat.le_of_ble_eq_true rfl)) dX12_act_63 ⟨(Nat.le_of_ble_eq_true rfl), (Nat.le_of_ble_eq_true rfl)⟩) hS (fun _ _ hR hS => ?_)
        refine lv_goto (tgt := 87) hx hb dX12_act_66 (by decide) ?_
        exact w12_act_b87 C0 hm hR hS (hl.sub [0] rfl)
    · have hm := hw_ip hm c19
      exact w12_act_b22 C0 hm hR hS (hl.sub [0] rfl)
set_option maxRecDepth 100000 in
theorem c12_act (l : Launch) (D : hw_D) (b : Nat) {x0 : Nat} {l1 : Int32} {l2 : Int32} {l3 : Int32} {σ : hw_S} {r : Int32} {τ : hw_S} (hm : m12_act x0 l1 l2 l3 σ = some (r, τ)) : Met l yX12_act (Cond.code yX12_act cX12_act 4 (some .int) :: wsL_law) rm12_act (hw_P1 D b σ [hw_vr b (some x0), .int l1, .int l2, .int l3]) (hw_QI D b τ r) 0 0 (fun q => b ≤ q) := by
  refine hw_start1 (by decide +kernel) (by exact Nat.le_of_ble_eq_true rfl) ?_
  intro p e s m below meth c ls C0 hR hS hl
  have hl : lv_has ls 4 [(0, hw_vr b (some x0)), (1, .int l1), (2, .int l2), (3, .int l3)] := by exact hl
  exact w12_act_s hm C0 hR hS ⟨hl, (List.forall_mem_cons.mpr ⟨(fun h => by rw [show (hw_vr b (some x0) : Value).category = 1 from (hw_vr_cat _ _)] at h; cases h), (List.forall_mem_cons.mpr ⟨(fun h => absurd (show (1 : Nat) = 2 from h) (by decide)), (List.forall_mem_cons.mpr ⟨(fun h => absurd (show (1 : Nat) = 2 from h) (by decide)), (List.forall_mem_cons.mpr ⟨(fun h => absurd (show (1 : Nat) = 2 from h) (by decide)), (fun _ h => absurd h List.not_mem_nil)⟩)⟩)⟩)⟩)⟩

abbrev rm10_bodyAt : Room := { frames := 1, cells := 0, slots := 0, locals := 22 }
def m10_bodyAt_b29 (x0 : Nat) (t0 : Int32) (σ : hw_S) : Option Int32 :=
  some t0
set_option maxRecDepth 100000 in
theorem w10_bodyAt_b29 {p : Program} {l : Launch} {e : Env} {s : State} {m : MethodId} {args : Array Value} {below : List Frame} {meth : Method} {c : Code} {D : hw_D} {b : Nat} {r : Int32} (C0 : hw_C p s m args meth c D yX10_bodyAt cX10_bodyAt 2 (some .int)) {x0 : Nat} {t0 : Int32} {σ : hw_S} (hm : m10_bodyAt_b29 x0 t0 σ = some r) (hR : hw_R D b σ s.heap) {ls : Array Slot} (hl : hw_L ls 2 255 [(0, hw_vr b (some x0))]) : W p l e rm10_bodyAt s m args below meth c s.heap [] 0 0 (MQ below (hw_RI r) args s 0 0 hw_nof) (F0 m 29 ls [.int t0]) := by
  obtain ⟨hx, hb, hml, hr, hown, hts, hlk, hE, hnm⟩ := id C0
  have hown : s.vm.findClass RX10 = some m.cls := hown
  have hK := hE.1
  unfold m10_bodyAt_b29 at hm
  exact hw_rRI hx hb hr hlk hm dX10_bodyAt_29
def m10_bodyAt (x0 : Nat) (l1 : Int32) (σ : hw_S) : Option Int32 :=
  (hw_gI (hw_q 10) 1 (some x0) σ).bind fun v3 =>
  (m11_isWithin l1 (0 : Int32) ((hw_min v3 (20 : Int32)) - (1 : Int32))).bind fun v13 =>
  (if v13 = 0 then
  m10_bodyAt_b29 x0 ((-1) : Int32) σ
  else
  (hw_gP (hw_q 10) 0 (some x0) σ).bind fun v20 =>
  (hw_aI 0 v20 l1 σ).bind fun v24 =>
  m10_bodyAt_b29 x0 v24 σ)
set_option maxRecDepth 100000 in
theorem w10_bodyAt_s {p : Program} {l : Launch} {e : Env} {s : State} {m : MethodId} {args : Array Value} {below : List Frame} {meth : Method} {c : Code} {D : hw_D} {b : Nat} {x0 : Nat} {l1 : Int32} {σ : hw_S} {r : Int32} (hm : m10_bodyAt x0 l1 σ = some r) (C0 : hw_C p s m args meth c D yX10_bodyAt cX10_bodyAt 2 (some .int)) (hR : hw_R D b σ s.heap) {ls : Array Slot} (hl : hw_L ls 2 255 [(0, hw_vr b (some x0)), (1, .int l1)]) : W p l e rm10_bodyAt s m args below meth c s.heap [] 0 0 (MQ below (hw_RI r) args s 0 0 hw_nof) (F0 m 0 ls []) := by
  obtain ⟨hx, hb, hml, hr, hown, hts, hlk, hE, hnm⟩ := id C0
  have hown : s.vm.findClass RX10 = some m.cls := hown
  have hK := hE.1
  unfold m10_bodyAt at hm
  refine lv_iload_n hx hb dX10_bodyAt_0 rfl (hl.at 1 rfl) ?_
  refine lv_iconst (v := 0) hx hb dX10_bodyAt_1 (by decide) ?_
  refine hw_aload_n hx hb dX10_bodyAt_2 rfl (hl.at 0 rfl) ?_
  obtain ⟨v3, e3, hm⟩ := hw_bs hm
  refine hw_getI hx hb hw_cf10 hts hown hK hR e3 (by decide) rfl (hts _ hw_m71) (fun _ h9 => h9) dX10_bodyAt_3 ?_
  refine lv_bipush (v := 20) hx hb dX10_bodyAt_6 (by decide) ?_
  refine hw_mmin hx hb hml hl hown (hts _ hw_m1017) (hts _ hw_m156) (hts _ hw_m157) (hts _ hw_m158) (Nat.le_of_ble_eq_true rfl) ⟨Nat.le_of_ble_eq_true rfl, (Nat.le_of_ble_eq_true rfl)⟩ (Nat.le_of_ble_eq_true rfl) (Nat.le_of_ble_eq_true rfl) dX10_bodyAt_8 ?_
  refine lv_iconst (v := 1) hx hb dX10_bodyAt_11 (by decide) ?_
  refine lv_isub hx hb dX10_bodyAt_12 ?_
  obtain ⟨v13, e13, hm⟩ := hw_bs hm
  refine hw_cRI (va_runSN (As := [.int l1, .int (0 : Int32), .int ((hw_min v3 (20 : Int32)) - (1 : Int32))]) (rest := []) ⟨hx, hb, hml, hown, hts⟩ (c11_isWithin l D e13) ⟨va_cnB 3 hts (hw_gC hw_m101) rfl rfl rfl (hE.2.1 _ (List.mem_of_getElem? (i := 15) rfl)) (hts _ hw_m2) (by decide +kernel) ⟨(Nat.le_of_ble_eq_true rfl), (Nat.le_of_ble_eq_true rfl)⟩, hts _ hw_m100, trivial⟩ (hw_pre0 hE) rfl rfl hl.sz rfl (lv_room (Nat.le_of_ble_eq_true rfl)) dX10_bodyAt_13 ⟨(Nat.le_of_ble_eq_true rfl), (Nat.le_of_ble_eq_true rfl)⟩) ?_
  refine lv_if_eq (tgt := 28) hx hb dX10_bodyAt_16 (by decide) (fun c16 => ?_) (fun c16 => ?_)
  · have hm := hw_ip hm c16
    refine lv_iconst (v := (-1)) hx hb dX10_bodyAt_28 (by decide) ?_
    exact w10_bodyAt_b29 C0 hm hR (hl.sub [0] rfl)
  · have hm := hw_in hm c16
    refine hw_aload_n hx hb dX10_bodyAt_19 rfl (hl.at 0 rfl) ?_
    obtain ⟨v20, e20, hm⟩ := hw_bs hm
    refine hw_getP hx hb hw_cf10 hts hown hK hR e20 (by decide) rfl (hts _ hw_m70) (fun _ h9 => h9) dX10_bodyAt_20 ?_
    refine lv_iload_n hx hb dX10_bodyAt_23 rfl (hl.at 1 rfl) ?_
    obtain ⟨v24, e24, hm⟩ := hw_bs hm
    refine hw_iald hx hb hK hR e24 dX10_bodyAt_24 ?_
    refine lv_goto (tgt := 29) hx hb dX10_bodyAt_25 (by decide) ?_
    exact w10_bodyAt_b29 C0 hm hR (hl.sub [0] rfl)
set_option maxRecDepth 100000 in
theorem c10_bodyAt (l : Launch) (D : hw_D) (b : Nat) {x0 : Nat} {l1 : Int32} {σ : hw_S} {r : Int32} (hm : m10_bodyAt x0 l1 σ = some r) : Met l yX10_bodyAt (Cond.code yX10_bodyAt cX10_bodyAt 2 (some .int) :: wsL_law) rm10_bodyAt (hw_P1 D b σ [hw_vr b (some x0), .int l1]) (hw_RI r) 0 0 hw_nof := by
  refine hw_start1 (by decide +kernel) (by exact Nat.le_of_ble_eq_true rfl) ?_
  intro p e s m below meth c ls C0 hR hS hl
  have hl : lv_has ls 2 [(0, hw_vr b (some x0)), (1, .int l1)] := by exact hl
  exact w10_bodyAt_s hm C0 hR ⟨hl, (List.forall_mem_cons.mpr ⟨(fun h => by rw [show (hw_vr b (some x0) : Value).category = 1 from (hw_vr_cat _ _)] at h; cases h), (List.forall_mem_cons.mpr ⟨(fun h => absurd (show (1 : Nat) = 2 from h) (by decide)), (fun _ h => absurd h List.not_mem_nil)⟩)⟩)⟩

abbrev rm11_trace : Room := { frames := 2, cells := 0, slots := 0, locals := 43 }
def m11_trace (x0 : Nat) (l1 : Int32) (σ : hw_S) : Option Int32 :=
  (hw_gP (hw_q 11) 4 (some x0) σ).bind fun v1 =>
  (hw_rv (hw_q 10) v1 σ).bind fun a5 =>
  (m10_bodyAt a5 l1 σ).bind fun v5 =>
  some v5
set_option maxRecDepth 100000 in
theorem w11_trace_s {p : Program} {l : Launch} {e : Env} {s : State} {m : MethodId} {args : Array Value} {below : List Frame} {meth : Method} {c : Code} {D : hw_D} {b : Nat} {x0 : Nat} {l1 : Int32} {σ : hw_S} {r : Int32} (hm : m11_trace x0 l1 σ = some r) (C0 : hw_C p s m args meth c D yX11_trace cX11_trace 2 (some .int)) (hR : hw_R D b σ s.heap) {ls : Array Slot} (hl : hw_L ls 2 255 [(0, hw_vr b (some x0)), (1, .int l1)]) : W p l e rm11_trace s m args below meth c s.heap [] 0 0 (MQ below (hw_RI r) args s 0 0 hw_nof) (F0 m 0 ls []) := by
  obtain ⟨hx, hb, hml, hr, hown, hts, hlk, hE, hnm⟩ := id C0
  have hown : s.vm.findClass RX11 = some m.cls := hown
  have hK := hE.1
  unfold m11_trace at hm
  refine hw_aload_n hx hb dX11_trace_0 rfl (hl.at 0 rfl) ?_
  obtain ⟨v1, e1, hm⟩ := hw_bs hm
  refine hw_getP hx hb hw_cf11 hts hown hK hR e1 (by decide) rfl (hts _ hw_m26) (fun _ h9 => h9) dX11_trace_1 ?_
  refine lv_iload_n hx hb dX11_trace_4 rfl (hl.at 1 rfl) ?_
  obtain ⟨a5, g5, hm⟩ := hw_bs hm
  obtain ⟨h5, ht5⟩ := hw_rv_of g5
  rw [h5]
  obtain ⟨v5, e5, hm⟩ := hw_bs hm
  refine hw_cRI (va_runV (As := [.int l1]) (rest := []) ⟨hx, hb, hml, hown, hts⟩ (c10_bodyAt l D b e5) (cwV 1 hts (hw_gV hw_m1013 hw_m1014 hw_m1015 hw_m25 hw_m1016) rfl rfl rfl (by decide +kernel) ⟨(Nat.le_of_ble_eq_true rfl), (Nat.le_of_ble_eq_true rfl)⟩) (hw_preV (ci := 10) hE hR rfl (by decide) (hw_q_of ht5)) rfl rfl hl.sz rfl (lv_room (Nat.le_of_ble_eq_true rfl)) dX11_trace_5 ⟨(Nat.le_of_ble_eq_true rfl), (Nat.le_of_ble_eq_true rfl)⟩) ?_
  exact hw_rRI hx hb hr hlk hm dX11_trace_8
set_option maxRecDepth 100000 in
theorem c11_trace (l : Launch) (D : hw_D) (b : Nat) {x0 : Nat} {l1 : Int32} {σ : hw_S} {r : Int32} (hm : m11_trace x0 l1 σ = some r) : Met l yX11_trace (Cond.code yX11_trace cX11_trace 2 (some .int) :: wsL_law) rm11_trace (hw_P1 D b σ [hw_vr b (some x0), .int l1]) (hw_RI r) 0 0 hw_nof := by
  refine hw_start1 (by decide +kernel) (by exact Nat.le_of_ble_eq_true rfl) ?_
  intro p e s m below meth c ls C0 hR hS hl
  have hl : lv_has ls 2 [(0, hw_vr b (some x0)), (1, .int l1)] := by exact hl
  exact w11_trace_s hm C0 hR ⟨hl, (List.forall_mem_cons.mpr ⟨(fun h => by rw [show (hw_vr b (some x0) : Value).category = 1 from (hw_vr_cat _ _)] at h; cases h), (List.forall_mem_cons.mpr ⟨(fun h => absurd (show (1 : Nat) = 2 from h) (by decide)), (fun _ h => absurd h List.not_mem_nil)⟩)⟩)⟩

abbrev rm12_trace : Room := { frames := 1, cells := 0, slots := 0, locals := 22 }
def m12_trace_b38 (x0 : Nat) (t0 : Int32) (σ : hw_S) : Option Int32 :=
  some t0
set_option maxRecDepth 100000 in
theorem w12_trace_b38 {p : Program} {l : Launch} {e : Env} {s : State} {m : MethodId} {args : Array Value} {below : List Frame} {meth : Method} {c : Code} {D : hw_D} {b : Nat} {r : Int32} (C0 : hw_C p s m args meth c D yX12_trace cX12_trace 2 (some .int)) {x0 : Nat} {t0 : Int32} {σ : hw_S} (hm : m12_trace_b38 x0 t0 σ = some r) (hR : hw_R D b σ s.heap) {ls : Array Slot} (hl : hw_L ls 2 255 [(0, hw_vr b (some x0))]) : W p l e rm12_trace s m args below meth c s.heap [] 0 0 (MQ below (hw_RI r) args s 0 0 hw_nof) (F0 m 38 ls [.int t0]) := by
  obtain ⟨hx, hb, hml, hr, hown, hts, hlk, hE, hnm⟩ := id C0
  have hown : s.vm.findClass RX12 = some m.cls := hown
  have hK := hE.1
  unfold m12_trace_b38 at hm
  exact hw_rRI hx hb hr hlk hm dX12_trace_38
def m12_trace_b20 (x0 : Nat) (l1 : Int32) (t0 : Int32) (t1 : Int32) (t2 : Int32) (σ : hw_S) : Option Int32 :=
  (m12_in t0 t1 (t2 - (1 : Int32))).bind fun v22 =>
  (if v22 = 0 then
  m12_trace_b38 x0 ((-1) : Int32) σ
  else
  (hw_gP (hw_q 12) 21 (some x0) σ).bind fun v29 =>
  (hw_aI 0 v29 l1 σ).bind fun v33 =>
  m12_trace_b38 x0 v33 σ)
set_option maxRecDepth 100000 in
theorem w12_trace_b20 {p : Program} {l : Launch} {e : Env} {s : State} {m : MethodId} {args : Array Value} {below : List Frame} {meth : Method} {c : Code} {D : hw_D} {b : Nat} {r : Int32} (C0 : hw_C p s m args meth c D yX12_trace cX12_trace 2 (some .int)) {x0 : Nat} {l1 : Int32} {t0 : Int32} {t1 : Int32} {t2 : Int32} {σ : hw_S} (hm : m12_trace_b20 x0 l1 t0 t1 t2 σ = some r) (hR : hw_R D b σ s.heap) {ls : Array Slot} (hl : hw_L ls 2 255 [(0, hw_vr b (some x0)), (1, .int l1)]) : W p l e rm12_trace s m args below meth c s.heap [] 0 0 (MQ below (hw_RI r) args s 0 0 hw_nof) (F0 m 20 ls [.int t2, .int t1, .int t0]) := by
  obtain ⟨hx, hb, hml, hr, hown, hts, hlk, hE, hnm⟩ := id C0
  have hown : s.vm.findClass RX12 = some m.cls := hown
  have hK := hE.1
  unfold m12_trace_b20 at hm
  refine lv_iconst (v := 1) hx hb dX12_trace_20 (by decide) ?_
  refine lv_isub hx hb dX12_trace_21 ?_
  obtain ⟨v22, e22, hm⟩ := hw_bs hm
  refine hw_cRI (va_runS (As := [.int t0, .int t1, .int (t2 - (1 : Int32))]) (rest := []) ⟨hx, hb, hml, hown, hts⟩ (c12_in l D e22) (cwS 3 hts (hw_gS hw_m112 hw_m113 hw_m5 hw_m114) rfl rfl rfl (by decide +kernel) ⟨(Nat.le_of_ble_eq_true rfl), (Nat.le_of_ble_eq_true rfl)⟩) (hw_pre0 hE) rfl rfl hl.sz rfl (lv_room (Nat.le_of_ble_eq_true rfl)) dX12_trace_22 ⟨(Nat.le_of_ble_eq_true rfl), (Nat.le_of_ble_eq_true rfl)⟩) ?_
  refine lv_if_eq (tgt := 37) hx hb dX12_trace_25 (by decide) (fun c25 => ?_) (fun c25 => ?_)
  · have hm := hw_ip hm c25
    refine lv_iconst (v := (-1)) hx hb dX12_trace_37 (by decide) ?_
    exact w12_trace_b38 C0 hm hR (hl.sub [0] rfl)
  · have hm := hw_in hm c25
    refine hw_aload_n hx hb dX12_trace_28 rfl (hl.at 0 rfl) ?_
    obtain ⟨v29, e29, hm⟩ := hw_bs hm
    refine hw_getP hx hb hw_cf12 hts hown hK hR e29 (by decide) rfl (hts _ hw_m89) (fun _ h9 => h9) dX12_trace_29 ?_
    refine lv_iload_n hx hb dX12_trace_32 rfl (hl.at 1 rfl) ?_
    obtain ⟨v33, e33, hm⟩ := hw_bs hm
    refine hw_iald hx hb hK hR e33 dX12_trace_33 ?_
    refine lv_goto (tgt := 38) hx hb dX12_trace_34 (by decide) ?_
    exact w12_trace_b38 C0 hm hR (hl.sub [0] rfl)
def m12_trace (x0 : Nat) (l1 : Int32) (σ : hw_S) : Option Int32 :=
  (hw_gI (hw_q 12) 22 (some x0) σ).bind fun v3 =>
  (if (20 : Int32) ≤ v3 then
  m12_trace_b20 x0 l1 l1 (0 : Int32) (20 : Int32) σ
  else
  (hw_gI (hw_q 12) 22 (some x0) σ).bind fun v12 =>
  m12_trace_b20 x0 l1 l1 (0 : Int32) v12 σ)
set_option maxRecDepth 100000 in
theorem w12_trace_s {p : Program} {l : Launch} {e : Env} {s : State} {m : MethodId} {args : Array Value} {below : List Frame} {meth : Method} {c : Code} {D : hw_D} {b : Nat} {x0 : Nat} {l1 : Int32} {σ : hw_S} {r : Int32} (hm : m12_trace x0 l1 σ = some r) (C0 : hw_C p s m args meth c D yX12_trace cX12_trace 2 (some .int)) (hR : hw_R D b σ s.heap) {ls : Array Slot} (hl : hw_L ls 2 255 [(0, hw_vr b (some x0)), (1, .int l1)]) : W p l e rm12_trace s m args below meth c s.heap [] 0 0 (MQ below (hw_RI r) args s 0 0 hw_nof) (F0 m 0 ls []) := by
  obtain ⟨hx, hb, hml, hr, hown, hts, hlk, hE, hnm⟩ := id C0
  have hown : s.vm.findClass RX12 = some m.cls := hown
  have hK := hE.1
  unfold m12_trace at hm
  refine lv_iload_n hx hb dX12_trace_0 rfl (hl.at 1 rfl) ?_
  refine lv_iconst (v := 0) hx hb dX12_trace_1 (by decide) ?_
  refine hw_aload_n hx hb dX12_trace_2 rfl (hl.at 0 rfl) ?_
  obtain ⟨v3, e3, hm⟩ := hw_bs hm
  refine hw_getI hx hb hw_cf12 hts hown hK hR e3 (by decide) rfl (hts _ hw_m974) (fun _ h9 => h9) dX12_trace_3 ?_
  refine lv_bipush (v := 20) hx hb dX12_trace_6 (by decide) ?_
  refine lv_icmp_ge (tgt := 18) hx hb dX12_trace_8 (by decide) (fun c8 => ?_) (fun c8 => ?_)
  · have hm := hw_ip hm c8
    refine lv_bipush (v := 20) hx hb dX12_trace_18 (by decide) ?_
    exact w12_trace_b20 C0 hm hR (hl.sub [0, 1] rfl)
  · have hm := hw_in hm c8
    refine hw_aload_n hx hb dX12_trace_11 rfl (hl.at 0 rfl) ?_
    obtain ⟨v12, e12, hm⟩ := hw_bs hm
    refine hw_getI hx hb hw_cf12 hts hown hK hR e12 (by decide) rfl (hts _ hw_m974) (fun _ h9 => h9) dX12_trace_12 ?_
    refine lv_goto (tgt := 20) hx hb dX12_trace_15 (by decide) ?_
    exact w12_trace_b20 C0 hm hR (hl.sub [0, 1] rfl)
set_option maxRecDepth 100000 in
theorem c12_trace (l : Launch) (D : hw_D) (b : Nat) {x0 : Nat} {l1 : Int32} {σ : hw_S} {r : Int32} (hm : m12_trace x0 l1 σ = some r) : Met l yX12_trace (Cond.code yX12_trace cX12_trace 2 (some .int) :: wsL_law) rm12_trace (hw_P1 D b σ [hw_vr b (some x0), .int l1]) (hw_RI r) 0 0 hw_nof := by
  refine hw_start1 (by decide +kernel) (by exact Nat.le_of_ble_eq_true rfl) ?_
  intro p e s m below meth c ls C0 hR hS hl
  have hl : lv_has ls 2 [(0, hw_vr b (some x0)), (1, .int l1)] := by exact hl
  exact w12_trace_s hm C0 hR ⟨hl, (List.forall_mem_cons.mpr ⟨(fun h => by rw [show (hw_vr b (some x0) : Value).category = 1 from (hw_vr_cat _ _)] at h; cases h), (List.forall_mem_cons.mpr ⟨(fun h => absurd (show (1 : Nat) = 2 from h) (by decide)), (fun _ h => absurd h List.not_mem_nil)⟩)⟩)⟩

abbrev rm11_isOfKind : Room := { frames := 0, cells := 0, slots := 0, locals := 0 }
def m11_isOfKind (l0 : Option Nat) (l1 : Int32) (σ : hw_S) : Option Int32 :=
  (if l1 = 0 then
  (hw_tf (1 : Int32)).bind fun _ =>
  some (1 : Int32)
  else
  (if l1 = 1 then
  (hw_io 7 l0 σ).bind fun v47 =>
  (hw_tf v47).bind fun _ =>
  some v47
  else
  (if l1 = 2 then
  (hw_io 2 l0 σ).bind fun v52 =>
  (hw_tf v52).bind fun _ =>
  some v52
  else
  (if l1 = 3 then
  (hw_io 1 l0 σ).bind fun v57 =>
  (hw_tf v57).bind fun _ =>
  some v57
  else
  (if l1 = 4 then
  (hw_io 0 l0 σ).bind fun v62 =>
  (hw_tf v62).bind fun _ =>
  some v62
  else
  (if l1 = 5 then
  (hw_io 6 l0 σ).bind fun v67 =>
  (hw_tf v67).bind fun _ =>
  some v67
  else
  (if l1 = 6 then
  (hw_io 5 l0 σ).bind fun v72 =>
  (hw_tf v72).bind fun _ =>
  some v72
  else
  (hw_tf (0 : Int32)).bind fun _ =>
  some (0 : Int32))))))))
set_option maxRecDepth 100000 in
theorem w11_isOfKind_s {p : Program} {l : Launch} {e : Env} {s : State} {m : MethodId} {args : Array Value} {below : List Frame} {meth : Method} {c : Code} {D : hw_D} {b : Nat} {l0 : Option Nat} {l1 : Int32} {σ : hw_S} {r : Int32} (hm : m11_isOfKind l0 l1 σ = some r) (C0 : hw_C p s m args meth c D yX11_isOfKind cX11_isOfKind 2 (some .boolean)) (hR : hw_R D b σ s.heap) {ls : Array Slot} (hl : hw_L ls 2 255 [(0, hw_vr b l0), (1, .int l1)]) : W p l e rm11_isOfKind s m args below meth c s.heap [] 0 0 (MQ below (hw_RI r) args s 0 0 hw_nof) (F0 m 0 ls []) := by
  obtain ⟨hx, hb, hml, hr, hown, hts, hlk, hE, hnm⟩ := id C0
  have hown : s.vm.findClass RX11 = some m.cls := hown
  have hK := hE.1
  unfold m11_isOfKind at hm
  refine lv_iload_n hx hb dX11_isOfKind_0 rfl (hl.at 1 rfl) ?_
  refine hw_case l1 (0) (fun c1_0 => ?_) (fun c1_0 => ?_)
  · have hm := hw_ip hm c1_0
    refine lv_tableIn (off := 43) (tgt := 44) hx hb dX11_isOfKind_1 (by rw [c1_0]; decide) (by rw [c1_0]; decide) (by rw [c1_0]; rfl) (by decide) ?_
    refine lv_iconst (v := 1) hx hb dX11_isOfKind_44 (by decide) ?_
    obtain ⟨_, z45, hm⟩ := hw_bs hm
    exact hw_rRZ hx hb hr hlk z45 hm dX11_isOfKind_45
  · have hm := hw_in hm c1_0
    refine hw_case l1 (1) (fun c1_1 => ?_) (fun c1_1 => ?_)
    · have hm := hw_ip hm c1_1
      refine lv_tableIn (off := 45) (tgt := 46) hx hb dX11_isOfKind_1 (by rw [c1_1]; decide) (by rw [c1_1]; decide) (by rw [c1_1]; rfl) (by decide) ?_
      refine hw_aload_n hx hb dX11_isOfKind_46 rfl (hl.at 0 rfl) ?_
      obtain ⟨v47, e47, hm⟩ := hw_bs hm
      refine hw_inst7 hx hb hown hE hR e47 (hts _ hw_m265) dX11_isOfKind_47 ?_
      obtain ⟨_, z50, hm⟩ := hw_bs hm
      exact hw_rRZ hx hb hr hlk z50 hm dX11_isOfKind_50
    · have hm := hw_in hm c1_1
      refine hw_case l1 (2) (fun c1_2 => ?_) (fun c1_2 => ?_)
      · have hm := hw_ip hm c1_2
        refine lv_tableIn (off := 50) (tgt := 51) hx hb dX11_isOfKind_1 (by rw [c1_2]; decide) (by rw [c1_2]; decide) (by rw [c1_2]; rfl) (by decide) ?_
        refine hw_aload_n hx hb dX11_isOfKind_51 rfl (hl.at 0 rfl) ?_
        obtain ⟨v52, e52, hm⟩ := hw_bs hm
        refine hw_inst2 hx hb hown hE hR e52 (hts _ hw_m268) dX11_isOfKind_52 ?_
        obtain ⟨_, z55, hm⟩ := hw_bs hm
        exact hw_rRZ hx hb hr hlk z55 hm dX11_isOfKind_55
      · have hm := hw_in hm c1_2
        refine hw_case l1 (3) (fun c1_3 => ?_) (fun c1_3 => ?_)
        · have hm := hw_ip hm c1_3
          refine lv_tableIn (off := 55) (tgt := 56) hx hb dX11_isOfKind_1 (by rw [c1_3]; decide) (by rw [c1_3]; decide) (by rw [c1_3]; rfl) (by decide) ?_
          refine hw_aload_n hx hb dX11_isOfKind_56 rfl (hl.at 0 rfl) ?_
          obtain ⟨v57, e57, hm⟩ := hw_bs hm
          refine hw_inst1 hx hb hown hE hR e57 (hts _ hw_m271) dX11_isOfKind_57 ?_
          obtain ⟨_, z60, hm⟩ := hw_bs hm
          exact hw_rRZ hx hb hr hlk z60 hm dX11_isOfKind_60
        · have hm := hw_in hm c1_3
          refine hw_case l1 (4) (fun c1_4 => ?_) (fun c1_4 => ?_)
          · have hm := hw_ip hm c1_4
            refine lv_tableIn (off := 60) (tgt := 61) hx hb dX11_isOfKind_1 (by rw [c1_4]; decide) (by rw [c1_4]; decide) (by rw [c1_4]; rfl) (by decide) ?_
            refine hw_aload_n hx hb dX11_isOfKind_61 rfl (hl.at 0 rfl) ?_
            obtain ⟨v62, e62, hm⟩ := hw_bs hm
            refine hw_inst0 hx hb hown hE hR e62 (hts _ hw_m274) dX11_isOfKind_62 ?_
            obtain ⟨_, z65, hm⟩ := hw_bs hm
            exact hw_rRZ hx hb hr hlk z65 hm dX11_isOfKind_65
          · have hm := hw_in hm c1_4
            refine hw_case l1 (5) (fun c1_5 => ?_) (fun c1_5 => ?_)
            · have hm := hw_ip hm c1_5
              refine lv_tableIn (off := 65) (tgt := 66) hx hb dX11_isOfKind_1 (by rw [c1_5]; decide) (by rw [c1_5]; decide) (by rw [c1_5]; rfl) (by decide) ?_
              refine hw_aload_n hx hb dX11_isOfKind_66 rfl (hl.at 0 rfl) ?_
              obtain ⟨v67, e67, hm⟩ := hw_bs hm
              refine hw_inst6 hx hb hown hE hR e67 (hts _ hw_m277) dX11_isOfKind_67 ?_
              obtain ⟨_, z70, hm⟩ := hw_bs hm
              exact hw_rRZ hx hb hr hlk z70 hm dX11_isOfKind_70
            · have hm := hw_in hm c1_5
              refine hw_case l1 (6) (fun c1_6 => ?_) (fun c1_6 => ?_)
              · have hm := hw_ip hm c1_6
                refine lv_tableIn (off := 70) (tgt := 71) hx hb dX11_isOfKind_1 (by rw [c1_6]; decide) (by rw [c1_6]; decide) (by rw [c1_6]; rfl) (by decide) ?_
                refine hw_aload_n hx hb dX11_isOfKind_71 rfl (hl.at 0 rfl) ?_
                obtain ⟨v72, e72, hm⟩ := hw_bs hm
                refine hw_inst5 hx hb hown hE hR e72 (hts _ hw_m280) dX11_isOfKind_72 ?_
                obtain ⟨_, z75, hm⟩ := hw_bs hm
                exact hw_rRZ hx hb hr hlk z75 hm dX11_isOfKind_75
              · have hm := hw_in hm c1_6
                refine lv_tableOut (tgt := 76) hx hb dX11_isOfKind_1 (by have h0 := hw_ne (0) c1_0 rfl; have h1 := hw_ne (1) c1_1 rfl; have h2 := hw_ne (2) c1_2 rfl; have h3 := hw_ne (3) c1_3 rfl; have h4 := hw_ne (4) c1_4 rfl; have h5 := hw_ne (5) c1_5 rfl; have h6 := hw_ne (6) c1_6 rfl; omega) (by decide) ?_
                refine lv_iconst (v := 0) hx hb dX11_isOfKind_76 (by decide) ?_
                obtain ⟨_, z77, hm⟩ := hw_bs hm
                exact hw_rRZ hx hb hr hlk z77 hm dX11_isOfKind_77
set_option maxRecDepth 100000 in
theorem c11_isOfKind (l : Launch) (D : hw_D) (b : Nat) {l0 : Option Nat} {l1 : Int32} {σ : hw_S} {r : Int32} (hm : m11_isOfKind l0 l1 σ = some r) : Met l yX11_isOfKind (Cond.code yX11_isOfKind cX11_isOfKind 2 (some .boolean) :: wsL_law) rm11_isOfKind (hw_P1 D b σ [hw_vr b l0, .int l1]) (hw_RI r) 0 0 hw_nof := by
  refine hw_start1 (by decide +kernel) (by cases l0 <;> exact Nat.le_of_ble_eq_true rfl) ?_
  intro p e s m below meth c ls C0 hR hS hl
  have hl : lv_has ls 2 [(0, hw_vr b l0), (1, .int l1)] := by cases l0 <;> exact hl
  exact w11_isOfKind_s hm C0 hR ⟨hl, (List.forall_mem_cons.mpr ⟨(fun h => by rw [show (hw_vr b l0 : Value).category = 1 from (hw_vr_cat _ _)] at h; cases h), (List.forall_mem_cons.mpr ⟨(fun h => absurd (show (1 : Nat) = 2 from h) (by decide)), (fun _ h => absurd h List.not_mem_nil)⟩)⟩)⟩
