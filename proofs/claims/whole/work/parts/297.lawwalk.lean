set_option maxRecDepth 100000 in
theorem wL_b1292 {p : Program} {e : Env} {s : State} {m : MethodId} {below : List Frame} {meth : Method} {c : Code} {D : hw_D} {l : Launch} {b scr N : Nat} {xs : Nat → Int32} {g : hw_Sd} {k18 : Option Nat → Option Nat → Int32 → hw_S → Option (Int32 × hw_S)} {τ : hw_S} (C0 : hw_CL p s m meth c D b scr N xs) (hG : hw_G g b s s.heap) {j n : Nat} (hj : j + (n + 1) = 513) (hk18 : ∀ {l1 : Option Nat} {l2 : Option Nat} {l3 : Int32} {σ : hw_S} {H : Heap} {locs : List Loc} {ls : Array Slot}, k18 l1 l2 l3 σ = some (1, τ) → hw_R D b σ H → va_S (fun q => b ≤ q) s.heap H locs → hw_L ls 4 255 [(0, .ref scr), (1, hw_vr b l1), (2, hw_vr b l2), (3, .int l3)] → W p l e room_1 s m #[Value.ref scr] below meth c H locs (55 + (j + 1) * 4 + 0) (5876 + (j + 1) * 348 + 0) (lw_Z below #[Value.ref scr] s) (F0 m 18 ls [])) {l1 : Option Nat} {l2 : Option Nat} {l3 : Int32} {σ : hw_S} {H : Heap} {locs : List Loc} (hm : mL_b1292 xs N k18 l1 l2 l3 σ = some (1, τ)) (hR : hw_R D b σ H) (hS : va_S (fun q => b ≤ q) s.heap H locs) {ls : Array Slot} (hl : hw_L ls 4 255 [(0, .ref scr), (1, hw_vr b l1), (2, hw_vr b l2), (3, .int l3)]) : W p l e room_1 s m #[Value.ref scr] below meth c H locs (55 + j * 4 + 4) (5876 + j * 348 + 348) (lw_Z below #[Value.ref scr] s) (F0 m 1292 ls []) := by
  obtain ⟨hx, hb, hml, hr, hown, hts, hlk, hE, hbs, hsb, hX⟩ := id C0
  have hown : s.vm.findClass RL = some m.cls := hown
  have hK := hE.1
  have hsz : scr < s.heap.size := by omega
  unfold mL_b1292 at hm
  refine hw_iinc (v := (l3 + 7)) (lv' := [(3, .int (l3 + 7)), (0, .ref scr), (1, hw_vr b l1), (2, hw_vr b l2)]) hx hb dL_law_1292 hl (k := 3) rfl rfl (by decide) (by decide) rfl (fun ls hl => ?_)
  refine lv_goto (tgt := 18) hx hb dL_law_1295 (by decide) ?_
  refine W.widen (k := 55 + (j + 1) * 4 + 0) (n := 5876 + (j + 1) * 348 + 0) (by omega) (by omega) ?_
  exact hk18 hm hR hS (hl.sub [1, 2, 3, 0] rfl)
set_option maxRecDepth 100000 in
theorem wL_b160 {p : Program} {e : Env} {s : State} {m : MethodId} {below : List Frame} {meth : Method} {c : Code} {D : hw_D} {l : Launch} {b scr N : Nat} {xs : Nat → Int32} {g : hw_Sd} {k18 : Option Nat → Option Nat → Int32 → hw_S → Option (Int32 × hw_S)} {τ : hw_S} (C0 : hw_CL p s m meth c D b scr N xs) (hG : hw_G g b s s.heap) {j n : Nat} (hj : j + (n + 1) = 513) (hk18 : ∀ {l1 : Option Nat} {l2 : Option Nat} {l3 : Int32} {σ : hw_S} {H : Heap} {locs : List Loc} {ls : Array Slot}, k18 l1 l2 l3 σ = some (1, τ) → hw_R D b σ H → va_S (fun q => b ≤ q) s.heap H locs → hw_L ls 4 255 [(0, .ref scr), (1, hw_vr b l1), (2, hw_vr b l2), (3, .int l3)] → W p l e room_1 s m #[Value.ref scr] below meth c H locs (55 + (j + 1) * 4 + 0) (5876 + (j + 1) * 348 + 0) (lw_Z below #[Value.ref scr] s) (F0 m 18 ls [])) {l1 : Option Nat} {l2 : Option Nat} {l3 : Int32} {σ : hw_S} {H : Heap} {locs : List Loc} (hm : mL_b160 xs N k18 l1 l2 l3 σ = some (1, τ)) (hR : hw_R D b σ H) (hS : va_S (fun q => b ≤ q) s.heap H locs) {ls : Array Slot} (hl : hw_L ls 4 255 [(0, .ref scr), (1, hw_vr b l1), (2, hw_vr b l2), (3, .int l3)]) : W p l e room_1 s m #[Value.ref scr] below meth c H locs (55 + j * 4 + 0) (5876 + j * 348 + 0) (lw_Z below #[Value.ref scr] s) (F0 m 160 ls []) := by
  obtain ⟨hx, hb, hml, hr, hown, hts, hlk, hE, hbs, hsb, hX⟩ := id C0
  have hown : s.vm.findClass RL = some m.cls := hown
  have hK := hE.1
  have hsz : scr < s.heap.size := by omega
  unfold mL_b160 at hm
  refine hw_aload_n hx hb dL_law_160 rfl (hl.at 1 rfl) ?_
  refine lv_aload_n hx hb dL_law_161 rfl (hl.at 0 rfl) ?_
  refine lv_iload_n hx hb dL_law_162 rfl (hl.at 3 rfl) ?_
  refine lv_iconst (v := 1) hx hb dL_law_163 (by decide) ?_
  refine lv_iadd hx hb dL_law_164 ?_
  obtain ⟨v165, e165, hm⟩ := hw_bs hm
  refine hw_sxr hx hb hX hS hsb hsz e165 dL_law_165 ?_
  refine lv_aload_n hx hb dL_law_166 rfl (hl.at 0 rfl) ?_
  refine lv_iload_n hx hb dL_law_167 rfl (hl.at 3 rfl) ?_
  refine lv_iconst (v := 2) hx hb dL_law_168 (by decide) ?_
  refine lv_iadd hx hb dL_law_169 ?_
  obtain ⟨v170, e170, hm⟩ := hw_bs hm
  refine hw_sxr hx hb hX hS hsb hsz e170 dL_law_170 ?_
  obtain ⟨a171, g171, hm⟩ := hw_bs hm
  obtain ⟨h171, ht171⟩ := hw_rv_of g171
  rw [h171]
  obtain ⟨v171, σ171, e171, hm⟩ := hw_bs2 hm
  refine hw_cWI (va_runV (As := [.int v165, .int v170]) (rest := []) ⟨hx, hb, hml, hown, hts⟩ (c11_stuff l D b e171) (cwV 2 hts (hw_gV hw_m90 hw_m91 hw_m92 hw_m2 hw_m93) rfl rfl rfl (by decide +kernel) ⟨(Nat.le_of_ble_eq_true rfl), (Nat.le_of_ble_eq_true rfl)⟩) (hw_preV (ci := 11) hE hR rfl (by decide) (hw_q_of ht171)) rfl rfl hl.sz rfl (lv_room (Nat.le_of_ble_eq_true rfl)) dL_law_171 ⟨(by have h9 : room_1.cells = 600000 := rfl; have h8 : room_1.slots = 7302250 := rfl; omega), (by have h9 : room_1.cells = 600000 := rfl; have h8 : room_1.slots = 7302250 := rfl; omega)⟩) hS (fun _ _ hR hS => ?_)
  refine hw_aload_n hx hb dL_law_174 rfl (hl.at 2 rfl) ?_
  refine lv_aload_n hx hb dL_law_175 rfl (hl.at 0 rfl) ?_
  refine lv_iload_n hx hb dL_law_176 rfl (hl.at 3 rfl) ?_
  refine lv_iconst (v := 1) hx hb dL_law_177 (by decide) ?_
  refine lv_iadd hx hb dL_law_178 ?_
  obtain ⟨v179, e179, hm⟩ := hw_bs hm
  refine hw_sxr hx hb hX hS hsb hsz e179 dL_law_179 ?_
  refine lv_aload_n hx hb dL_law_180 rfl (hl.at 0 rfl) ?_
  refine lv_iload_n hx hb dL_law_181 rfl (hl.at 3 rfl) ?_
  refine lv_iconst (v := 2) hx hb dL_law_182 (by decide) ?_
  refine lv_iadd hx hb dL_law_183 ?_
  obtain ⟨v184, e184, hm⟩ := hw_bs hm
  refine hw_sxr hx hb hX hS hsb hsz e184 dL_law_184 ?_
  obtain ⟨a185, g185, hm⟩ := hw_bs hm
  obtain ⟨h185, ht185⟩ := hw_rv_of g185
  rw [h185]
  obtain ⟨v185, σ185, e185, hm⟩ := hw_bs2 hm
  refine hw_cWI (va_runV (As := [.int v179, .int v184]) (rest := [.int v171]) ⟨hx, hb, hml, hown, hts⟩ (c12_stuff l D b e185) (cwV 2 hts (hw_gV hw_m108 hw_m109 hw_m110 hw_m5 hw_m111) rfl rfl rfl (by decide +kernel) ⟨(Nat.le_of_ble_eq_true rfl), (Nat.le_of_ble_eq_true rfl)⟩) (hw_preV (ci := 12) hE hR rfl (by decide) (hw_q_of ht185)) rfl rfl hl.sz rfl (lv_room (Nat.le_of_ble_eq_true rfl)) dL_law_185 ⟨(by have h9 : room_1.cells = 600000 := rfl; have h8 : room_1.slots = 7302250 := rfl; omega), (by have h9 : room_1.cells = 600000 := rfl; have h8 : room_1.slots = 7302250 := rfl; omega)⟩) hS (fun _ _ hR hS => ?_)
  refine lv_icmp_eq (tgt := 1292) hx hb dL_law_188 (by decide) (fun c188 => ?_) (fun c188 => ?_)
  · have hm := hw_ip hm c188
    refine W.widen (k := 55 + j * 4 + 4) (n := 5876 + j * 348 + 348) (by omega) (by omega) ?_
    exact wL_b1292 C0 hG hj hk18 hm hR hS (hl.sub [0, 1, 2, 3] rfl)
  · have hm := hw_in hm c188
    refine lv_iconst (v := 0) hx hb dL_law_191 (by decide) ?_
    exact hw_lret hx hb hr hlk hS hbs (by omega) (by omega) hm dL_law_192
set_option maxRecDepth 100000 in
theorem wL_b193 {p : Program} {e : Env} {s : State} {m : MethodId} {below : List Frame} {meth : Method} {c : Code} {D : hw_D} {l : Launch} {b scr N : Nat} {xs : Nat → Int32} {g : hw_Sd} {k18 : Option Nat → Option Nat → Int32 → hw_S → Option (Int32 × hw_S)} {τ : hw_S} (C0 : hw_CL p s m meth c D b scr N xs) (hG : hw_G g b s s.heap) {j n : Nat} (hj : j + (n + 1) = 513) (hk18 : ∀ {l1 : Option Nat} {l2 : Option Nat} {l3 : Int32} {σ : hw_S} {H : Heap} {locs : List Loc} {ls : Array Slot}, k18 l1 l2 l3 σ = some (1, τ) → hw_R D b σ H → va_S (fun q => b ≤ q) s.heap H locs → hw_L ls 4 255 [(0, .ref scr), (1, hw_vr b l1), (2, hw_vr b l2), (3, .int l3)] → W p l e room_1 s m #[Value.ref scr] below meth c H locs (55 + (j + 1) * 4 + 0) (5876 + (j + 1) * 348 + 0) (lw_Z below #[Value.ref scr] s) (F0 m 18 ls [])) {l1 : Option Nat} {l2 : Option Nat} {l3 : Int32} {σ : hw_S} {H : Heap} {locs : List Loc} (hm : mL_b193 xs N k18 l1 l2 l3 σ = some (1, τ)) (hR : hw_R D b σ H) (hS : va_S (fun q => b ≤ q) s.heap H locs) {ls : Array Slot} (hl : hw_L ls 4 255 [(0, .ref scr), (1, hw_vr b l1), (2, hw_vr b l2), (3, .int l3)]) : W p l e room_1 s m #[Value.ref scr] below meth c H locs (55 + j * 4 + 0) (5876 + j * 348 + 0) (lw_Z below #[Value.ref scr] s) (F0 m 193 ls []) := by
  obtain ⟨hx, hb, hml, hr, hown, hts, hlk, hE, hbs, hsb, hX⟩ := id C0
  have hown : s.vm.findClass RL = some m.cls := hown
  have hK := hE.1
  have hsz : scr < s.heap.size := by omega
  unfold mL_b193 at hm
  refine hw_aload_n hx hb dL_law_193 rfl (hl.at 1 rfl) ?_
  refine lv_aload_n hx hb dL_law_194 rfl (hl.at 0 rfl) ?_
  refine lv_iload_n hx hb dL_law_195 rfl (hl.at 3 rfl) ?_
  refine lv_iconst (v := 1) hx hb dL_law_196 (by decide) ?_
  refine lv_iadd hx hb dL_law_197 ?_
  obtain ⟨v198, e198, hm⟩ := hw_bs hm
  refine hw_sxr hx hb hX hS hsb hsz e198 dL_law_198 ?_
  refine lv_aload_n hx hb dL_law_199 rfl (hl.at 0 rfl) ?_
  refine lv_iload_n hx hb dL_law_200 rfl (hl.at 3 rfl) ?_
  refine lv_iconst (v := 2) hx hb dL_law_201 (by decide) ?_
  refine lv_iadd hx hb dL_law_202 ?_
  obtain ⟨v203, e203, hm⟩ := hw_bs hm
  refine hw_sxr hx hb hX hS hsb hsz e203 dL_law_203 ?_
  obtain ⟨a204, g204, hm⟩ := hw_bs hm
  obtain ⟨h204, ht204⟩ := hw_rv_of g204
  rw [h204]
  obtain ⟨v204, e204, hm⟩ := hw_bs hm
  refine hw_cRI (va_runV (As := [.int v198, .int v203]) (rest := []) ⟨hx, hb, hml, hown, hts⟩ (c11_of l D b e204) (cwV 2 hts (hw_gV hw_m115 hw_m116 hw_m117 hw_m2 hw_m118) rfl rfl rfl (by decide +kernel) ⟨(Nat.le_of_ble_eq_true rfl), (Nat.le_of_ble_eq_true rfl)⟩) (hw_preV (ci := 11) hE hR rfl (by decide) (hw_q_of ht204)) rfl rfl hl.sz rfl (lv_room (Nat.le_of_ble_eq_true rfl)) dL_law_204 ⟨(by have h9 : room_1.cells = 600000 := rfl; have h8 : room_1.slots = 7302250 := rfl; omega), (by have h9 : room_1.cells = 600000 := rfl; have h8 : room_1.slots = 7302250 := rfl; omega)⟩) ?_
  refine hw_aload_n hx hb dL_law_207 rfl (hl.at 2 rfl) ?_
  refine lv_aload_n hx hb dL_law_208 rfl (hl.at 0 rfl) ?_
  refine lv_iload_n hx hb dL_law_209 rfl (hl.at 3 rfl) ?_
  refine lv_iconst (v := 1) hx hb dL_law_210 (by decide) ?_
  refine lv_iadd hx hb dL_law_211 ?_
  obtain ⟨v212, e212, hm⟩ := hw_bs hm
  refine hw_sxr hx hb hX hS hsb hsz e212 dL_law_212 ?_
  refine lv_aload_n hx hb dL_law_213 rfl (hl.at 0 rfl) ?_
  refine lv_iload_n hx hb dL_law_214 rfl (hl.at 3 rfl) ?_
  refine lv_iconst (v := 2) hx hb dL_law_215 (by decide) ?_
  refine lv_iadd hx hb dL_law_216 ?_
  obtain ⟨v217, e217, hm⟩ := hw_bs hm
  refine hw_sxr hx hb hX hS hsb hsz e217 dL_law_217 ?_
  obtain ⟨a218, g218, hm⟩ := hw_bs hm
  obtain ⟨h218, ht218⟩ := hw_rv_of g218
  rw [h218]
  obtain ⟨v218, e218, hm⟩ := hw_bs hm
  refine hw_cRI (va_runV (As := [.int v212, .int v217]) (rest := [.int v204]) ⟨hx, hb, hml, hown, hts⟩ (c12_of l D b e218) (cwV 2 hts (hw_gV hw_m125 hw_m126 hw_m127 hw_m5 hw_m128) rfl rfl rfl (by decide +kernel) ⟨(Nat.le_of_ble_eq_true rfl), (Nat.le_of_ble_eq_true rfl)⟩) (hw_preV (ci := 12) hE hR rfl (by decide) (hw_q_of ht218)) rfl rfl hl.sz rfl (lv_room (Nat.le_of_ble_eq_true rfl)) dL_law_218 ⟨(by have h9 : room_1.cells = 600000 := rfl; have h8 : room_1.slots = 7302250 := rfl; omega), (by have h9 : room_1.cells = 600000 := rfl; have h8 : room_1.slots = 7302250 := rfl; omega)⟩) ?_
  refine lv_icmp_eq (tgt := 1292) hx hb dL_law_221 (by decide) (fun c221 => ?_) (fun c221 => ?_)
  · have hm := hw_ip hm c221
    refine W.widen (k := 55 + j * 4 + 4) (n := 5876 + j * 348 + 348) (by omega) (by omega) ?_
    exact wL_b1292 C0 hG hj hk18 hm hR hS (hl.sub [0, 1, 2, 3] rfl)
  · have hm := hw_in hm c221
    refine lv_iconst (v := 0) hx hb dL_law_224 (by decide) ?_
    exact hw_lret hx hb hr hlk hS hbs (by omega) (by omega) hm dL_law_225
set_option maxRecDepth 100000 in
theorem wL_b226 {p : Program} {e : Env} {s : State} {m : MethodId} {below : List Frame} {meth : Method} {c : Code} {D : hw_D} {l : Launch} {b scr N : Nat} {xs : Nat → Int32} {g : hw_Sd} {k18 : Option Nat → Option Nat → Int32 → hw_S → Option (Int32 × hw_S)} {τ : hw_S} (C0 : hw_CL p s m meth c D b scr N xs) (hG : hw_G g b s s.heap) {j n : Nat} (hj : j + (n + 1) = 513) (hk18 : ∀ {l1 : Option Nat} {l2 : Option Nat} {l3 : Int32} {σ : hw_S} {H : Heap} {locs : List Loc} {ls : Array Slot}, k18 l1 l2 l3 σ = some (1, τ) → hw_R D b σ H → va_S (fun q => b ≤ q) s.heap H locs → hw_L ls 4 255 [(0, .ref scr), (1, hw_vr b l1), (2, hw_vr b l2), (3, .int l3)] → W p l e room_1 s m #[Value.ref scr] below meth c H locs (55 + (j + 1) * 4 + 0) (5876 + (j + 1) * 348 + 0) (lw_Z below #[Value.ref scr] s) (F0 m 18 ls [])) {l1 : Option Nat} {l2 : Option Nat} {l3 : Int32} {σ : hw_S} {H : Heap} {locs : List Loc} (hm : mL_b226 xs N k18 l1 l2 l3 σ = some (1, τ)) (hR : hw_R D b σ H) (hS : va_S (fun q => b ≤ q) s.heap H locs) {ls : Array Slot} (hl : hw_L ls 4 255 [(0, .ref scr), (1, hw_vr b l1), (2, hw_vr b l2), (3, .int l3)]) : W p l e room_1 s m #[Value.ref scr] below meth c H locs (55 + j * 4 + 0) (5876 + j * 348 + 0) (lw_Z below #[Value.ref scr] s) (F0 m 226 ls []) := by
  obtain ⟨hx, hb, hml, hr, hown, hts, hlk, hE, hbs, hsb, hX⟩ := id C0
  have hown : s.vm.findClass RL = some m.cls := hown
  have hK := hE.1
  have hsz : scr < s.heap.size := by omega
  unfold mL_b226 at hm
  refine hw_aload_n hx hb dL_law_226 rfl (hl.at 1 rfl) ?_
  refine lv_aload_n hx hb dL_law_227 rfl (hl.at 0 rfl) ?_
  refine lv_iload_n hx hb dL_law_228 rfl (hl.at 3 rfl) ?_
  refine lv_iconst (v := 1) hx hb dL_law_229 (by decide) ?_
  refine lv_iadd hx hb dL_law_230 ?_
  obtain ⟨v231, e231, hm⟩ := hw_bs hm
  refine hw_sxr hx hb hX hS hsb hsz e231 dL_law_231 ?_
  refine lv_i2l hx hb dL_law_232 rfl ?_
  refine lv_bipush (v := 32) hx hb dL_law_233 (by decide) ?_
  refine lv_lshl (v := ((Int32.toInt64 v231) <<< ((Int32.toInt64 (32 : Int32)) &&& 63))) hx hb dL_law_235 rfl ?_
  refine lv_aload_n hx hb dL_law_236 rfl (hl.at 0 rfl) ?_
  refine lv_iload_n hx hb dL_law_237 rfl (hl.at 3 rfl) ?_
  refine lv_iconst (v := 2) hx hb dL_law_238 (by decide) ?_
  refine lv_iadd hx hb dL_law_239 ?_
  obtain ⟨v240, e240, hm⟩ := hw_bs hm
  refine hw_sxr hx hb hX hS hsb hsz e240 dL_law_240 ?_
  refine lv_i2l hx hb dL_law_241 rfl ?_
  refine lv_ldc2 (v := 4294967295) hx hb hown (hts _ hw_m6) dL_law_242 ?_
  refine lv_land hx hb dL_law_245 ?_
  refine lv_lor hx hb dL_law_246 ?_
  refine lv_aload_n hx hb dL_law_247 rfl (hl.at 0 rfl) ?_
  refine lv_iload_n hx hb dL_law_248 rfl (hl.at 3 rfl) ?_
  refine lv_iconst (v := 3) hx hb dL_law_249 (by decide) ?_
  refine lv_iadd hx hb dL_law_250 ?_
  obtain ⟨v251, e251, hm⟩ := hw_bs hm
  refine hw_sxr hx hb hX hS hsb hsz e251 dL_law_251 ?_
  obtain ⟨a252, g252, hm⟩ := hw_bs hm
  obtain ⟨h252, ht252⟩ := hw_rv_of g252
  rw [h252]
  obtain ⟨v252, σ252, e252, hm⟩ := hw_bs2 hm
  refine hw_cWI (va_runV (As := [.long (((Int32.toInt64 v231) <<< ((Int32.toInt64 (32 : Int32)) &&& 63)) ||| ((Int32.toInt64 v240) &&& (4294967295 : Int64))), .int v251]) (rest := []) ⟨hx, hb, hml, hown, hts⟩ (c11_feed l D b e252) (cwV 2 hts (hw_gV hw_m133 hw_m134 hw_m135 hw_m2 hw_m136) rfl rfl rfl (by decide +kernel) ⟨(Nat.le_of_ble_eq_true rfl), (Nat.le_of_ble_eq_true rfl)⟩) (hw_preV (ci := 11) hE hR rfl (by decide) (hw_q_of ht252)) rfl rfl hl.sz rfl (lv_room (Nat.le_of_ble_eq_true rfl)) dL_law_252 ⟨(by have h9 : room_1.cells = 600000 := rfl; have h8 : room_1.slots = 7302250 := rfl; omega), (by have h9 : room_1.cells = 600000 := rfl; have h8 : room_1.slots = 7302250 := rfl; omega)⟩) hS (fun _ _ hR hS => ?_)
  refine hw_aload_n hx hb dL_law_255 rfl (hl.at 2 rfl) ?_
  refine lv_aload_n hx hb dL_law_256 rfl (hl.at 0 rfl) ?_
  refine lv_iload_n hx hb dL_law_257 rfl (hl.at 3 rfl) ?_
  refine lv_iconst (v := 1) hx hb dL_law_258 (by decide) ?_
  refine lv_iadd hx hb dL_law_259 ?_
  obtain ⟨v260, e260, hm⟩ := hw_bs hm
  refine hw_sxr hx hb hX hS hsb hsz e260 dL_law_260 ?_
  refine lv_i2l hx hb dL_law_261 rfl ?_
  refine lv_bipush (v := 32) hx hb dL_law_262 (by decide) ?_
  refine lv_lshl (v := ((Int32.toInt64 v260) <<< ((Int32.toInt64 (32 : Int32)) &&& 63))) hx hb dL_law_264 rfl ?_
  refine lv_aload_n hx hb dL_law_265 rfl (hl.at 0 rfl) ?_
  refine lv_iload_n hx hb dL_law_266 rfl (hl.at 3 rfl) ?_
  refine lv_iconst (v := 2) hx hb dL_law_267 (by decide) ?_
  refine lv_iadd hx hb dL_law_268 ?_
  obtain ⟨v269, e269, hm⟩ := hw_bs hm
  refine hw_sxr hx hb hX hS hsb hsz e269 dL_law_269 ?_
  refine lv_i2l hx hb dL_law_270 rfl ?_
  refine lv_ldc2 (v := 4294967295) hx hb hown (hts _ hw_m6) dL_law_271 ?_
  refine lv_land hx hb dL_law_274 ?_
  refine lv_lor hx hb dL_law_275 ?_
  refine lv_aload_n hx hb dL_law_276 rfl (hl.at 0 rfl) ?_
  refine lv_iload_n hx hb dL_law_277 rfl (hl.at 3 rfl) ?_
  refine lv_iconst (v := 3) hx hb dL_law_278 (by decide) ?_
  refine lv_iadd hx hb dL_law_279 ?_
  obtain ⟨v280, e280, hm⟩ := hw_bs hm
  refine hw_sxr hx hb hX hS hsb hsz e280 dL_law_280 ?_
  obtain ⟨a281, g281, hm⟩ := hw_bs hm
  obtain ⟨h281, ht281⟩ := hw_rv_of g281
  rw [h281]
  obtain ⟨v281, σ281, e281, hm⟩ := hw_bs2 hm
  refine hw_cWI (va_runV (As := [.long (((Int32.toInt64 v260) <<< ((Int32.toInt64 (32 : Int32)) &&& 63)) ||| ((Int32.toInt64 v269) &&& (4294967295 : Int64))), .int v280]) (rest := [.int v252]) ⟨hx, hb, hml, hown, hts⟩ (c12_feed l D b e281) (cwV 2 hts (hw_gV hw_m139 hw_m140 hw_m141 hw_m5 hw_m142) rfl rfl rfl (by decide +kernel) ⟨(Nat.le_of_ble_eq_true rfl), (Nat.le_of_ble_eq_true rfl)⟩) (hw_preV (ci := 12) hE hR rfl (by decide) (hw_q_of ht281)) rfl rfl hl.sz rfl (lv_room (Nat.le_of_ble_eq_true rfl)) dL_law_281 ⟨(by have h9 : room_1.cells = 600000 := rfl; have h8 : room_1.slots = 7302250 := rfl; omega), (by have h9 : room_1.cells = 600000 := rfl; have h8 : room_1.slots = 7302250 := rfl; omega)⟩) hS (fun _ _ hR hS => ?_)
  refine lv_icmp_eq (tgt := 1292) hx hb dL_law_284 (by decide) (fun c284 => ?_) (fun c284 => ?_)
  · have hm := hw_ip hm c284
    refine W.widen (k := 55 + j * 4 + 4) (n := 5876 + j * 348 + 348) (by omega) (by omega) ?_
    exact wL_b1292 C0 hG hj hk18 hm hR hS (hl.sub [0, 1, 2, 3] rfl)
  · have hm := hw_in hm c284
    refine lv_iconst (v := 0) hx hb dL_law_287 (by decide) ?_
    exact hw_lret hx hb hr hlk hS hbs (by omega) (by omega) hm dL_law_288
set_option maxRecDepth 100000 in
theorem wL_b289 {p : Program} {e : Env} {s : State} {m : MethodId} {below : List Frame} {meth : Method} {c : Code} {D : hw_D} {l : Launch} {b scr N : Nat} {xs : Nat → Int32} {g : hw_Sd} {k18 : Option Nat → Option Nat → Int32 → hw_S → Option (Int32 × hw_S)} {τ : hw_S} (C0 : hw_CL p s m meth c D b scr N xs) (hG : hw_G g b s s.heap) {j n : Nat} (hj : j + (n + 1) = 513) (hk18 : ∀ {l1 : Option Nat} {l2 : Option Nat} {l3 : Int32} {σ : hw_S} {H : Heap} {locs : List Loc} {ls : Array Slot}, k18 l1 l2 l3 σ = some (1, τ) → hw_R D b σ H → va_S (fun q => b ≤ q) s.heap H locs → hw_L ls 4 255 [(0, .ref scr), (1, hw_vr b l1), (2, hw_vr b l2), (3, .int l3)] → W p l e room_1 s m #[Value.ref scr] below meth c H locs (55 + (j + 1) * 4 + 0) (5876 + (j + 1) * 348 + 0) (lw_Z below #[Value.ref scr] s) (F0 m 18 ls [])) {l1 : Option Nat} {l2 : Option Nat} {l3 : Int32} {σ : hw_S} {H : Heap} {locs : List Loc} (hm : mL_b289 xs N k18 l1 l2 l3 σ = some (1, τ)) (hR : hw_R D b σ H) (hS : va_S (fun q => b ≤ q) s.heap H locs) {ls : Array Slot} (hl : hw_L ls 4 255 [(0, .ref scr), (1, hw_vr b l1), (2, hw_vr b l2), (3, .int l3)]) : W p l e room_1 s m #[Value.ref scr] below meth c H locs (55 + j * 4 + 0) (5876 + j * 348 + 0) (lw_Z below #[Value.ref scr] s) (F0 m 289 ls []) := by
  obtain ⟨hx, hb, hml, hr, hown, hts, hlk, hE, hbs, hsb, hX⟩ := id C0
  have hown : s.vm.findClass RL = some m.cls := hown
  have hK := hE.1
  have hsz : scr < s.heap.size := by omega
  unfold mL_b289 at hm
  refine hw_aload_n hx hb dL_law_289 rfl (hl.at 1 rfl) ?_
  refine lv_aload_n hx hb dL_law_290 rfl (hl.at 0 rfl) ?_
  refine lv_iload_n hx hb dL_law_291 rfl (hl.at 3 rfl) ?_
  refine lv_iconst (v := 1) hx hb dL_law_292 (by decide) ?_
  refine lv_iadd hx hb dL_law_293 ?_
  obtain ⟨v294, e294, hm⟩ := hw_bs hm
  refine hw_sxr hx hb hX hS hsb hsz e294 dL_law_294 ?_
  refine lv_aload_n hx hb dL_law_295 rfl (hl.at 0 rfl) ?_
  refine lv_iload_n hx hb dL_law_296 rfl (hl.at 3 rfl) ?_
  refine lv_iconst (v := 2) hx hb dL_law_297 (by decide) ?_
  refine lv_iadd hx hb dL_law_298 ?_
  obtain ⟨v299, e299, hm⟩ := hw_bs hm
  refine hw_sxr hx hb hX hS hsb hsz e299 dL_law_299 ?_
  obtain ⟨a300, g300, hm⟩ := hw_bs hm
  obtain ⟨h300, ht300⟩ := hw_rv_of g300
  rw [h300]
  obtain ⟨v300, σ300, e300, hm⟩ := hw_bs2 hm
  refine hw_cWI (va_runV (As := [.int v294, .int v299]) (rest := []) ⟨hx, hb, hml, hown, hts⟩ (c11_law l D g b e300) (cwV 2 hts (hw_gV hw_m144 hw_m145 hw_m146 hw_m2 hw_m147) rfl rfl rfl (by decide +kernel) ⟨(Nat.le_of_ble_eq_true rfl), (Nat.le_of_ble_eq_true rfl)⟩) (hw_preV2 (ci := 11) hE hR (hG.at hS) rfl (by decide) (hw_q_of ht300)) rfl rfl hl.sz rfl (lv_room (Nat.le_of_ble_eq_true rfl)) dL_law_300 ⟨(by have h9 : room_1.cells = 600000 := rfl; have h8 : room_1.slots = 7302250 := rfl; omega), (by have h9 : room_1.cells = 600000 := rfl; have h8 : room_1.slots = 7302250 := rfl; omega)⟩) hS (fun _ _ hR hS => ?_)
  refine hw_aload_n hx hb dL_law_303 rfl (hl.at 2 rfl) ?_
  refine lv_aload_n hx hb dL_law_304 rfl (hl.at 0 rfl) ?_
  refine lv_iload_n hx hb dL_law_305 rfl (hl.at 3 rfl) ?_
  refine lv_iconst (v := 1) hx hb dL_law_306 (by decide) ?_
  refine lv_iadd hx hb dL_law_307 ?_
  obtain ⟨v308, e308, hm⟩ := hw_bs hm
  refine hw_sxr hx hb hX hS hsb hsz e308 dL_law_308 ?_
  refine lv_aload_n hx hb dL_law_309 rfl (hl.at 0 rfl) ?_
  refine lv_iload_n hx hb dL_law_310 rfl (hl.at 3 rfl) ?_
  refine lv_iconst (v := 2) hx hb dL_law_311 (by decide) ?_
  refine lv_iadd hx hb dL_law_312 ?_
  obtain ⟨v313, e313, hm⟩ := hw_bs hm
  refine hw_sxr hx hb hX hS hsb hsz e313 dL_law_313 ?_
  obtain ⟨a314, g314, hm⟩ := hw_bs hm
  obtain ⟨h314, ht314⟩ := hw_rv_of g314
  rw [h314]
  obtain ⟨v314, σ314, e314, hm⟩ := hw_bs2 hm
  refine hw_cWI (va_runV (As := [.int v308, .int v313]) (rest := [.int v300]) ⟨hx, hb, hml, hown, hts⟩ (c12_law l D g b e314) (cwV 2 hts (hw_gV hw_m354 hw_m355 hw_m356 hw_m5 hw_m357) rfl rfl rfl (by decide +kernel) ⟨(Nat.le_of_ble_eq_true rfl), (Nat.le_of_ble_eq_true rfl)⟩) (hw_preV2 (ci := 12) hE hR (hG.at hS) rfl (by decide) (hw_q_of ht314)) rfl rfl hl.sz rfl (lv_room (Nat.le_of_ble_eq_true rfl)) dL_law_314 ⟨(by have h9 : room_1.cells = 600000 := rfl; have h8 : room_1.slots = 7302250 := rfl; omega), (by have h9 : room_1.cells = 600000 := rfl; have h8 : room_1.slots = 7302250 := rfl; omega)⟩) hS (fun _ _ hR hS => ?_)
  refine lv_icmp_eq (tgt := 1292) hx hb dL_law_317 (by decide) (fun c317 => ?_) (fun c317 => ?_)
  · have hm := hw_ip hm c317
    exact wL_b1292 C0 hG hj hk18 hm hR hS (hl.sub [0, 1, 2, 3] rfl)
  · have hm := hw_in hm c317
    refine lv_iconst (v := 0) hx hb dL_law_320 (by decide) ?_
    exact hw_lret hx hb hr hlk hS hbs (by omega) (by omega) hm dL_law_321
set_option maxRecDepth 100000 in
theorem wL_b322 {p : Program} {e : Env} {s : State} {m : MethodId} {below : List Frame} {meth : Method} {c : Code} {D : hw_D} {l : Launch} {b scr N : Nat} {xs : Nat → Int32} {g : hw_Sd} {k18 : Option Nat → Option Nat → Int32 → hw_S → Option (Int32 × hw_S)} {τ : hw_S} (C0 : hw_CL p s m meth c D b scr N xs) (hG : hw_G g b s s.heap) {j n : Nat} (hj : j + (n + 1) = 513) (hk18 : ∀ {l1 : Option Nat} {l2 : Option Nat} {l3 : Int32} {σ : hw_S} {H : Heap} {locs : List Loc} {ls : Array Slot}, k18 l1 l2 l3 σ = some (1, τ) → hw_R D b σ H → va_S (fun q => b ≤ q) s.heap H locs → hw_L ls 4 255 [(0, .ref scr), (1, hw_vr b l1), (2, hw_vr b l2), (3, .int l3)] → W p l e room_1 s m #[Value.ref scr] below meth c H locs (55 + (j + 1) * 4 + 0) (5876 + (j + 1) * 348 + 0) (lw_Z below #[Value.ref scr] s) (F0 m 18 ls [])) {l1 : Option Nat} {l2 : Option Nat} {l3 : Int32} {σ : hw_S} {H : Heap} {locs : List Loc} (hm : mL_b322 xs N k18 l1 l2 l3 σ = some (1, τ)) (hR : hw_R D b σ H) (hS : va_S (fun q => b ≤ q) s.heap H locs) {ls : Array Slot} (hl : hw_L ls 4 255 [(0, .ref scr), (1, hw_vr b l1), (2, hw_vr b l2), (3, .int l3)]) : W p l e room_1 s m #[Value.ref scr] below meth c H locs (55 + j * 4 + 0) (5876 + j * 348 + 0) (lw_Z below #[Value.ref scr] s) (F0 m 322 ls []) := by
  obtain ⟨hx, hb, hml, hr, hown, hts, hlk, hE, hbs, hsb, hX⟩ := id C0
  have hown : s.vm.findClass RL = some m.cls := hown
  have hK := hE.1
  have hsz : scr < s.heap.size := by omega
  unfold mL_b322 at hm
  refine hw_aload_n hx hb dL_law_322 rfl (hl.at 1 rfl) ?_
  refine lv_aload_n hx hb dL_law_323 rfl (hl.at 0 rfl) ?_
  refine lv_iload_n hx hb dL_law_324 rfl (hl.at 3 rfl) ?_
  refine lv_iconst (v := 1) hx hb dL_law_325 (by decide) ?_
  refine lv_iadd hx hb dL_law_326 ?_
  obtain ⟨v327, e327, hm⟩ := hw_bs hm
  refine hw_sxr hx hb hX hS hsb hsz e327 dL_law_327 ?_
  refine lv_aload_n hx hb dL_law_328 rfl (hl.at 0 rfl) ?_
  refine lv_iload_n hx hb dL_law_329 rfl (hl.at 3 rfl) ?_
  refine lv_iconst (v := 2) hx hb dL_law_330 (by decide) ?_
  refine lv_iadd hx hb dL_law_331 ?_
  obtain ⟨v332, e332, hm⟩ := hw_bs hm
  refine hw_sxr hx hb hX hS hsb hsz e332 dL_law_332 ?_
  obtain ⟨a333, g333, hm⟩ := hw_bs hm
  obtain ⟨h333, ht333⟩ := hw_rv_of g333
  rw [h333]
  obtain ⟨v333, e333, hm⟩ := hw_bs hm
  refine hw_cRI (va_runV (As := [.int v327, .int v332]) (rest := []) ⟨hx, hb, hml, hown, hts⟩ (c11_told l D b e333) (cwV 2 hts (hw_gV hw_m417 hw_m418 hw_m419 hw_m2 hw_m420) rfl rfl rfl (by decide +kernel) ⟨(Nat.le_of_ble_eq_true rfl), (Nat.le_of_ble_eq_true rfl)⟩) (hw_preV (ci := 11) hE hR rfl (by decide) (hw_q_of ht333)) rfl rfl hl.sz rfl (lv_room (Nat.le_of_ble_eq_true rfl)) dL_law_333 ⟨(by have h9 : room_1.cells = 600000 := rfl; have h8 : room_1.slots = 7302250 := rfl; omega), (by have h9 : room_1.cells = 600000 := rfl; have h8 : room_1.slots = 7302250 := rfl; omega)⟩) ?_
  refine hw_aload_n hx hb dL_law_336 rfl (hl.at 2 rfl) ?_
  refine lv_aload_n hx hb dL_law_337 rfl (hl.at 0 rfl) ?_
  refine lv_iload_n hx hb dL_law_338 rfl (hl.at 3 rfl) ?_
  refine lv_iconst (v := 1) hx hb dL_law_339 (by decide) ?_
  refine lv_iadd hx hb dL_law_340 ?_
  obtain ⟨v341, e341, hm⟩ := hw_bs hm
  refine hw_sxr hx hb hX hS hsb hsz e341 dL_law_341 ?_
  refine lv_aload_n hx hb dL_law_342 rfl (hl.at 0 rfl) ?_
  refine lv_iload_n hx hb dL_law_343 rfl (hl.at 3 rfl) ?_
  refine lv_iconst (v := 2) hx hb dL_law_344 (by decide) ?_
  refine lv_iadd hx hb dL_law_345 ?_
  obtain ⟨v346, e346, hm⟩ := hw_bs hm
  refine hw_sxr hx hb hX hS hsb hsz e346 dL_law_346 ?_
  obtain ⟨a347, g347, hm⟩ := hw_bs hm
  obtain ⟨h347, ht347⟩ := hw_rv_of g347
  rw [h347]
  obtain ⟨v347, e347, hm⟩ := hw_bs hm
  refine hw_cRI (va_runV (As := [.int v341, .int v346]) (rest := [.int v333]) ⟨hx, hb, hml, hown, hts⟩ (c12_told l D b e347) (cwV 2 hts (hw_gV hw_m430 hw_m431 hw_m432 hw_m5 hw_m433) rfl rfl rfl (by decide +kernel) ⟨(Nat.le_of_ble_eq_true rfl), (Nat.le_of_ble_eq_true rfl)⟩) (hw_preV (ci := 12) hE hR rfl (by decide) (hw_q_of ht347)) rfl rfl hl.sz rfl (lv_room (Nat.le_of_ble_eq_true rfl)) dL_law_347 ⟨(by have h9 : room_1.cells = 600000 := rfl; have h8 : room_1.slots = 7302250 := rfl; omega), (by have h9 : room_1.cells = 600000 := rfl; have h8 : room_1.slots = 7302250 := rfl; omega)⟩) ?_
  refine lv_icmp_eq (tgt := 1292) hx hb dL_law_350 (by decide) (fun c350 => ?_) (fun c350 => ?_)
  · have hm := hw_ip hm c350
    refine W.widen (k := 55 + j * 4 + 4) (n := 5876 + j * 348 + 348) (by omega) (by omega) ?_
    exact wL_b1292 C0 hG hj hk18 hm hR hS (hl.sub [0, 1, 2, 3] rfl)
  · have hm := hw_in hm c350
    refine lv_iconst (v := 0) hx hb dL_law_353 (by decide) ?_
    exact hw_lret hx hb hr hlk hS hbs (by omega) (by omega) hm dL_law_354
set_option maxRecDepth 100000 in
theorem wL_b355 {p : Program} {e : Env} {s : State} {m : MethodId} {below : List Frame} {meth : Method} {c : Code} {D : hw_D} {l : Launch} {b scr N : Nat} {xs : Nat → Int32} {g : hw_Sd} {k18 : Option Nat → Option Nat → Int32 → hw_S → Option (Int32 × hw_S)} {τ : hw_S} (C0 : hw_CL p s m meth c D b scr N xs) (hG : hw_G g b s s.heap) {j n : Nat} (hj : j + (n + 1) = 513) (hk18 : ∀ {l1 : Option Nat} {l2 : Option Nat} {l3 : Int32} {σ : hw_S} {H : Heap} {locs : List Loc} {ls : Array Slot}, k18 l1 l2 l3 σ = some (1, τ) → hw_R D b σ H → va_S (fun q => b ≤ q) s.heap H locs → hw_L ls 4 255 [(0, .ref scr), (1, hw_vr b l1), (2, hw_vr b l2), (3, .int l3)] → W p l e room_1 s m #[Value.ref scr] below meth c H locs (55 + (j + 1) * 4 + 0) (5876 + (j + 1) * 348 + 0) (lw_Z below #[Value.ref scr] s) (F0 m 18 ls [])) {l1 : Option Nat} {l2 : Option Nat} {l3 : Int32} {σ : hw_S} {H : Heap} {locs : List Loc} (hm : mL_b355 xs N k18 l1 l2 l3 σ = some (1, τ)) (hR : hw_R D b σ H) (hS : va_S (fun q => b ≤ q) s.heap H locs) {ls : Array Slot} (hl : hw_L ls 4 255 [(0, .ref scr), (1, hw_vr b l1), (2, hw_vr b l2), (3, .int l3)]) : W p l e room_1 s m #[Value.ref scr] below meth c H locs (55 + j * 4 + 0) (5876 + j * 348 + 0) (lw_Z below #[Value.ref scr] s) (F0 m 355 ls []) := by
  obtain ⟨hx, hb, hml, hr, hown, hts, hlk, hE, hbs, hsb, hX⟩ := id C0
  have hown : s.vm.findClass RL = some m.cls := hown
  have hK := hE.1
  have hsz : scr < s.heap.size := by omega
  unfold mL_b355 at hm
  refine hw_aload_n hx hb dL_law_355 rfl (hl.at 1 rfl) ?_
  refine lv_aload_n hx hb dL_law_356 rfl (hl.at 0 rfl) ?_
  refine lv_iload_n hx hb dL_law_357 rfl (hl.at 3 rfl) ?_
  refine lv_iconst (v := 1) hx hb dL_law_358 (by decide) ?_
  refine lv_iadd hx hb dL_law_359 ?_
  obtain ⟨v360, e360, hm⟩ := hw_bs hm
  refine hw_sxr hx hb hX hS hsb hsz e360 dL_law_360 ?_
  refine lv_aload_n hx hb dL_law_361 rfl (hl.at 0 rfl) ?_
  refine lv_iload_n hx hb dL_law_362 rfl (hl.at 3 rfl) ?_
  refine lv_iconst (v := 2) hx hb dL_law_363 (by decide) ?_
  refine lv_iadd hx hb dL_law_364 ?_
  obtain ⟨v365, e365, hm⟩ := hw_bs hm
  refine hw_sxr hx hb hX hS hsb hsz e365 dL_law_365 ?_
  refine lv_aload_n hx hb dL_law_366 rfl (hl.at 0 rfl) ?_
  refine lv_iload_n hx hb dL_law_367 rfl (hl.at 3 rfl) ?_
  refine lv_iconst (v := 3) hx hb dL_law_368 (by decide) ?_
  refine lv_iadd hx hb dL_law_369 ?_
  obtain ⟨v370, e370, hm⟩ := hw_bs hm
  refine hw_sxr hx hb hX hS hsb hsz e370 dL_law_370 ?_
  refine lv_aload_n hx hb dL_law_371 rfl (hl.at 0 rfl) ?_
  refine lv_iload_n hx hb dL_law_372 rfl (hl.at 3 rfl) ?_
  refine lv_iconst (v := 4) hx hb dL_law_373 (by decide) ?_
  refine lv_iadd hx hb dL_law_374 ?_
  obtain ⟨v375, e375, hm⟩ := hw_bs hm
  refine hw_sxr hx hb hX hS hsb hsz e375 dL_law_375 ?_
  obtain ⟨a376, g376, hm⟩ := hw_bs hm
  obtain ⟨h376, ht376⟩ := hw_rv_of g376
  rw [h376]
  obtain ⟨v376, e376, hm⟩ := hw_bs hm
  refine hw_cRI (va_runV (As := [.int v360, .int v365, .int v370, .int v375]) (rest := []) ⟨hx, hb, hml, hown, hts⟩ (c11_winds l D b e376) (cwV 4 hts (hw_gV hw_m438 hw_m439 hw_m440 hw_m2 hw_m441) rfl rfl rfl (by decide +kernel) ⟨(Nat.le_of_ble_eq_true rfl), (Nat.le_of_ble_eq_true rfl)⟩) (hw_preV (ci := 11) hE hR rfl (by decide) (hw_q_of ht376)) rfl rfl hl.sz rfl (lv_room (Nat.le_of_ble_eq_true rfl)) dL_law_376 ⟨(by have h9 : room_1.cells = 600000 := rfl; have h8 : room_1.slots = 7302250 := rfl; omega), (by have h9 : room_1.cells = 600000 := rfl; have h8 : room_1.slots = 7302250 := rfl; omega)⟩) ?_
  refine hw_aload_n hx hb dL_law_379 rfl (hl.at 2 rfl) ?_
  refine lv_aload_n hx hb dL_law_380 rfl (hl.at 0 rfl) ?_
  refine lv_iload_n hx hb dL_law_381 rfl (hl.at 3 rfl) ?_
  refine lv_iconst (v := 1) hx hb dL_law_382 (by decide) ?_
  refine lv_iadd hx hb dL_law_383 ?_
  obtain ⟨v384, e384, hm⟩ := hw_bs hm
  refine hw_sxr hx hb hX hS hsb hsz e384 dL_law_384 ?_
  refine lv_aload_n hx hb dL_law_385 rfl (hl.at 0 rfl) ?_
  refine lv_iload_n hx hb dL_law_386 rfl (hl.at 3 rfl) ?_
  refine lv_iconst (v := 2) hx hb dL_law_387 (by decide) ?_
  refine lv_iadd hx hb dL_law_388 ?_
  obtain ⟨v389, e389, hm⟩ := hw_bs hm
  refine hw_sxr hx hb hX hS hsb hsz e389 dL_law_389 ?_
  refine lv_aload_n hx hb dL_law_390 rfl (hl.at 0 rfl) ?_
  refine lv_iload_n hx hb dL_law_391 rfl (hl.at 3 rfl) ?_
  refine lv_iconst (v := 3) hx hb dL_law_392 (by decide) ?_
  refine lv_iadd hx hb dL_law_393 ?_
  obtain ⟨v394, e394, hm⟩ := hw_bs hm
  refine hw_sxr hx hb hX hS hsb hsz e394 dL_law_394 ?_
  refine lv_aload_n hx hb dL_law_395 rfl (hl.at 0 rfl) ?_
  refine lv_iload_n hx hb dL_law_396 rfl (hl.at 3 rfl) ?_
  refine lv_iconst (v := 4) hx hb dL_law_397 (by decide) ?_
  refine lv_iadd hx hb dL_law_398 ?_
  obtain ⟨v399, e399, hm⟩ := hw_bs hm
  refine hw_sxr hx hb hX hS hsb hsz e399 dL_law_399 ?_
  obtain ⟨a400, g400, hm⟩ := hw_bs hm
  obtain ⟨h400, ht400⟩ := hw_rv_of g400
  rw [h400]
  obtain ⟨v400, σ400, e400, hm⟩ := hw_bs2 hm
  refine hw_cWI (va_runV (As := [.int v384, .int v389, .int v394, .int v399]) (rest := [.int v376]) ⟨hx, hb, hml, hown, hts⟩ (c12_winds l D b e400) (cwV 4 hts (hw_gV hw_m568 hw_m569 hw_m570 hw_m5 hw_m571) rfl rfl rfl (by decide +kernel) ⟨(Nat.le_of_ble_eq_true rfl), (Nat.le_of_ble_eq_true rfl)⟩) (hw_preV (ci := 12) hE hR rfl (by decide) (hw_q_of ht400)) rfl rfl hl.sz rfl (lv_room (Nat.le_of_ble_eq_true rfl)) dL_law_400 ⟨(by have h9 : room_1.cells = 600000 := rfl; have h8 : room_1.slots = 7302250 := rfl; omega), (by have h9 : room_1.cells = 600000 := rfl; have h8 : room_1.slots = 7302250 := rfl; omega)⟩) hS (fun _ _ hR hS => ?_)
  refine lv_icmp_eq (tgt := 1292) hx hb dL_law_403 (by decide) (fun c403 => ?_) (fun c403 => ?_)
  · have hm := hw_ip hm c403
    refine W.widen (k := 55 + j * 4 + 4) (n := 5876 + j * 348 + 348) (by omega) (by omega) ?_
    exact wL_b1292 C0 hG hj hk18 hm hR hS (hl.sub [0, 1, 2, 3] rfl)
  · have hm := hw_in hm c403
    refine lv_iconst (v := 0) hx hb dL_law_406 (by decide) ?_
    exact hw_lret hx hb hr hlk hS hbs (by omega) (by omega) hm dL_law_407
set_option maxRecDepth 100000 in
theorem wL_b408 {p : Program} {e : Env} {s : State} {m : MethodId} {below : List Frame} {meth : Method} {c : Code} {D : hw_D} {l : Launch} {b scr N : Nat} {xs : Nat → Int32} {g : hw_Sd} {k18 : Option Nat → Option Nat → Int32 → hw_S → Option (Int32 × hw_S)} {τ : hw_S} (C0 : hw_CL p s m meth c D b scr N xs) (hG : hw_G g b s s.heap) {j n : Nat} (hj : j + (n + 1) = 513) (hk18 : ∀ {l1 : Option Nat} {l2 : Option Nat} {l3 : Int32} {σ : hw_S} {H : Heap} {locs : List Loc} {ls : Array Slot}, k18 l1 l2 l3 σ = some (1, τ) → hw_R D b σ H → va_S (fun q => b ≤ q) s.heap H locs → hw_L ls 4 255 [(0, .ref scr), (1, hw_vr b l1), (2, hw_vr b l2), (3, .int l3)] → W p l e room_1 s m #[Value.ref scr] below meth c H locs (55 + (j + 1) * 4 + 0) (5876 + (j + 1) * 348 + 0) (lw_Z below #[Value.ref scr] s) (F0 m 18 ls [])) {l1 : Option Nat} {l2 : Option Nat} {l3 : Int32} {σ : hw_S} {H : Heap} {locs : List Loc} (hm : mL_b408 xs N k18 l1 l2 l3 σ = some (1, τ)) (hR : hw_R D b σ H) (hS : va_S (fun q => b ≤ q) s.heap H locs) {ls : Array Slot} (hl : hw_L ls 4 255 [(0, .ref scr), (1, hw_vr b l1), (2, hw_vr b l2), (3, .int l3)]) : W p l e room_1 s m #[Value.ref scr] below meth c H locs (55 + j * 4 + 0) (5876 + j * 348 + 0) (lw_Z below #[Value.ref scr] s) (F0 m 408 ls []) := by
  obtain ⟨hx, hb, hml, hr, hown, hts, hlk, hE, hbs, hsb, hX⟩ := id C0
  have hown : s.vm.findClass RL = some m.cls := hown
  have hK := hE.1
  have hsz : scr < s.heap.size := by omega
  unfold mL_b408 at hm
  refine hw_aload_n hx hb dL_law_408 rfl (hl.at 1 rfl) ?_
  refine lv_aload_n hx hb dL_law_409 rfl (hl.at 0 rfl) ?_
  refine lv_iload_n hx hb dL_law_410 rfl (hl.at 3 rfl) ?_
  refine lv_iconst (v := 1) hx hb dL_law_411 (by decide) ?_
  refine lv_iadd hx hb dL_law_412 ?_
  obtain ⟨v413, e413, hm⟩ := hw_bs hm
  refine hw_sxr hx hb hX hS hsb hsz e413 dL_law_413 ?_
  obtain ⟨a414, g414, hm⟩ := hw_bs hm
  obtain ⟨h414, ht414⟩ := hw_rv_of g414
  rw [h414]
  obtain ⟨v414, σ414, e414, hm⟩ := hw_bs2 hm
  refine hw_cWI (va_runV (As := [.int v413]) (rest := []) ⟨hx, hb, hml, hown, hts⟩ (c11_tick l D b e414) (cwV 1 hts (hw_gV hw_m600 hw_m601 hw_m602 hw_m2 hw_m603) rfl rfl rfl (by decide +kernel) ⟨(Nat.le_of_ble_eq_true rfl), (Nat.le_of_ble_eq_true rfl)⟩) (hw_preV (ci := 11) hE hR rfl (by decide) (hw_q_of ht414)) rfl rfl hl.sz rfl (lv_room (Nat.le_of_ble_eq_true rfl)) dL_law_414 ⟨(by have h9 : room_1.cells = 600000 := rfl; have h8 : room_1.slots = 7302250 := rfl; omega), (by have h9 : room_1.cells = 600000 := rfl; have h8 : room_1.slots = 7302250 := rfl; omega)⟩) hS (fun _ _ hR hS => ?_)
  refine hw_aload_n hx hb dL_law_417 rfl (hl.at 2 rfl) ?_
  refine lv_aload_n hx hb dL_law_418 rfl (hl.at 0 rfl) ?_
  refine lv_iload_n hx hb dL_law_419 rfl (hl.at 3 rfl) ?_
  refine lv_iconst (v := 1) hx hb dL_law_420 (by decide) ?_
  refine lv_iadd hx hb dL_law_421 ?_
  obtain ⟨v422, e422, hm⟩ := hw_bs hm
  refine hw_sxr hx hb hX hS hsb hsz e422 dL_law_422 ?_
  obtain ⟨a423, g423, hm⟩ := hw_bs hm
  obtain ⟨h423, ht423⟩ := hw_rv_of g423
  rw [h423]
  obtain ⟨v423, σ423, e423, hm⟩ := hw_bs2 hm
  refine hw_cWI (va_runV (As := [.int v422]) (rest := [.int v414]) ⟨hx, hb, hml, hown, hts⟩ (c12_tick l D b e423) (cwV 1 hts (hw_gV hw_m606 hw_m607 hw_m608 hw_m5 hw_m609) rfl rfl rfl (by decide +kernel) ⟨(Nat.le_of_ble_eq_true rfl), (Nat.le_of_ble_eq_true rfl)⟩) (hw_preV (ci := 12) hE hR rfl (by decide) (hw_q_of ht423)) rfl rfl hl.sz rfl (lv_room (Nat.le_of_ble_eq_true rfl)) dL_law_423 ⟨(by have h9 : room_1.cells = 600000 := rfl; have h8 : room_1.slots = 7302250 := rfl; omega), (by have h9 : room_1.cells = 600000 := rfl; have h8 : room_1.slots = 7302250 := rfl; omega)⟩) hS (fun _ _ hR hS => ?_)
  refine lv_icmp_eq (tgt := 1292) hx hb dL_law_426 (by decide) (fun c426 => ?_) (fun c426 => ?_)
  · have hm := hw_ip hm c426
    refine W.widen (k := 55 + j * 4 + 4) (n := 5876 + j * 348 + 348) (by omega) (by omega) ?_
    exact wL_b1292 C0 hG hj hk18 hm hR hS (hl.sub [0, 1, 2, 3] rfl)
  · have hm := hw_in hm c426
    refine lv_iconst (v := 0) hx hb dL_law_429 (by decide) ?_
    exact hw_lret hx hb hr hlk hS hbs (by omega) (by omega) hm dL_law_430
set_option maxRecDepth 100000 in
theorem wL_b431 {p : Program} {e : Env} {s : State} {m : MethodId} {below : List Frame} {meth : Method} {c : Code} {D : hw_D} {l : Launch} {b scr N : Nat} {xs : Nat → Int32} {g : hw_Sd} {k18 : Option Nat → Option Nat → Int32 → hw_S → Option (Int32 × hw_S)} {τ : hw_S} (C0 : hw_CL p s m meth c D b scr N xs) (hG : hw_G g b s s.heap) {j n : Nat} (hj : j + (n + 1) = 513) (hk18 : ∀ {l1 : Option Nat} {l2 : Option Nat} {l3 : Int32} {σ : hw_S} {H : Heap} {locs : List Loc} {ls : Array Slot}, k18 l1 l2 l3 σ = some (1, τ) → hw_R D b σ H → va_S (fun q => b ≤ q) s.heap H locs → hw_L ls 4 255 [(0, .ref scr), (1, hw_vr b l1), (2, hw_vr b l2), (3, .int l3)] → W p l e room_1 s m #[Value.ref scr] below meth c H locs (55 + (j + 1) * 4 + 0) (5876 + (j + 1) * 348 + 0) (lw_Z below #[Value.ref scr] s) (F0 m 18 ls [])) {l1 : Option Nat} {l2 : Option Nat} {l3 : Int32} {σ : hw_S} {H : Heap} {locs : List Loc} (hm : mL_b431 xs N k18 l1 l2 l3 σ = some (1, τ)) (hR : hw_R D b σ H) (hS : va_S (fun q => b ≤ q) s.heap H locs) {ls : Array Slot} (hl : hw_L ls 4 255 [(0, .ref scr), (1, hw_vr b l1), (2, hw_vr b l2), (3, .int l3)]) : W p l e room_1 s m #[Value.ref scr] below meth c H locs (55 + j * 4 + 0) (5876 + j * 348 + 0) (lw_Z below #[Value.ref scr] s) (F0 m 431 ls []) := by
  obtain ⟨hx, hb, hml, hr, hown, hts, hlk, hE, hbs, hsb, hX⟩ := id C0
  have hown : s.vm.findClass RL = some m.cls := hown
  have hK := hE.1
  have hsz : scr < s.heap.size := by omega
  unfold mL_b431 at hm
  refine hw_aload_n hx hb dL_law_431 rfl (hl.at 1 rfl) ?_
  refine lv_aload_n hx hb dL_law_432 rfl (hl.at 0 rfl) ?_
  refine lv_iload_n hx hb dL_law_433 rfl (hl.at 3 rfl) ?_
  refine lv_iconst (v := 1) hx hb dL_law_434 (by decide) ?_
  refine lv_iadd hx hb dL_law_435 ?_
  obtain ⟨v436, e436, hm⟩ := hw_bs hm
  refine hw_sxr hx hb hX hS hsb hsz e436 dL_law_436 ?_
  refine lv_aload_n hx hb dL_law_437 rfl (hl.at 0 rfl) ?_
  refine lv_iload_n hx hb dL_law_438 rfl (hl.at 3 rfl) ?_
  refine lv_iconst (v := 2) hx hb dL_law_439 (by decide) ?_
  refine lv_iadd hx hb dL_law_440 ?_
  obtain ⟨v441, e441, hm⟩ := hw_bs hm
  refine hw_sxr hx hb hX hS hsb hsz e441 dL_law_441 ?_
  refine lv_aload_n hx hb dL_law_442 rfl (hl.at 0 rfl) ?_
  refine lv_iload_n hx hb dL_law_443 rfl (hl.at 3 rfl) ?_
  refine lv_iconst (v := 3) hx hb dL_law_444 (by decide) ?_
  refine lv_iadd hx hb dL_law_445 ?_
  obtain ⟨v446, e446, hm⟩ := hw_bs hm
  refine hw_sxr hx hb hX hS hsb hsz e446 dL_law_446 ?_
  obtain ⟨a447, g447, hm⟩ := hw_bs hm
  obtain ⟨h447, ht447⟩ := hw_rv_of g447
  rw [h447]
  obtain ⟨v447, σ447, e447, hm⟩ := hw_bs2 hm
  refine hw_cWI (va_runV (As := [.int v436, .int v441, .int v446]) (rest := []) ⟨hx, hb, hml, hown, hts⟩ (c11_run l D b e447) (cwV 3 hts (hw_gV hw_m610 hw_m611 hw_m612 hw_m2 hw_m613) rfl rfl rfl (by decide +kernel) ⟨(Nat.le_of_ble_eq_true rfl), (Nat.le_of_ble_eq_true rfl)⟩) (hw_preV (ci := 11) hE hR rfl (by decide) (hw_q_of ht447)) rfl rfl hl.sz rfl (lv_room (Nat.le_of_ble_eq_true rfl)) dL_law_447 ⟨(by have h9 : room_1.cells = 600000 := rfl; have h8 : room_1.slots = 7302250 := rfl; omega), (by have h9 : room_1.cells = 600000 := rfl; have h8 : room_1.slots = 7302250 := rfl; omega)⟩) hS (fun _ _ hR hS => ?_)
  refine hw_aload_n hx hb dL_law_450 rfl (hl.at 2 rfl) ?_
  refine lv_aload_n hx hb dL_law_451 rfl (hl.at 0 rfl) ?_
  refine lv_iload_n hx hb dL_law_452 rfl (hl.at 3 rfl) ?_
  refine lv_iconst (v := 1) hx hb dL_law_453 (by decide) ?_
  refine lv_iadd hx hb dL_law_454 ?_
  obtain ⟨v455, e455, hm⟩ := hw_bs hm
  refine hw_sxr hx hb hX hS hsb hsz e455 dL_law_455 ?_
  refine lv_aload_n hx hb dL_law_456 rfl (hl.at 0 rfl) ?_
  refine lv_iload_n hx hb dL_law_457 rfl (hl.at 3 rfl) ?_
  refine lv_iconst (v := 2) hx hb dL_law_458 (by decide) ?_
  refine lv_iadd hx hb dL_law_459 ?_
  obtain ⟨v460, e460, hm⟩ := hw_bs hm
  refine hw_sxr hx hb hX hS hsb hsz e460 dL_law_460 ?_
  refine lv_aload_n hx hb dL_law_461 rfl (hl.at 0 rfl) ?_
  refine lv_iload_n hx hb dL_law_462 rfl (hl.at 3 rfl) ?_
  refine lv_iconst (v := 3) hx hb dL_law_463 (by decide) ?_
  refine lv_iadd hx hb dL_law_464 ?_
  obtain ⟨v465, e465, hm⟩ := hw_bs hm
  refine hw_sxr hx hb hX hS hsb hsz e465 dL_law_465 ?_
  obtain ⟨a466, g466, hm⟩ := hw_bs hm
  obtain ⟨h466, ht466⟩ := hw_rv_of g466
  rw [h466]
  obtain ⟨v466, σ466, e466, hm⟩ := hw_bs2 hm
  refine hw_cWI (va_runV (As := [.int v455, .int v460, .int v465]) (rest := [.int v447]) ⟨hx, hb, hml, hown, hts⟩ (c12_run l D b e466) (cwV 3 hts (hw_gV hw_m666 hw_m667 hw_m668 hw_m5 hw_m669) rfl rfl rfl (by decide +kernel) ⟨(Nat.le_of_ble_eq_true rfl), (Nat.le_of_ble_eq_true rfl)⟩) (hw_preV (ci := 12) hE hR rfl (by decide) (hw_q_of ht466)) rfl rfl hl.sz rfl (lv_room (Nat.le_of_ble_eq_true rfl)) dL_law_466 ⟨(by have h9 : room_1.cells = 600000 := rfl; have h8 : room_1.slots = 7302250 := rfl; omega), (by have h9 : room_1.cells = 600000 := rfl; have h8 : room_1.slots = 7302250 := rfl; omega)⟩) hS (fun _ _ hR hS => ?_)
  refine lv_icmp_eq (tgt := 1292) hx hb dL_law_469 (by decide) (fun c469 => ?_) (fun c469 => ?_)
  · have hm := hw_ip hm c469
    refine W.widen (k := 55 + j * 4 + 4) (n := 5876 + j * 348 + 348) (by omega) (by omega) ?_
    exact wL_b1292 C0 hG hj hk18 hm hR hS (hl.sub [0, 1, 2, 3] rfl)
  · have hm := hw_in hm c469
    refine lv_iconst (v := 0) hx hb dL_law_472 (by decide) ?_
    exact hw_lret hx hb hr hlk hS hbs (by omega) (by omega) hm dL_law_473
set_option maxRecDepth 100000 in
theorem wL_b545 {p : Program} {e : Env} {s : State} {m : MethodId} {below : List Frame} {meth : Method} {c : Code} {D : hw_D} {l : Launch} {b scr N : Nat} {xs : Nat → Int32} {g : hw_Sd} {k18 : Option Nat → Option Nat → Int32 → hw_S → Option (Int32 × hw_S)} {τ : hw_S} (C0 : hw_CL p s m meth c D b scr N xs) (hG : hw_G g b s s.heap) {j n : Nat} (hj : j + (n + 1) = 513) (hk18 : ∀ {l1 : Option Nat} {l2 : Option Nat} {l3 : Int32} {σ : hw_S} {H : Heap} {locs : List Loc} {ls : Array Slot}, k18 l1 l2 l3 σ = some (1, τ) → hw_R D b σ H → va_S (fun q => b ≤ q) s.heap H locs → hw_L ls 4 255 [(0, .ref scr), (1, hw_vr b l1), (2, hw_vr b l2), (3, .int l3)] → W p l e room_1 s m #[Value.ref scr] below meth c H locs (55 + (j + 1) * 4 + 0) (5876 + (j + 1) * 348 + 0) (lw_Z below #[Value.ref scr] s) (F0 m 18 ls [])) {l1 : Option Nat} {l2 : Option Nat} {l3 : Int32} {t0 : Int32} {t1 : Option Nat} {t2 : Int32} {t3 : Int32} {t4 : Int32} {t5 : Int32} {t6 : Int32} {σ : hw_S} {H : Heap} {locs : List Loc} (hm : mL_b545 xs N k18 l1 l2 l3 t0 t1 t2 t3 t4 t5 t6 σ = some (1, τ)) (hR : hw_R D b σ H) (hS : va_S (fun q => b ≤ q) s.heap H locs) {ls : Array Slot} (hl : hw_L ls 4 255 [(0, .ref scr), (1, hw_vr b l1), (2, hw_vr b l2), (3, .int l3)]) : W p l e room_1 s m #[Value.ref scr] below meth c H locs (55 + j * 4 + 0) (5876 + j * 348 + 0) (lw_Z below #[Value.ref scr] s) (F0 m 545 ls [.int t6, .int t5, .int t4, .int t3, .int t2, hw_vr b t1, .int t0]) := by
  obtain ⟨hx, hb, hml, hr, hown, hts, hlk, hE, hbs, hsb, hX⟩ := id C0
  have hown : s.vm.findClass RL = some m.cls := hown
  have hK := hE.1
  have hsz : scr < s.heap.size := by omega
  unfold mL_b545 at hm
  obtain ⟨a545, g545, hm⟩ := hw_bs hm
  obtain ⟨h545, ht545⟩ := hw_rv_of g545
  rw [h545]
  obtain ⟨v545, σ545, e545, hm⟩ := hw_bs2 hm
  refine hw_cWI (va_runV (As := [.int t2, .int t3, .int t4, .int t5, .int t6]) (rest := [.int t0]) ⟨hx, hb, hml, hown, hts⟩ (c12_curve l D b e545) (cwV 5 hts (hw_gV hw_m695 hw_m696 hw_m697 hw_m5 hw_m698) rfl rfl rfl (by decide +kernel) ⟨(Nat.le_of_ble_eq_true rfl), (Nat.le_of_ble_eq_true rfl)⟩) (hw_preV (ci := 12) hE hR rfl (by decide) (hw_q_of ht545)) rfl rfl hl.sz rfl (lv_room (Nat.le_of_ble_eq_true rfl)) dL_law_545 ⟨(by have h9 : room_1.cells = 600000 := rfl; have h8 : room_1.slots = 7302250 := rfl; omega), (by have h9 : room_1.cells = 600000 := rfl; have h8 : room_1.slots = 7302250 := rfl; omega)⟩) hS (fun _ _ hR hS => ?_)
  refine lv_icmp_eq (tgt := 1292) hx hb dL_law_548 (by decide) (fun c548 => ?_) (fun c548 => ?_)
  · have hm := hw_ip hm c548
    refine W.widen (k := 55 + j * 4 + 4) (n := 5876 + j * 348 + 348) (by omega) (by omega) ?_
    exact wL_b1292 C0 hG hj hk18 hm hR hS (hl.sub [0, 1, 2, 3] rfl)
  · have hm := hw_in hm c548
    refine lv_iconst (v := 0) hx hb dL_law_551 (by decide) ?_
    exact hw_lret hx hb hr hlk hS hbs (by omega) (by omega) hm dL_law_552
set_option maxRecDepth 100000 in
theorem wL_b508 {p : Program} {e : Env} {s : State} {m : MethodId} {below : List Frame} {meth : Method} {c : Code} {D : hw_D} {l : Launch} {b scr N : Nat} {xs : Nat → Int32} {g : hw_Sd} {k18 : Option Nat → Option Nat → Int32 → hw_S → Option (Int32 × hw_S)} {τ : hw_S} (C0 : hw_CL p s m meth c D b scr N xs) (hG : hw_G g b s s.heap) {j n : Nat} (hj : j + (n + 1) = 513) (hk18 : ∀ {l1 : Option Nat} {l2 : Option Nat} {l3 : Int32} {σ : hw_S} {H : Heap} {locs : List Loc} {ls : Array Slot}, k18 l1 l2 l3 σ = some (1, τ) → hw_R D b σ H → va_S (fun q => b ≤ q) s.heap H locs → hw_L ls 4 255 [(0, .ref scr), (1, hw_vr b l1), (2, hw_vr b l2), (3, .int l3)] → W p l e room_1 s m #[Value.ref scr] below meth c H locs (55 + (j + 1) * 4 + 0) (5876 + (j + 1) * 348 + 0) (lw_Z below #[Value.ref scr] s) (F0 m 18 ls [])) {l1 : Option Nat} {l2 : Option Nat} {l3 : Int32} {t0 : Option Nat} {t1 : Int32} {t2 : Int32} {t3 : Int32} {t4 : Int32} {t5 : Int32} {σ : hw_S} {H : Heap} {locs : List Loc} (hm : mL_b508 xs N k18 l1 l2 l3 t0 t1 t2 t3 t4 t5 σ = some (1, τ)) (hR : hw_R D b σ H) (hS : va_S (fun q => b ≤ q) s.heap H locs) {ls : Array Slot} (hl : hw_L ls 4 255 [(0, .ref scr), (1, hw_vr b l1), (2, hw_vr b l2), (3, .int l3)]) : W p l e room_1 s m #[Value.ref scr] below meth c H locs (55 + j * 4 + 0) (5876 + j * 348 + 0) (lw_Z below #[Value.ref scr] s) (F0 m 508 ls [.int t5, .int t4, .int t3, .int t2, .int t1, hw_vr b t0]) := by
  obtain ⟨hx, hb, hml, hr, hown, hts, hlk, hE, hbs, hsb, hX⟩ := id C0
  have hown : s.vm.findClass RL = some m.cls := hown
  have hK := hE.1
  have hsz : scr < s.heap.size := by omega
  unfold mL_b508 at hm
  obtain ⟨a508, g508, hm⟩ := hw_bs hm
  obtain ⟨h508, ht508⟩ := hw_rv_of g508
  rw [h508]
  obtain ⟨v508, σ508, e508, hm⟩ := hw_bs2 hm
  refine hw_cWI (va_runV (As := [.int t1, .int t2, .int t3, .int t4, .int t5]) (rest := []) ⟨hx, hb, hml, hown, hts⟩ (c11_curve l D b e508) (cwV 5 hts (hw_gV hw_m680 hw_m681 hw_m682 hw_m2 hw_m683) rfl rfl rfl (by decide +kernel) ⟨(Nat.le_of_ble_eq_true rfl), (Nat.le_of_ble_eq_true rfl)⟩) (hw_preV (ci := 11) hE hR rfl (by decide) (hw_q_of ht508)) rfl rfl hl.sz rfl (lv_room (Nat.le_of_ble_eq_true rfl)) dL_law_508 ⟨(by have h9 : room_1.cells = 600000 := rfl; have h8 : room_1.slots = 7302250 := rfl; omega), (by have h9 : room_1.cells = 600000 := rfl; have h8 : room_1.slots = 7302250 := rfl; omega)⟩) hS (fun _ _ hR hS => ?_)
  refine hw_aload_n hx hb dL_law_511 rfl (hl.at 2 rfl) ?_
  refine lv_aload_n hx hb dL_law_512 rfl (hl.at 0 rfl) ?_
  refine lv_iload_n hx hb dL_law_513 rfl (hl.at 3 rfl) ?_
  refine lv_iconst (v := 1) hx hb dL_law_514 (by decide) ?_
  refine lv_iadd hx hb dL_law_515 ?_
  obtain ⟨v516, e516, hm⟩ := hw_bs hm
  refine hw_sxr hx hb hX hS hsb hsz e516 dL_law_516 ?_
  refine lv_aload_n hx hb dL_law_517 rfl (hl.at 0 rfl) ?_
  refine lv_iload_n hx hb dL_law_518 rfl (hl.at 3 rfl) ?_
  refine lv_iconst (v := 2) hx hb dL_law_519 (by decide) ?_
  refine lv_iadd hx hb dL_law_520 ?_
  obtain ⟨v521, e521, hm⟩ := hw_bs hm
  refine hw_sxr hx hb hX hS hsb hsz e521 dL_law_521 ?_
  refine lv_aload_n hx hb dL_law_522 rfl (hl.at 0 rfl) ?_
  refine lv_iload_n hx hb dL_law_523 rfl (hl.at 3 rfl) ?_
  refine lv_iconst (v := 3) hx hb dL_law_524 (by decide) ?_
  refine lv_iadd hx hb dL_law_525 ?_
  obtain ⟨v526, e526, hm⟩ := hw_bs hm
  refine hw_sxr hx hb hX hS hsb hsz e526 dL_law_526 ?_
  refine lv_aload_n hx hb dL_law_527 rfl (hl.at 0 rfl) ?_
  refine lv_iload_n hx hb dL_law_528 rfl (hl.at 3 rfl) ?_
  refine lv_iconst (v := 4) hx hb dL_law_529 (by decide) ?_
  refine lv_iadd hx hb dL_law_530 ?_
  obtain ⟨v531, e531, hm⟩ := hw_bs hm
  refine hw_sxr hx hb hX hS hsb hsz e531 dL_law_531 ?_
  refine lv_aload_n hx hb dL_law_532 rfl (hl.at 0 rfl) ?_
  refine lv_iload_n hx hb dL_law_533 rfl (hl.at 3 rfl) ?_
  refine lv_iconst (v := 5) hx hb dL_law_534 (by decide) ?_
  refine lv_iadd hx hb dL_law_535 ?_
  obtain ⟨v536, e536, hm⟩ := hw_bs hm
  refine hw_sxr hx hb hX hS hsb hsz e536 dL_law_536 ?_
  refine lv_if_eq (tgt := 544) hx hb dL_law_537 (by decide) (fun c537 => ?_) (fun c537 => ?_)
  · have hm := hw_ip hm c537
    refine lv_iconst (v := 0) hx hb dL_law_544 (by decide) ?_
    exact wL_b545 C0 hG hj hk18 hm hR hS (hl.sub [0, 1, 2, 3] rfl)
  · have hm := hw_in hm c537
    refine lv_iconst (v := 1) hx hb dL_law_540 (by decide) ?_
    refine lv_goto (tgt := 545) hx hb dL_law_541 (by decide) ?_
    exact wL_b545 C0 hG hj hk18 hm hR hS (hl.sub [0, 1, 2, 3] rfl)
set_option maxRecDepth 100000 in
theorem wL_b474 {p : Program} {e : Env} {s : State} {m : MethodId} {below : List Frame} {meth : Method} {c : Code} {D : hw_D} {l : Launch} {b scr N : Nat} {xs : Nat → Int32} {g : hw_Sd} {k18 : Option Nat → Option Nat → Int32 → hw_S → Option (Int32 × hw_S)} {τ : hw_S} (C0 : hw_CL p s m meth c D b scr N xs) (hG : hw_G g b s s.heap) {j n : Nat} (hj : j + (n + 1) = 513) (hk18 : ∀ {l1 : Option Nat} {l2 : Option Nat} {l3 : Int32} {σ : hw_S} {H : Heap} {locs : List Loc} {ls : Array Slot}, k18 l1 l2 l3 σ = some (1, τ) → hw_R D b σ H → va_S (fun q => b ≤ q) s.heap H locs → hw_L ls 4 255 [(0, .ref scr), (1, hw_vr b l1), (2, hw_vr b l2), (3, .int l3)] → W p l e room_1 s m #[Value.ref scr] below meth c H locs (55 + (j + 1) * 4 + 0) (5876 + (j + 1) * 348 + 0) (lw_Z below #[Value.ref scr] s) (F0 m 18 ls [])) {l1 : Option Nat} {l2 : Option Nat} {l3 : Int32} {σ : hw_S} {H : Heap} {locs : List Loc} (hm : mL_b474 xs N k18 l1 l2 l3 σ = some (1, τ)) (hR : hw_R D b σ H) (hS : va_S (fun q => b ≤ q) s.heap H locs) {ls : Array Slot} (hl : hw_L ls 4 255 [(0, .ref scr), (1, hw_vr b l1), (2, hw_vr b l2), (3, .int l3)]) : W p l e room_1 s m #[Value.ref scr] below meth c H locs (55 + j * 4 + 0) (5876 + j * 348 + 0) (lw_Z below #[Value.ref scr] s) (F0 m 474 ls []) := by
  obtain ⟨hx, hb, hml, hr, hown, hts, hlk, hE, hbs, hsb, hX⟩ := id C0
  have hown : s.vm.findClass RL = some m.cls := hown
  have hK := hE.1
  have hsz : scr < s.heap.size := by omega
  unfold mL_b474 at hm
  refine hw_aload_n hx hb dL_law_474 rfl (hl.at 1 rfl) ?_
  refine lv_aload_n hx hb dL_law_475 rfl (hl.at 0 rfl) ?_
  refine lv_iload_n hx hb dL_law_476 rfl (hl.at 3 rfl) ?_
  refine lv_iconst (v := 1) hx hb dL_law_477 (by decide) ?_
  refine lv_iadd hx hb dL_law_478 ?_
  obtain ⟨v479, e479, hm⟩ := hw_bs hm
  refine hw_sxr hx hb hX hS hsb hsz e479 dL_law_479 ?_
  refine lv_aload_n hx hb dL_law_480 rfl (hl.at 0 rfl) ?_
  refine lv_iload_n hx hb dL_law_481 rfl (hl.at 3 rfl) ?_
  refine lv_iconst (v := 2) hx hb dL_law_482 (by decide) ?_
  refine lv_iadd hx hb dL_law_483 ?_
  obtain ⟨v484, e484, hm⟩ := hw_bs hm
  refine hw_sxr hx hb hX hS hsb hsz e484 dL_law_484 ?_
  refine lv_aload_n hx hb dL_law_485 rfl (hl.at 0 rfl) ?_
  refine lv_iload_n hx hb dL_law_486 rfl (hl.at 3 rfl) ?_
  refine lv_iconst (v := 3) hx hb dL_law_487 (by decide) ?_
  refine lv_iadd hx hb dL_law_488 ?_
  obtain ⟨v489, e489, hm⟩ := hw_bs hm
  refine hw_sxr hx hb hX hS hsb hsz e489 dL_law_489 ?_
  refine lv_aload_n hx hb dL_law_490 rfl (hl.at 0 rfl) ?_
  refine lv_iload_n hx hb dL_law_491 rfl (hl.at 3 rfl) ?_
  refine lv_iconst (v := 4) hx hb dL_law_492 (by decide) ?_
  refine lv_iadd hx hb dL_law_493 ?_
  obtain ⟨v494, e494, hm⟩ := hw_bs hm
  refine hw_sxr hx hb hX hS hsb hsz e494 dL_law_494 ?_
  refine lv_aload_n hx hb dL_law_495 rfl (hl.at 0 rfl) ?_
  refine lv_iload_n hx hb dL_law_496 rfl (hl.at 3 rfl) ?_
  refine lv_iconst (v := 5) hx hb dL_law_497 (by decide) ?_
  refine lv_iadd hx hb dL_law_498 ?_
  obtain ⟨v499, e499, hm⟩ := hw_bs hm
  refine hw_sxr hx hb hX hS hsb hsz e499 dL_law_499 ?_
  refine lv_if_eq (tgt := 507) hx hb dL_law_500 (by decide) (fun c500 => ?_) (fun c500 => ?_)
  · have hm := hw_ip hm c500
    refine lv_iconst (v := 0) hx hb dL_law_507 (by decide) ?_
    exact wL_b508 C0 hG hj hk18 hm hR hS (hl.sub [0, 1, 2, 3] rfl)
  · have hm := hw_in hm c500
    refine lv_iconst (v := 1) hx hb dL_law_503 (by decide) ?_
    refine lv_goto (tgt := 508) hx hb dL_law_504 (by decide) ?_
    exact wL_b508 C0 hG hj hk18 hm hR hS (hl.sub [0, 1, 2, 3] rfl)
set_option maxRecDepth 100000 in
theorem wL_b553 {p : Program} {e : Env} {s : State} {m : MethodId} {below : List Frame} {meth : Method} {c : Code} {D : hw_D} {l : Launch} {b scr N : Nat} {xs : Nat → Int32} {g : hw_Sd} {k18 : Option Nat → Option Nat → Int32 → hw_S → Option (Int32 × hw_S)} {τ : hw_S} (C0 : hw_CL p s m meth c D b scr N xs) (hG : hw_G g b s s.heap) {j n : Nat} (hj : j + (n + 1) = 513) (hk18 : ∀ {l1 : Option Nat} {l2 : Option Nat} {l3 : Int32} {σ : hw_S} {H : Heap} {locs : List Loc} {ls : Array Slot}, k18 l1 l2 l3 σ = some (1, τ) → hw_R D b σ H → va_S (fun q => b ≤ q) s.heap H locs → hw_L ls 4 255 [(0, .ref scr), (1, hw_vr b l1), (2, hw_vr b l2), (3, .int l3)] → W p l e room_1 s m #[Value.ref scr] below meth c H locs (55 + (j + 1) * 4 + 0) (5876 + (j + 1) * 348 + 0) (lw_Z below #[Value.ref scr] s) (F0 m 18 ls [])) {l1 : Option Nat} {l2 : Option Nat} {l3 : Int32} {σ : hw_S} {H : Heap} {locs : List Loc} (hm : mL_b553 xs N k18 l1 l2 l3 σ = some (1, τ)) (hR : hw_R D b σ H) (hS : va_S (fun q => b ≤ q) s.heap H locs) {ls : Array Slot} (hl : hw_L ls 4 255 [(0, .ref scr), (1, hw_vr b l1), (2, hw_vr b l2), (3, .int l3)]) : W p l e room_1 s m #[Value.ref scr] below meth c H locs (55 + j * 4 + 0) (5876 + j * 348 + 0) (lw_Z below #[Value.ref scr] s) (F0 m 553 ls []) := by
  obtain ⟨hx, hb, hml, hr, hown, hts, hlk, hE, hbs, hsb, hX⟩ := id C0
  have hown : s.vm.findClass RL = some m.cls := hown
  have hK := hE.1
  have hsz : scr < s.heap.size := by omega
  unfold mL_b553 at hm
  refine hw_aload_n hx hb dL_law_553 rfl (hl.at 1 rfl) ?_
  refine lv_aload_n hx hb dL_law_554 rfl (hl.at 0 rfl) ?_
  refine lv_iload_n hx hb dL_law_555 rfl (hl.at 3 rfl) ?_
  refine lv_iconst (v := 1) hx hb dL_law_556 (by decide) ?_
  refine lv_iadd hx hb dL_law_557 ?_
  obtain ⟨v558, e558, hm⟩ := hw_bs hm
  refine hw_sxr hx hb hX hS hsb hsz e558 dL_law_558 ?_
  refine lv_aload_n hx hb dL_law_559 rfl (hl.at 0 rfl) ?_
  refine lv_iload_n hx hb dL_law_560 rfl (hl.at 3 rfl) ?_
  refine lv_iconst (v := 2) hx hb dL_law_561 (by decide) ?_
  refine lv_iadd hx hb dL_law_562 ?_
  obtain ⟨v563, e563, hm⟩ := hw_bs hm
  refine hw_sxr hx hb hX hS hsb hsz e563 dL_law_563 ?_
  refine lv_aload_n hx hb dL_law_564 rfl (hl.at 0 rfl) ?_
  refine lv_iload_n hx hb dL_law_565 rfl (hl.at 3 rfl) ?_
  refine lv_iconst (v := 3) hx hb dL_law_566 (by decide) ?_
  refine lv_iadd hx hb dL_law_567 ?_
  obtain ⟨v568, e568, hm⟩ := hw_bs hm
  refine hw_sxr hx hb hX hS hsb hsz e568 dL_law_568 ?_
  refine lv_aload_n hx hb dL_law_569 rfl (hl.at 0 rfl) ?_
  refine lv_iload_n hx hb dL_law_570 rfl (hl.at 3 rfl) ?_
  refine lv_iconst (v := 4) hx hb dL_law_571 (by decide) ?_
  refine lv_iadd hx hb dL_law_572 ?_
  obtain ⟨v573, e573, hm⟩ := hw_bs hm
  refine hw_sxr hx hb hX hS hsb hsz e573 dL_law_573 ?_
  refine lv_aload_n hx hb dL_law_574 rfl (hl.at 0 rfl) ?_
  refine lv_iload_n hx hb dL_law_575 rfl (hl.at 3 rfl) ?_
  refine lv_iconst (v := 5) hx hb dL_law_576 (by decide) ?_
  refine lv_iadd hx hb dL_law_577 ?_
  obtain ⟨v578, e578, hm⟩ := hw_bs hm
  refine hw_sxr hx hb hX hS hsb hsz e578 dL_law_578 ?_
  obtain ⟨a579, g579, hm⟩ := hw_bs hm
  obtain ⟨h579, ht579⟩ := hw_rv_of g579
  rw [h579]
  obtain ⟨v579, σ579, e579, hm⟩ := hw_bs2 hm
  refine hw_cWI (va_runV (As := [.int v558, .int v563, .int v568, .int v573, .int v578]) (rest := []) ⟨hx, hb, hml, hown, hts⟩ (c11_jumps l D b e579) (cwV 5 hts (hw_gV hw_m706 hw_m707 hw_m708 hw_m2 hw_m709) rfl rfl rfl (by decide +kernel) ⟨(Nat.le_of_ble_eq_true rfl), (Nat.le_of_ble_eq_true rfl)⟩) (hw_preV (ci := 11) hE hR rfl (by decide) (hw_q_of ht579)) rfl rfl hl.sz rfl (lv_room (Nat.le_of_ble_eq_true rfl)) dL_law_579 ⟨(by have h9 : room_1.cells = 600000 := rfl; have h8 : room_1.slots = 7302250 := rfl; omega), (by have h9 : room_1.cells = 600000 := rfl; have h8 : room_1.slots = 7302250 := rfl; omega)⟩) hS (fun _ _ hR hS => ?_)
  refine hw_aload_n hx hb dL_law_582 rfl (hl.at 2 rfl) ?_
  refine lv_aload_n hx hb dL_law_583 rfl (hl.at 0 rfl) ?_
  refine lv_iload_n hx hb dL_law_584 rfl (hl.at 3 rfl) ?_
  refine lv_iconst (v := 1) hx hb dL_law_585 (by decide) ?_
  refine lv_iadd hx hb dL_law_586 ?_
  obtain ⟨v587, e587, hm⟩ := hw_bs hm
  refine hw_sxr hx hb hX hS hsb hsz e587 dL_law_587 ?_
  refine lv_aload_n hx hb dL_law_588 rfl (hl.at 0 rfl) ?_
  refine lv_iload_n hx hb dL_law_589 rfl (hl.at 3 rfl) ?_
  refine lv_iconst (v := 2) hx hb dL_law_590 (by decide) ?_
  refine lv_iadd hx hb dL_law_591 ?_
  obtain ⟨v592, e592, hm⟩ := hw_bs hm
  refine hw_sxr hx hb hX hS hsb hsz e592 dL_law_592 ?_
  refine lv_aload_n hx hb dL_law_593 rfl (hl.at 0 rfl) ?_
  refine lv_iload_n hx hb dL_law_594 rfl (hl.at 3 rfl) ?_
  refine lv_iconst (v := 3) hx hb dL_law_595 (by decide) ?_
  refine lv_iadd hx hb dL_law_596 ?_
  obtain ⟨v597, e597, hm⟩ := hw_bs hm
  refine hw_sxr hx hb hX hS hsb hsz e597 dL_law_597 ?_
  refine lv_aload_n hx hb dL_law_598 rfl (hl.at 0 rfl) ?_
  refine lv_iload_n hx hb dL_law_599 rfl (hl.at 3 rfl) ?_
  refine lv_iconst (v := 4) hx hb dL_law_600 (by decide) ?_
  refine lv_iadd hx hb dL_law_601 ?_
  obtain ⟨v602, e602, hm⟩ := hw_bs hm
  refine hw_sxr hx hb hX hS hsb hsz e602 dL_law_602 ?_
  refine lv_aload_n hx hb dL_law_603 rfl (hl.at 0 rfl) ?_
  refine lv_iload_n hx hb dL_law_604 rfl (hl.at 3 rfl) ?_
  refine lv_iconst (v := 5) hx hb dL_law_605 (by decide) ?_
  refine lv_iadd hx hb dL_law_606 ?_
  obtain ⟨v607, e607, hm⟩ := hw_bs hm
  refine hw_sxr hx hb hX hS hsb hsz e607 dL_law_607 ?_
  obtain ⟨a608, g608, hm⟩ := hw_bs hm
  obtain ⟨h608, ht608⟩ := hw_rv_of g608
  rw [h608]
  obtain ⟨v608, σ608, e608, hm⟩ := hw_bs2 hm
  refine hw_cWI (va_runV (As := [.int v587, .int v592, .int v597, .int v602, .int v607]) (rest := [.int v579]) ⟨hx, hb, hml, hown, hts⟩ (c12_jumps l D b e608) (cwV 5 hts (hw_gV hw_m713 hw_m714 hw_m715 hw_m5 hw_m716) rfl rfl rfl (by decide +kernel) ⟨(Nat.le_of_ble_eq_true rfl), (Nat.le_of_ble_eq_true rfl)⟩) (hw_preV (ci := 12) hE hR rfl (by decide) (hw_q_of ht608)) rfl rfl hl.sz rfl (lv_room (Nat.le_of_ble_eq_true rfl)) dL_law_608 ⟨(by have h9 : room_1.cells = 600000 := rfl; have h8 : room_1.slots = 7302250 := rfl; omega), (by have h9 : room_1.cells = 600000 := rfl; have h8 : room_1.slots = 7302250 := rfl; omega)⟩) hS (fun _ _ hR hS => ?_)
  refine lv_icmp_eq (tgt := 1292) hx hb dL_law_611 (by decide) (fun c611 => ?_) (fun c611 => ?_)
  · have hm := hw_ip hm c611
    refine W.widen (k := 55 + j * 4 + 4) (n := 5876 + j * 348 + 348) (by omega) (by omega) ?_
    exact wL_b1292 C0 hG hj hk18 hm hR hS (hl.sub [0, 1, 2, 3] rfl)
  · have hm := hw_in hm c611
    refine lv_iconst (v := 0) hx hb dL_law_614 (by decide) ?_
    exact hw_lret hx hb hr hlk hS hbs (by omega) (by omega) hm dL_law_615
set_option maxRecDepth 100000 in
theorem wL_b616 {p : Program} {e : Env} {s : State} {m : MethodId} {below : List Frame} {meth : Method} {c : Code} {D : hw_D} {l : Launch} {b scr N : Nat} {xs : Nat → Int32} {g : hw_Sd} {k18 : Option Nat → Option Nat → Int32 → hw_S → Option (Int32 × hw_S)} {τ : hw_S} (C0 : hw_CL p s m meth c D b scr N xs) (hG : hw_G g b s s.heap) {j n : Nat} (hj : j + (n + 1) = 513) (hk18 : ∀ {l1 : Option Nat} {l2 : Option Nat} {l3 : Int32} {σ : hw_S} {H : Heap} {locs : List Loc} {ls : Array Slot}, k18 l1 l2 l3 σ = some (1, τ) → hw_R D b σ H → va_S (fun q => b ≤ q) s.heap H locs → hw_L ls 4 255 [(0, .ref scr), (1, hw_vr b l1), (2, hw_vr b l2), (3, .int l3)] → W p l e room_1 s m #[Value.ref scr] below meth c H locs (55 + (j + 1) * 4 + 0) (5876 + (j + 1) * 348 + 0) (lw_Z below #[Value.ref scr] s) (F0 m 18 ls [])) {l1 : Option Nat} {l2 : Option Nat} {l3 : Int32} {σ : hw_S} {H : Heap} {locs : List Loc} (hm : mL_b616 xs N k18 l1 l2 l3 σ = some (1, τ)) (hR : hw_R D b σ H) (hS : va_S (fun q => b ≤ q) s.heap H locs) {ls : Array Slot} (hl : hw_L ls 4 255 [(0, .ref scr), (1, hw_vr b l1), (2, hw_vr b l2), (3, .int l3)]) : W p l e room_1 s m #[Value.ref scr] below meth c H locs (55 + j * 4 + 0) (5876 + j * 348 + 0) (lw_Z below #[Value.ref scr] s) (F0 m 616 ls []) := by
  obtain ⟨hx, hb, hml, hr, hown, hts, hlk, hE, hbs, hsb, hX⟩ := id C0
  have hown : s.vm.findClass RL = some m.cls := hown
  have hK := hE.1
  have hsz : scr < s.heap.size := by omega
  unfold mL_b616 at hm
  refine hw_aload_n hx hb dL_law_616 rfl (hl.at 1 rfl) ?_
  refine lv_aload_n hx hb dL_law_617 rfl (hl.at 0 rfl) ?_
  refine lv_iload_n hx hb dL_law_618 rfl (hl.at 3 rfl) ?_
  refine lv_iconst (v := 1) hx hb dL_law_619 (by decide) ?_
  refine lv_iadd hx hb dL_law_620 ?_
  obtain ⟨v621, e621, hm⟩ := hw_bs hm
  refine hw_sxr hx hb hX hS hsb hsz e621 dL_law_621 ?_
  refine lv_aload_n hx hb dL_law_622 rfl (hl.at 0 rfl) ?_
  refine lv_iload_n hx hb dL_law_623 rfl (hl.at 3 rfl) ?_
  refine lv_iconst (v := 2) hx hb dL_law_624 (by decide) ?_
  refine lv_iadd hx hb dL_law_625 ?_
  obtain ⟨v626, e626, hm⟩ := hw_bs hm
  refine hw_sxr hx hb hX hS hsb hsz e626 dL_law_626 ?_
  refine lv_aload_n hx hb dL_law_627 rfl (hl.at 0 rfl) ?_
  refine lv_iload_n hx hb dL_law_628 rfl (hl.at 3 rfl) ?_
  refine lv_iconst (v := 3) hx hb dL_law_629 (by decide) ?_
  refine lv_iadd hx hb dL_law_630 ?_
  obtain ⟨v631, e631, hm⟩ := hw_bs hm
  refine hw_sxr hx hb hX hS hsb hsz e631 dL_law_631 ?_
  refine lv_aload_n hx hb dL_law_632 rfl (hl.at 0 rfl) ?_
  refine lv_iload_n hx hb dL_law_633 rfl (hl.at 3 rfl) ?_
  refine lv_iconst (v := 4) hx hb dL_law_634 (by decide) ?_
  refine lv_iadd hx hb dL_law_635 ?_
  obtain ⟨v636, e636, hm⟩ := hw_bs hm
  refine hw_sxr hx hb hX hS hsb hsz e636 dL_law_636 ?_
  obtain ⟨a637, g637, hm⟩ := hw_bs hm
  obtain ⟨h637, ht637⟩ := hw_rv_of g637
  rw [h637]
  obtain ⟨v637, σ637, e637, hm⟩ := hw_bs2 hm
  refine hw_cWI (va_runV (As := [.int v621, .int v626, .int v631, .int v636]) (rest := []) ⟨hx, hb, hml, hown, hts⟩ (c11_several l D b e637) (cwV 4 hts (hw_gV hw_m720 hw_m721 hw_m722 hw_m2 hw_m723) rfl rfl rfl (by decide +kernel) ⟨(Nat.le_of_ble_eq_true rfl), (Nat.le_of_ble_eq_true rfl)⟩) (hw_preV (ci := 11) hE hR rfl (by decide) (hw_q_of ht637)) rfl rfl hl.sz rfl (lv_room (Nat.le_of_ble_eq_true rfl)) dL_law_637 ⟨(by have h9 : room_1.cells = 600000 := rfl; have h8 : room_1.slots = 7302250 := rfl; omega), (by have h9 : room_1.cells = 600000 := rfl; have h8 : room_1.slots = 7302250 := rfl; omega)⟩) hS (fun _ _ hR hS => ?_)
  refine hw_aload_n hx hb dL_law_640 rfl (hl.at 2 rfl) ?_
  refine lv_aload_n hx hb dL_law_641 rfl (hl.at 0 rfl) ?_
  refine lv_iload_n hx hb dL_law_642 rfl (hl.at 3 rfl) ?_
  refine lv_iconst (v := 1) hx hb dL_law_643 (by decide) ?_
  refine lv_iadd hx hb dL_law_644 ?_
  obtain ⟨v645, e645, hm⟩ := hw_bs hm
  refine hw_sxr hx hb hX hS hsb hsz e645 dL_law_645 ?_
  refine lv_aload_n hx hb dL_law_646 rfl (hl.at 0 rfl) ?_
  refine lv_iload_n hx hb dL_law_647 rfl (hl.at 3 rfl) ?_
  refine lv_iconst (v := 2) hx hb dL_law_648 (by decide) ?_
  refine lv_iadd hx hb dL_law_649 ?_
  obtain ⟨v650, e650, hm⟩ := hw_bs hm
  refine hw_sxr hx hb hX hS hsb hsz e650 dL_law_650 ?_
  refine lv_aload_n hx hb dL_law_651 rfl (hl.at 0 rfl) ?_
  refine lv_iload_n hx hb dL_law_652 rfl (hl.at 3 rfl) ?_
  refine lv_iconst (v := 3) hx hb dL_law_653 (by decide) ?_
  refine lv_iadd hx hb dL_law_654 ?_
  obtain ⟨v655, e655, hm⟩ := hw_bs hm
  refine hw_sxr hx hb hX hS hsb hsz e655 dL_law_655 ?_
  refine lv_aload_n hx hb dL_law_656 rfl (hl.at 0 rfl) ?_
  refine lv_iload_n hx hb dL_law_657 rfl (hl.at 3 rfl) ?_
  refine lv_iconst (v := 4) hx hb dL_law_658 (by decide) ?_
  refine lv_iadd hx hb dL_law_659 ?_
  obtain ⟨v660, e660, hm⟩ := hw_bs hm
  refine hw_sxr hx hb hX hS hsb hsz e660 dL_law_660 ?_
  obtain ⟨a661, g661, hm⟩ := hw_bs hm
  obtain ⟨h661, ht661⟩ := hw_rv_of g661
  rw [h661]
  obtain ⟨v661, σ661, e661, hm⟩ := hw_bs2 hm
  refine hw_cWI (va_runV (As := [.int v645, .int v650, .int v655, .int v660]) (rest := [.int v637]) ⟨hx, hb, hml, hown, hts⟩ (c12_several l D b e661) (cwV 4 hts (hw_gV hw_m727 hw_m728 hw_m729 hw_m5 hw_m730) rfl rfl rfl (by decide +kernel) ⟨(Nat.le_of_ble_eq_true rfl), (Nat.le_of_ble_eq_true rfl)⟩) (hw_preV (ci := 12) hE hR rfl (by decide) (hw_q_of ht661)) rfl rfl hl.sz rfl (lv_room (Nat.le_of_ble_eq_true rfl)) dL_law_661 ⟨(by have h9 : room_1.cells = 600000 := rfl; have h8 : room_1.slots = 7302250 := rfl; omega), (by have h9 : room_1.cells = 600000 := rfl; have h8 : room_1.slots = 7302250 := rfl; omega)⟩) hS (fun _ _ hR hS => ?_)
  refine lv_icmp_eq (tgt := 1292) hx hb dL_law_664 (by decide) (fun c664 => ?_) (fun c664 => ?_)
  · have hm := hw_ip hm c664
    refine W.widen (k := 55 + j * 4 + 4) (n := 5876 + j * 348 + 348) (by omega) (by omega) ?_
    exact wL_b1292 C0 hG hj hk18 hm hR hS (hl.sub [0, 1, 2, 3] rfl)
  · have hm := hw_in hm c664
    refine lv_iconst (v := 0) hx hb dL_law_667 (by decide) ?_
    exact hw_lret hx hb hr hlk hS hbs (by omega) (by omega) hm dL_law_668
set_option maxRecDepth 100000 in
theorem wL_b669 {p : Program} {e : Env} {s : State} {m : MethodId} {below : List Frame} {meth : Method} {c : Code} {D : hw_D} {l : Launch} {b scr N : Nat} {xs : Nat → Int32} {g : hw_Sd} {k18 : Option Nat → Option Nat → Int32 → hw_S → Option (Int32 × hw_S)} {τ : hw_S} (C0 : hw_CL p s m meth c D b scr N xs) (hG : hw_G g b s s.heap) {j n : Nat} (hj : j + (n + 1) = 513) (hk18 : ∀ {l1 : Option Nat} {l2 : Option Nat} {l3 : Int32} {σ : hw_S} {H : Heap} {locs : List Loc} {ls : Array Slot}, k18 l1 l2 l3 σ = some (1, τ) → hw_R D b σ H → va_S (fun q => b ≤ q) s.heap H locs → hw_L ls 4 255 [(0, .ref scr), (1, hw_vr b l1), (2, hw_vr b l2), (3, .int l3)] → W p l e room_1 s m #[Value.ref scr] below meth c H locs (55 + (j + 1) * 4 + 0) (5876 + (j + 1) * 348 + 0) (lw_Z below #[Value.ref scr] s) (F0 m 18 ls [])) {l1 : Option Nat} {l2 : Option Nat} {l3 : Int32} {σ : hw_S} {H : Heap} {locs : List Loc} (hm : mL_b669 xs N k18 l1 l2 l3 σ = some (1, τ)) (hR : hw_R D b σ H) (hS : va_S (fun q => b ≤ q) s.heap H locs) {ls : Array Slot} (hl : hw_L ls 4 255 [(0, .ref scr), (1, hw_vr b l1), (2, hw_vr b l2), (3, .int l3)]) : W p l e room_1 s m #[Value.ref scr] below meth c H locs (55 + j * 4 + 0) (5876 + j * 348 + 0) (lw_Z below #[Value.ref scr] s) (F0 m 669 ls []) := by
  obtain ⟨hx, hb, hml, hr, hown, hts, hlk, hE, hbs, hsb, hX⟩ := id C0
  have hown : s.vm.findClass RL = some m.cls := hown
  have hK := hE.1
  have hsz : scr < s.heap.size := by omega
  unfold mL_b669 at hm
  refine hw_aload_n hx hb dL_law_669 rfl (hl.at 1 rfl) ?_
  refine lv_aload_n hx hb dL_law_670 rfl (hl.at 0 rfl) ?_
  refine lv_iload_n hx hb dL_law_671 rfl (hl.at 3 rfl) ?_
  refine lv_iconst (v := 1) hx hb dL_law_672 (by decide) ?_
  refine lv_iadd hx hb dL_law_673 ?_
  obtain ⟨v674, e674, hm⟩ := hw_bs hm
  refine hw_sxr hx hb hX hS hsb hsz e674 dL_law_674 ?_
  refine lv_aload_n hx hb dL_law_675 rfl (hl.at 0 rfl) ?_
  refine lv_iload_n hx hb dL_law_676 rfl (hl.at 3 rfl) ?_
  refine lv_iconst (v := 2) hx hb dL_law_677 (by decide) ?_
  refine lv_iadd hx hb dL_law_678 ?_
  obtain ⟨v679, e679, hm⟩ := hw_bs hm
  refine hw_sxr hx hb hX hS hsb hsz e679 dL_law_679 ?_
  refine lv_aload_n hx hb dL_law_680 rfl (hl.at 0 rfl) ?_
  refine lv_iload_n hx hb dL_law_681 rfl (hl.at 3 rfl) ?_
  refine lv_iconst (v := 3) hx hb dL_law_682 (by decide) ?_
  refine lv_iadd hx hb dL_law_683 ?_
  obtain ⟨v684, e684, hm⟩ := hw_bs hm
  refine hw_sxr hx hb hX hS hsb hsz e684 dL_law_684 ?_
  refine lv_aload_n hx hb dL_law_685 rfl (hl.at 0 rfl) ?_
  refine lv_iload_n hx hb dL_law_686 rfl (hl.at 3 rfl) ?_
  refine lv_iconst (v := 4) hx hb dL_law_687 (by decide) ?_
  refine lv_iadd hx hb dL_law_688 ?_
  obtain ⟨v689, e689, hm⟩ := hw_bs hm
  refine hw_sxr hx hb hX hS hsb hsz e689 dL_law_689 ?_
  obtain ⟨a690, g690, hm⟩ := hw_bs hm
  obtain ⟨h690, ht690⟩ := hw_rv_of g690
  rw [h690]
  obtain ⟨v690, σ690, e690, hm⟩ := hw_bs2 hm
  refine hw_cWI (va_runV (As := [.int v674, .int v679, .int v684, .int v689]) (rest := []) ⟨hx, hb, hml, hown, hts⟩ (c11_order l D b e690) (cwV 4 hts (hw_gV hw_m731 hw_m732 hw_m733 hw_m2 hw_m734) rfl rfl rfl (by decide +kernel) ⟨(Nat.le_of_ble_eq_true rfl), (Nat.le_of_ble_eq_true rfl)⟩) (hw_preV (ci := 11) hE hR rfl (by decide) (hw_q_of ht690)) rfl rfl hl.sz rfl (lv_room (Nat.le_of_ble_eq_true rfl)) dL_law_690 ⟨(by have h9 : room_1.cells = 600000 := rfl; have h8 : room_1.slots = 7302250 := rfl; omega), (by have h9 : room_1.cells = 600000 := rfl; have h8 : room_1.slots = 7302250 := rfl; omega)⟩) hS (fun _ _ hR hS => ?_)
  refine hw_aload_n hx hb dL_law_693 rfl (hl.at 2 rfl) ?_
  refine lv_aload_n hx hb dL_law_694 rfl (hl.at 0 rfl) ?_
  refine lv_iload_n hx hb dL_law_695 rfl (hl.at 3 rfl) ?_
  refine lv_iconst (v := 1) hx hb dL_law_696 (by decide) ?_
  refine lv_iadd hx hb dL_law_697 ?_
  obtain ⟨v698, e698, hm⟩ := hw_bs hm
  refine hw_sxr hx hb hX hS hsb hsz e698 dL_law_698 ?_
  refine lv_aload_n hx hb dL_law_699 rfl (hl.at 0 rfl) ?_
  refine lv_iload_n hx hb dL_law_700 rfl (hl.at 3 rfl) ?_
  refine lv_iconst (v := 2) hx hb dL_law_701 (by decide) ?_
  refine lv_iadd hx hb dL_law_702 ?_
  obtain ⟨v703, e703, hm⟩ := hw_bs hm
  refine hw_sxr hx hb hX hS hsb hsz e703 dL_law_703 ?_
  refine lv_aload_n hx hb dL_law_704 rfl (hl.at 0 rfl) ?_
  refine lv_iload_n hx hb dL_law_705 rfl (hl.at 3 rfl) ?_
  refine lv_iconst (v := 3) hx hb dL_law_706 (by decide) ?_
  refine lv_iadd hx hb dL_law_707 ?_
  obtain ⟨v708, e708, hm⟩ := hw_bs hm
  refine hw_sxr hx hb hX hS hsb hsz e708 dL_law_708 ?_
  refine lv_aload_n hx hb dL_law_709 rfl (hl.at 0 rfl) ?_
  refine lv_iload_n hx hb dL_law_710 rfl (hl.at 3 rfl) ?_
  refine lv_iconst (v := 4) hx hb dL_law_711 (by decide) ?_
  refine lv_iadd hx hb dL_law_712 ?_
  obtain ⟨v713, e713, hm⟩ := hw_bs hm
  refine hw_sxr hx hb hX hS hsb hsz e713 dL_law_713 ?_
  obtain ⟨a714, g714, hm⟩ := hw_bs hm
  obtain ⟨h714, ht714⟩ := hw_rv_of g714
  rw [h714]
  obtain ⟨v714, σ714, e714, hm⟩ := hw_bs2 hm
  refine hw_cWI (va_runV (As := [.int v698, .int v703, .int v708, .int v713]) (rest := [.int v690]) ⟨hx, hb, hml, hown, hts⟩ (c12_order l D b e714) (cwV 4 hts (hw_gV hw_m743 hw_m744 hw_m745 hw_m5 hw_m746) rfl rfl rfl (by decide +kernel) ⟨(Nat.le_of_ble_eq_true rfl), (Nat.le_of_ble_eq_true rfl)⟩) (hw_preV (ci := 12) hE hR rfl (by decide) (hw_q_of ht714)) rfl rfl hl.sz rfl (lv_room (Nat.le_of_ble_eq_true rfl)) dL_law_714 ⟨(by have h9 : room_1.cells = 600000 := rfl; have h8 : room_1.slots = 7302250 := rfl; omega), (by have h9 : room_1.cells = 600000 := rfl; have h8 : room_1.slots = 7302250 := rfl; omega)⟩) hS (fun _ _ hR hS => ?_)
  refine lv_icmp_eq (tgt := 1292) hx hb dL_law_717 (by decide) (fun c717 => ?_) (fun c717 => ?_)
  · have hm := hw_ip hm c717
    refine W.widen (k := 55 + j * 4 + 4) (n := 5876 + j * 348 + 348) (by omega) (by omega) ?_
    exact wL_b1292 C0 hG hj hk18 hm hR hS (hl.sub [0, 1, 2, 3] rfl)
  · have hm := hw_in hm c717
    refine lv_iconst (v := 0) hx hb dL_law_720 (by decide) ?_
    exact hw_lret hx hb hr hlk hS hbs (by omega) (by omega) hm dL_law_721
set_option maxRecDepth 100000 in
theorem wL_b722 {p : Program} {e : Env} {s : State} {m : MethodId} {below : List Frame} {meth : Method} {c : Code} {D : hw_D} {l : Launch} {b scr N : Nat} {xs : Nat → Int32} {g : hw_Sd} {k18 : Option Nat → Option Nat → Int32 → hw_S → Option (Int32 × hw_S)} {τ : hw_S} (C0 : hw_CL p s m meth c D b scr N xs) (hG : hw_G g b s s.heap) {j n : Nat} (hj : j + (n + 1) = 513) (hk18 : ∀ {l1 : Option Nat} {l2 : Option Nat} {l3 : Int32} {σ : hw_S} {H : Heap} {locs : List Loc} {ls : Array Slot}, k18 l1 l2 l3 σ = some (1, τ) → hw_R D b σ H → va_S (fun q => b ≤ q) s.heap H locs → hw_L ls 4 255 [(0, .ref scr), (1, hw_vr b l1), (2, hw_vr b l2), (3, .int l3)] → W p l e room_1 s m #[Value.ref scr] below meth c H locs (55 + (j + 1) * 4 + 0) (5876 + (j + 1) * 348 + 0) (lw_Z below #[Value.ref scr] s) (F0 m 18 ls [])) {l1 : Option Nat} {l2 : Option Nat} {l3 : Int32} {σ : hw_S} {H : Heap} {locs : List Loc} (hm : mL_b722 xs N k18 l1 l2 l3 σ = some (1, τ)) (hR : hw_R D b σ H) (hS : va_S (fun q => b ≤ q) s.heap H locs) {ls : Array Slot} (hl : hw_L ls 4 255 [(0, .ref scr), (1, hw_vr b l1), (2, hw_vr b l2), (3, .int l3)]) : W p l e room_1 s m #[Value.ref scr] below meth c H locs (55 + j * 4 + 0) (5876 + j * 348 + 0) (lw_Z below #[Value.ref scr] s) (F0 m 722 ls []) := by
  obtain ⟨hx, hb, hml, hr, hown, hts, hlk, hE, hbs, hsb, hX⟩ := id C0
  have hown : s.vm.findClass RL = some m.cls := hown
  have hK := hE.1
  have hsz : scr < s.heap.size := by omega
  unfold mL_b722 at hm
  refine hw_aload_n hx hb dL_law_722 rfl (hl.at 1 rfl) ?_
  refine lv_aload_n hx hb dL_law_723 rfl (hl.at 0 rfl) ?_
  refine lv_iload_n hx hb dL_law_724 rfl (hl.at 3 rfl) ?_
  refine lv_iconst (v := 1) hx hb dL_law_725 (by decide) ?_
  refine lv_iadd hx hb dL_law_726 ?_
  obtain ⟨v727, e727, hm⟩ := hw_bs hm
  refine hw_sxr hx hb hX hS hsb hsz e727 dL_law_727 ?_
  obtain ⟨a728, g728, hm⟩ := hw_bs hm
  obtain ⟨h728, ht728⟩ := hw_rv_of g728
  rw [h728]
  obtain ⟨v728, σ728, e728, hm⟩ := hw_bs2 hm
  refine hw_cWI (va_runV (As := [.int v727]) (rest := []) ⟨hx, hb, hml, hown, hts⟩ (c11_want l D b e728) (cwV 1 hts (hw_gV hw_m747 hw_m748 hw_m749 hw_m2 hw_m750) rfl rfl rfl (by decide +kernel) ⟨(Nat.le_of_ble_eq_true rfl), (Nat.le_of_ble_eq_true rfl)⟩) (hw_preV (ci := 11) hE hR rfl (by decide) (hw_q_of ht728)) rfl rfl hl.sz rfl (lv_room (Nat.le_of_ble_eq_true rfl)) dL_law_728 ⟨(by have h9 : room_1.cells = 600000 := rfl; have h8 : room_1.slots = 7302250 := rfl; omega), (by have h9 : room_1.cells = 600000 := rfl; have h8 : room_1.slots = 7302250 := rfl; omega)⟩) hS (fun _ _ hR hS => ?_)
  refine hw_aload_n hx hb dL_law_731 rfl (hl.at 2 rfl) ?_
  refine lv_aload_n hx hb dL_law_732 rfl (hl.at 0 rfl) ?_
  refine lv_iload_n hx hb dL_law_733 rfl (hl.at 3 rfl) ?_
  refine lv_iconst (v := 1) hx hb dL_law_734 (by decide) ?_
  refine lv_iadd hx hb dL_law_735 ?_
  obtain ⟨v736, e736, hm⟩ := hw_bs hm
  refine hw_sxr hx hb hX hS hsb hsz e736 dL_law_736 ?_
  obtain ⟨a737, g737, hm⟩ := hw_bs hm
  obtain ⟨h737, ht737⟩ := hw_rv_of g737
  rw [h737]
  obtain ⟨v737, σ737, e737, hm⟩ := hw_bs2 hm
  refine hw_cWI (va_runV (As := [.int v736]) (rest := [.int v728]) ⟨hx, hb, hml, hown, hts⟩ (c12_want l D b e737) (cwV 1 hts (hw_gV hw_m753 hw_m754 hw_m755 hw_m5 hw_m756) rfl rfl rfl (by decide +kernel) ⟨(Nat.le_of_ble_eq_true rfl), (Nat.le_of_ble_eq_true rfl)⟩) (hw_preV (ci := 12) hE hR rfl (by decide) (hw_q_of ht737)) rfl rfl hl.sz rfl (lv_room (Nat.le_of_ble_eq_true rfl)) dL_law_737 ⟨(by have h9 : room_1.cells = 600000 := rfl; have h8 : room_1.slots = 7302250 := rfl; omega), (by have h9 : room_1.cells = 600000 := rfl; have h8 : room_1.slots = 7302250 := rfl; omega)⟩) hS (fun _ _ hR hS => ?_)
  refine lv_icmp_eq (tgt := 1292) hx hb dL_law_740 (by decide) (fun c740 => ?_) (fun c740 => ?_)
  · have hm := hw_ip hm c740
    refine W.widen (k := 55 + j * 4 + 4) (n := 5876 + j * 348 + 348) (by omega) (by omega) ?_
    exact wL_b1292 C0 hG hj hk18 hm hR hS (hl.sub [0, 1, 2, 3] rfl)
  · have hm := hw_in hm c740
    refine lv_iconst (v := 0) hx hb dL_law_743 (by decide) ?_
    exact hw_lret hx hb hr hlk hS hbs (by omega) (by omega) hm dL_law_744
set_option maxRecDepth 100000 in
theorem wL_b745 {p : Program} {e : Env} {s : State} {m : MethodId} {below : List Frame} {meth : Method} {c : Code} {D : hw_D} {l : Launch} {b scr N : Nat} {xs : Nat → Int32} {g : hw_Sd} {k18 : Option Nat → Option Nat → Int32 → hw_S → Option (Int32 × hw_S)} {τ : hw_S} (C0 : hw_CL p s m meth c D b scr N xs) (hG : hw_G g b s s.heap) {j n : Nat} (hj : j + (n + 1) = 513) (hk18 : ∀ {l1 : Option Nat} {l2 : Option Nat} {l3 : Int32} {σ : hw_S} {H : Heap} {locs : List Loc} {ls : Array Slot}, k18 l1 l2 l3 σ = some (1, τ) → hw_R D b σ H → va_S (fun q => b ≤ q) s.heap H locs → hw_L ls 4 255 [(0, .ref scr), (1, hw_vr b l1), (2, hw_vr b l2), (3, .int l3)] → W p l e room_1 s m #[Value.ref scr] below meth c H locs (55 + (j + 1) * 4 + 0) (5876 + (j + 1) * 348 + 0) (lw_Z below #[Value.ref scr] s) (F0 m 18 ls [])) {l1 : Option Nat} {l2 : Option Nat} {l3 : Int32} {σ : hw_S} {H : Heap} {locs : List Loc} (hm : mL_b745 xs N k18 l1 l2 l3 σ = some (1, τ)) (hR : hw_R D b σ H) (hS : va_S (fun q => b ≤ q) s.heap H locs) {ls : Array Slot} (hl : hw_L ls 4 255 [(0, .ref scr), (1, hw_vr b l1), (2, hw_vr b l2), (3, .int l3)]) : W p l e room_1 s m #[Value.ref scr] below meth c H locs (55 + j * 4 + 0) (5876 + j * 348 + 0) (lw_Z below #[Value.ref scr] s) (F0 m 745 ls []) := by
  obtain ⟨hx, hb, hml, hr, hown, hts, hlk, hE, hbs, hsb, hX⟩ := id C0
  have hown : s.vm.findClass RL = some m.cls := hown
  have hK := hE.1
  have hsz : scr < s.heap.size := by omega
  unfold mL_b745 at hm
  refine hw_aload_n hx hb dL_law_745 rfl (hl.at 1 rfl) ?_
  refine lv_aload_n hx hb dL_law_746 rfl (hl.at 0 rfl) ?_
  refine lv_iload_n hx hb dL_law_747 rfl (hl.at 3 rfl) ?_
  refine lv_iconst (v := 1) hx hb dL_law_748 (by decide) ?_
  refine lv_iadd hx hb dL_law_749 ?_
  obtain ⟨v750, e750, hm⟩ := hw_bs hm
  refine hw_sxr hx hb hX hS hsb hsz e750 dL_law_750 ?_
  refine lv_aload_n hx hb dL_law_751 rfl (hl.at 0 rfl) ?_
  refine lv_iload_n hx hb dL_law_752 rfl (hl.at 3 rfl) ?_
  refine lv_iconst (v := 2) hx hb dL_law_753 (by decide) ?_
  refine lv_iadd hx hb dL_law_754 ?_
  obtain ⟨v755, e755, hm⟩ := hw_bs hm
  refine hw_sxr hx hb hX hS hsb hsz e755 dL_law_755 ?_
  refine lv_aload_n hx hb dL_law_756 rfl (hl.at 0 rfl) ?_
  refine lv_iload_n hx hb dL_law_757 rfl (hl.at 3 rfl) ?_
  refine lv_iconst (v := 3) hx hb dL_law_758 (by decide) ?_
  refine lv_iadd hx hb dL_law_759 ?_
  obtain ⟨v760, e760, hm⟩ := hw_bs hm
  refine hw_sxr hx hb hX hS hsb hsz e760 dL_law_760 ?_
  refine lv_aload_n hx hb dL_law_761 rfl (hl.at 0 rfl) ?_
  refine lv_iload_n hx hb dL_law_762 rfl (hl.at 3 rfl) ?_
  refine lv_iconst (v := 4) hx hb dL_law_763 (by decide) ?_
  refine lv_iadd hx hb dL_law_764 ?_
  obtain ⟨v765, e765, hm⟩ := hw_bs hm
  refine hw_sxr hx hb hX hS hsb hsz e765 dL_law_765 ?_
  refine lv_aload_n hx hb dL_law_766 rfl (hl.at 0 rfl) ?_
  refine lv_iload_n hx hb dL_law_767 rfl (hl.at 3 rfl) ?_
  refine lv_iconst (v := 5) hx hb dL_law_768 (by decide) ?_
  refine lv_iadd hx hb dL_law_769 ?_
  obtain ⟨v770, e770, hm⟩ := hw_bs hm
  refine hw_sxr hx hb hX hS hsb hsz e770 dL_law_770 ?_
  obtain ⟨a771, g771, hm⟩ := hw_bs hm
  obtain ⟨h771, ht771⟩ := hw_rv_of g771
  rw [h771]
  obtain ⟨v771, σ771, e771, hm⟩ := hw_bs2 hm
  refine hw_cWI (va_runV (As := [.int v750, .int v755, .int v760, .int v765, .int v770]) (rest := []) ⟨hx, hb, hml, hown, hts⟩ (c11_found l D b e771) (cwV 5 hts (hw_gV hw_m757 hw_m758 hw_m759 hw_m2 hw_m760) rfl rfl rfl (by decide +kernel) ⟨(Nat.le_of_ble_eq_true rfl), (Nat.le_of_ble_eq_true rfl)⟩) (hw_preV (ci := 11) hE hR rfl (by decide) (hw_q_of ht771)) rfl rfl hl.sz rfl (lv_room (Nat.le_of_ble_eq_true rfl)) dL_law_771 ⟨(by have h9 : room_1.cells = 600000 := rfl; have h8 : room_1.slots = 7302250 := rfl; omega), (by have h9 : room_1.cells = 600000 := rfl; have h8 : room_1.slots = 7302250 := rfl; omega)⟩) hS (fun _ _ hR hS => ?_)
  refine hw_aload_n hx hb dL_law_774 rfl (hl.at 2 rfl) ?_
  refine lv_aload_n hx hb dL_law_775 rfl (hl.at 0 rfl) ?_
  refine lv_iload_n hx hb dL_law_776 rfl (hl.at 3 rfl) ?_
  refine lv_iconst (v := 1) hx hb dL_law_777 (by decide) ?_
  refine lv_iadd hx hb dL_law_778 ?_
  obtain ⟨v779, e779, hm⟩ := hw_bs hm
  refine hw_sxr hx hb hX hS hsb hsz e779 dL_law_779 ?_
  refine lv_aload_n hx hb dL_law_780 rfl (hl.at 0 rfl) ?_
  refine lv_iload_n hx hb dL_law_781 rfl (hl.at 3 rfl) ?_
  refine lv_iconst (v := 2) hx hb dL_law_782 (by decide) ?_
  refine lv_iadd hx hb dL_law_783 ?_
  obtain ⟨v784, e784, hm⟩ := hw_bs hm
  refine hw_sxr hx hb hX hS hsb hsz e784 dL_law_784 ?_
  refine lv_aload_n hx hb dL_law_785 rfl (hl.at 0 rfl) ?_
  refine lv_iload_n hx hb dL_law_786 rfl (hl.at 3 rfl) ?_
  refine lv_iconst (v := 3) hx hb dL_law_787 (by decide) ?_
  refine lv_iadd hx hb dL_law_788 ?_
  obtain ⟨v789, e789, hm⟩ := hw_bs hm
  refine hw_sxr hx hb hX hS hsb hsz e789 dL_law_789 ?_
  refine lv_aload_n hx hb dL_law_790 rfl (hl.at 0 rfl) ?_
  refine lv_iload_n hx hb dL_law_791 rfl (hl.at 3 rfl) ?_
  refine lv_iconst (v := 4) hx hb dL_law_792 (by decide) ?_
  refine lv_iadd hx hb dL_law_793 ?_
  obtain ⟨v794, e794, hm⟩ := hw_bs hm
  refine hw_sxr hx hb hX hS hsb hsz e794 dL_law_794 ?_
  refine lv_aload_n hx hb dL_law_795 rfl (hl.at 0 rfl) ?_
  refine lv_iload_n hx hb dL_law_796 rfl (hl.at 3 rfl) ?_
  refine lv_iconst (v := 5) hx hb dL_law_797 (by decide) ?_
  refine lv_iadd hx hb dL_law_798 ?_
  obtain ⟨v799, e799, hm⟩ := hw_bs hm
  refine hw_sxr hx hb hX hS hsb hsz e799 dL_law_799 ?_
  obtain ⟨a800, g800, hm⟩ := hw_bs hm
  obtain ⟨h800, ht800⟩ := hw_rv_of g800
  rw [h800]
  obtain ⟨v800, σ800, e800, hm⟩ := hw_bs2 hm
  refine hw_cWI (va_runV (As := [.int v779, .int v784, .int v789, .int v794, .int v799]) (rest := [.int v771]) ⟨hx, hb, hml, hown, hts⟩ (c12_found l D b e800) (cwV 5 hts (hw_gV hw_m782 hw_m783 hw_m784 hw_m5 hw_m785) rfl rfl rfl (by decide +kernel) ⟨(Nat.le_of_ble_eq_true rfl), (Nat.le_of_ble_eq_true rfl)⟩) (hw_preV (ci := 12) hE hR rfl (by decide) (hw_q_of ht800)) rfl rfl hl.sz rfl (lv_room (Nat.le_of_ble_eq_true rfl)) dL_law_800 ⟨(by have h9 : room_1.cells = 600000 := rfl; have h8 : room_1.slots = 7302250 := rfl; omega), (by have h9 : room_1.cells = 600000 := rfl; have h8 : room_1.slots = 7302250 := rfl; omega)⟩) hS (fun _ _ hR hS => ?_)
  refine lv_icmp_eq (tgt := 1292) hx hb dL_law_803 (by decide) (fun c803 => ?_) (fun c803 => ?_)
  · have hm := hw_ip hm c803
    refine W.widen (k := 55 + j * 4 + 4) (n := 5876 + j * 348 + 348) (by omega) (by omega) ?_
    exact wL_b1292 C0 hG hj hk18 hm hR hS (hl.sub [0, 1, 2, 3] rfl)
  · have hm := hw_in hm c803
    refine lv_iconst (v := 0) hx hb dL_law_806 (by decide) ?_
    exact hw_lret hx hb hr hlk hS hbs (by omega) (by omega) hm dL_law_807
set_option maxRecDepth 100000 in
theorem wL_b808 {p : Program} {e : Env} {s : State} {m : MethodId} {below : List Frame} {meth : Method} {c : Code} {D : hw_D} {l : Launch} {b scr N : Nat} {xs : Nat → Int32} {g : hw_Sd} {k18 : Option Nat → Option Nat → Int32 → hw_S → Option (Int32 × hw_S)} {τ : hw_S} (C0 : hw_CL p s m meth c D b scr N xs) (hG : hw_G g b s s.heap) {j n : Nat} (hj : j + (n + 1) = 513) (hk18 : ∀ {l1 : Option Nat} {l2 : Option Nat} {l3 : Int32} {σ : hw_S} {H : Heap} {locs : List Loc} {ls : Array Slot}, k18 l1 l2 l3 σ = some (1, τ) → hw_R D b σ H → va_S (fun q => b ≤ q) s.heap H locs → hw_L ls 4 255 [(0, .ref scr), (1, hw_vr b l1), (2, hw_vr b l2), (3, .int l3)] → W p l e room_1 s m #[Value.ref scr] below meth c H locs (55 + (j + 1) * 4 + 0) (5876 + (j + 1) * 348 + 0) (lw_Z below #[Value.ref scr] s) (F0 m 18 ls [])) {l1 : Option Nat} {l2 : Option Nat} {l3 : Int32} {σ : hw_S} {H : Heap} {locs : List Loc} (hm : mL_b808 xs N k18 l1 l2 l3 σ = some (1, τ)) (hR : hw_R D b σ H) (hS : va_S (fun q => b ≤ q) s.heap H locs) {ls : Array Slot} (hl : hw_L ls 4 255 [(0, .ref scr), (1, hw_vr b l1), (2, hw_vr b l2), (3, .int l3)]) : W p l e room_1 s m #[Value.ref scr] below meth c H locs (55 + j * 4 + 0) (5876 + j * 348 + 0) (lw_Z below #[Value.ref scr] s) (F0 m 808 ls []) := by
  obtain ⟨hx, hb, hml, hr, hown, hts, hlk, hE, hbs, hsb, hX⟩ := id C0
  have hown : s.vm.findClass RL = some m.cls := hown
  have hK := hE.1
  have hsz : scr < s.heap.size := by omega
  unfold mL_b808 at hm
  refine hw_aload_n hx hb dL_law_808 rfl (hl.at 1 rfl) ?_
  refine lv_aload_n hx hb dL_law_809 rfl (hl.at 0 rfl) ?_
  refine lv_iload_n hx hb dL_law_810 rfl (hl.at 3 rfl) ?_
  refine lv_iconst (v := 1) hx hb dL_law_811 (by decide) ?_
  refine lv_iadd hx hb dL_law_812 ?_
  obtain ⟨v813, e813, hm⟩ := hw_bs hm
  refine hw_sxr hx hb hX hS hsb hsz e813 dL_law_813 ?_
  refine lv_aload_n hx hb dL_law_814 rfl (hl.at 0 rfl) ?_
  refine lv_iload_n hx hb dL_law_815 rfl (hl.at 3 rfl) ?_
  refine lv_iconst (v := 2) hx hb dL_law_816 (by decide) ?_
  refine lv_iadd hx hb dL_law_817 ?_
  obtain ⟨v818, e818, hm⟩ := hw_bs hm
  refine hw_sxr hx hb hX hS hsb hsz e818 dL_law_818 ?_
  refine lv_aload_n hx hb dL_law_819 rfl (hl.at 0 rfl) ?_
  refine lv_iload_n hx hb dL_law_820 rfl (hl.at 3 rfl) ?_
  refine lv_iconst (v := 3) hx hb dL_law_821 (by decide) ?_
  refine lv_iadd hx hb dL_law_822 ?_
  obtain ⟨v823, e823, hm⟩ := hw_bs hm
  refine hw_sxr hx hb hX hS hsb hsz e823 dL_law_823 ?_
  refine lv_aload_n hx hb dL_law_824 rfl (hl.at 0 rfl) ?_
  refine lv_iload_n hx hb dL_law_825 rfl (hl.at 3 rfl) ?_
  refine lv_iconst (v := 4) hx hb dL_law_826 (by decide) ?_
  refine lv_iadd hx hb dL_law_827 ?_
  obtain ⟨v828, e828, hm⟩ := hw_bs hm
  refine hw_sxr hx hb hX hS hsb hsz e828 dL_law_828 ?_
  obtain ⟨a829, g829, hm⟩ := hw_bs hm
  obtain ⟨h829, ht829⟩ := hw_rv_of g829
  rw [h829]
  obtain ⟨v829, e829, hm⟩ := hw_bs hm
  refine hw_cRI (va_runV (As := [.int v813, .int v818, .int v823, .int v828]) (rest := []) ⟨hx, hb, hml, hown, hts⟩ (c11_bears l D b e829) (cwV 4 hts (hw_gV hw_m790 hw_m791 hw_m792 hw_m2 hw_m793) rfl rfl rfl (by decide +kernel) ⟨(Nat.le_of_ble_eq_true rfl), (Nat.le_of_ble_eq_true rfl)⟩) (hw_preV (ci := 11) hE hR rfl (by decide) (hw_q_of ht829)) rfl rfl hl.sz rfl (lv_room (Nat.le_of_ble_eq_true rfl)) dL_law_829 ⟨(by have h9 : room_1.cells = 600000 := rfl; have h8 : room_1.slots = 7302250 := rfl; omega), (by have h9 : room_1.cells = 600000 := rfl; have h8 : room_1.slots = 7302250 := rfl; omega)⟩) ?_
  refine hw_aload_n hx hb dL_law_832 rfl (hl.at 2 rfl) ?_
  refine lv_aload_n hx hb dL_law_833 rfl (hl.at 0 rfl) ?_
  refine lv_iload_n hx hb dL_law_834 rfl (hl.at 3 rfl) ?_
  refine lv_iconst (v := 1) hx hb dL_law_835 (by decide) ?_
  refine lv_iadd hx hb dL_law_836 ?_
  obtain ⟨v837, e837, hm⟩ := hw_bs hm
  refine hw_sxr hx hb hX hS hsb hsz e837 dL_law_837 ?_
  refine lv_aload_n hx hb dL_law_838 rfl (hl.at 0 rfl) ?_
  refine lv_iload_n hx hb dL_law_839 rfl (hl.at 3 rfl) ?_
  refine lv_iconst (v := 2) hx hb dL_law_840 (by decide) ?_
  refine lv_iadd hx hb dL_law_841 ?_
  obtain ⟨v842, e842, hm⟩ := hw_bs hm
  refine hw_sxr hx hb hX hS hsb hsz e842 dL_law_842 ?_
  refine lv_aload_n hx hb dL_law_843 rfl (hl.at 0 rfl) ?_
  refine lv_iload_n hx hb dL_law_844 rfl (hl.at 3 rfl) ?_
  refine lv_iconst (v := 3) hx hb dL_law_845 (by decide) ?_
  refine lv_iadd hx hb dL_law_846 ?_
  obtain ⟨v847, e847, hm⟩ := hw_bs hm
  refine hw_sxr hx hb hX hS hsb hsz e847 dL_law_847 ?_
  refine lv_aload_n hx hb dL_law_848 rfl (hl.at 0 rfl) ?_
  refine lv_iload_n hx hb dL_law_849 rfl (hl.at 3 rfl) ?_
  refine lv_iconst (v := 4) hx hb dL_law_850 (by decide) ?_
  refine lv_iadd hx hb dL_law_851 ?_
  obtain ⟨v852, e852, hm⟩ := hw_bs hm
  refine hw_sxr hx hb hX hS hsb hsz e852 dL_law_852 ?_
  obtain ⟨a853, g853, hm⟩ := hw_bs hm
  obtain ⟨h853, ht853⟩ := hw_rv_of g853
  rw [h853]
  obtain ⟨v853, σ853, e853, hm⟩ := hw_bs2 hm
  refine hw_cWI (va_runV (As := [.int v837, .int v842, .int v847, .int v852]) (rest := [.int v829]) ⟨hx, hb, hml, hown, hts⟩ (c12_bears l D b e853) (cwV 4 hts (hw_gV hw_m797 hw_m798 hw_m799 hw_m5 hw_m800) rfl rfl rfl (by decide +kernel) ⟨(Nat.le_of_ble_eq_true rfl), (Nat.le_of_ble_eq_true rfl)⟩) (hw_preV (ci := 12) hE hR rfl (by decide) (hw_q_of ht853)) rfl rfl hl.sz rfl (lv_room (Nat.le_of_ble_eq_true rfl)) dL_law_853 ⟨(by have h9 : room_1.cells = 600000 := rfl; have h8 : room_1.slots = 7302250 := rfl; omega), (by have h9 : room_1.cells = 600000 := rfl; have h8 : room_1.slots = 7302250 := rfl; omega)⟩) hS (fun _ _ hR hS => ?_)
  refine lv_icmp_eq (tgt := 1292) hx hb dL_law_856 (by decide) (fun c856 => ?_) (fun c856 => ?_)
  · have hm := hw_ip hm c856
    refine W.widen (k := 55 + j * 4 + 4) (n := 5876 + j * 348 + 348) (by omega) (by omega) ?_
    exact wL_b1292 C0 hG hj hk18 hm hR hS (hl.sub [0, 1, 2, 3] rfl)
  · have hm := hw_in hm c856
    refine lv_iconst (v := 0) hx hb dL_law_859 (by decide) ?_
    exact hw_lret hx hb hr hlk hS hbs (by omega) (by omega) hm dL_law_860
set_option maxRecDepth 100000 in
theorem wL_b861 {p : Program} {e : Env} {s : State} {m : MethodId} {below : List Frame} {meth : Method} {c : Code} {D : hw_D} {l : Launch} {b scr N : Nat} {xs : Nat → Int32} {g : hw_Sd} {k18 : Option Nat → Option Nat → Int32 → hw_S → Option (Int32 × hw_S)} {τ : hw_S} (C0 : hw_CL p s m meth c D b scr N xs) (hG : hw_G g b s s.heap) {j n : Nat} (hj : j + (n + 1) = 513) (hk18 : ∀ {l1 : Option Nat} {l2 : Option Nat} {l3 : Int32} {σ : hw_S} {H : Heap} {locs : List Loc} {ls : Array Slot}, k18 l1 l2 l3 σ = some (1, τ) → hw_R D b σ H → va_S (fun q => b ≤ q) s.heap H locs → hw_L ls 4 255 [(0, .ref scr), (1, hw_vr b l1), (2, hw_vr b l2), (3, .int l3)] → W p l e room_1 s m #[Value.ref scr] below meth c H locs (55 + (j + 1) * 4 + 0) (5876 + (j + 1) * 348 + 0) (lw_Z below #[Value.ref scr] s) (F0 m 18 ls [])) {l1 : Option Nat} {l2 : Option Nat} {l3 : Int32} {σ : hw_S} {H : Heap} {locs : List Loc} (hm : mL_b861 xs N k18 l1 l2 l3 σ = some (1, τ)) (hR : hw_R D b σ H) (hS : va_S (fun q => b ≤ q) s.heap H locs) {ls : Array Slot} (hl : hw_L ls 4 255 [(0, .ref scr), (1, hw_vr b l1), (2, hw_vr b l2), (3, .int l3)]) : W p l e room_1 s m #[Value.ref scr] below meth c H locs (55 + j * 4 + 0) (5876 + j * 348 + 0) (lw_Z below #[Value.ref scr] s) (F0 m 861 ls []) := by
  obtain ⟨hx, hb, hml, hr, hown, hts, hlk, hE, hbs, hsb, hX⟩ := id C0
  have hown : s.vm.findClass RL = some m.cls := hown
  have hK := hE.1
  have hsz : scr < s.heap.size := by omega
  unfold mL_b861 at hm
  refine hw_aload_n hx hb dL_law_861 rfl (hl.at 1 rfl) ?_
  refine lv_aload_n hx hb dL_law_862 rfl (hl.at 0 rfl) ?_
  refine lv_iload_n hx hb dL_law_863 rfl (hl.at 3 rfl) ?_
  refine lv_iconst (v := 1) hx hb dL_law_864 (by decide) ?_
  refine lv_iadd hx hb dL_law_865 ?_
  obtain ⟨v866, e866, hm⟩ := hw_bs hm
  refine hw_sxr hx hb hX hS hsb hsz e866 dL_law_866 ?_
  refine lv_aload_n hx hb dL_law_867 rfl (hl.at 0 rfl) ?_
  refine lv_iload_n hx hb dL_law_868 rfl (hl.at 3 rfl) ?_
  refine lv_iconst (v := 2) hx hb dL_law_869 (by decide) ?_
  refine lv_iadd hx hb dL_law_870 ?_
  obtain ⟨v871, e871, hm⟩ := hw_bs hm
  refine hw_sxr hx hb hX hS hsb hsz e871 dL_law_871 ?_
  refine lv_aload_n hx hb dL_law_872 rfl (hl.at 0 rfl) ?_
  refine lv_iload_n hx hb dL_law_873 rfl (hl.at 3 rfl) ?_
  refine lv_iconst (v := 3) hx hb dL_law_874 (by decide) ?_
  refine lv_iadd hx hb dL_law_875 ?_
  obtain ⟨v876, e876, hm⟩ := hw_bs hm
  refine hw_sxr hx hb hX hS hsb hsz e876 dL_law_876 ?_
  obtain ⟨a877, g877, hm⟩ := hw_bs hm
  obtain ⟨h877, ht877⟩ := hw_rv_of g877
  rw [h877]
  obtain ⟨v877, σ877, e877, hm⟩ := hw_bs2 hm
  refine hw_cWI (va_runV (As := [.int v866, .int v871, .int v876]) (rest := []) ⟨hx, hb, hml, hown, hts⟩ (c11_film l D b e877) (cwV 3 hts (hw_gV hw_m805 hw_m806 hw_m807 hw_m2 hw_m808) rfl rfl rfl (by decide +kernel) ⟨(Nat.le_of_ble_eq_true rfl), (Nat.le_of_ble_eq_true rfl)⟩) (hw_preV (ci := 11) hE hR rfl (by decide) (hw_q_of ht877)) rfl rfl hl.sz rfl (lv_room (Nat.le_of_ble_eq_true rfl)) dL_law_877 ⟨(by have h9 : room_1.cells = 600000 := rfl; have h8 : room_1.slots = 7302250 := rfl; omega), (by have h9 : room_1.cells = 600000 := rfl; have h8 : room_1.slots = 7302250 := rfl; omega)⟩) hS (fun _ _ hR hS => ?_)
  refine hw_aload_n hx hb dL_law_880 rfl (hl.at 2 rfl) ?_
  refine lv_aload_n hx hb dL_law_881 rfl (hl.at 0 rfl) ?_
  refine lv_iload_n hx hb dL_law_882 rfl (hl.at 3 rfl) ?_
  refine lv_iconst (v := 1) hx hb dL_law_883 (by decide) ?_
  refine lv_iadd hx hb dL_law_884 ?_
  obtain ⟨v885, e885, hm⟩ := hw_bs hm
  refine hw_sxr hx hb hX hS hsb hsz e885 dL_law_885 ?_
  refine lv_aload_n hx hb dL_law_886 rfl (hl.at 0 rfl) ?_
  refine lv_iload_n hx hb dL_law_887 rfl (hl.at 3 rfl) ?_
  refine lv_iconst (v := 2) hx hb dL_law_888 (by decide) ?_
  refine lv_iadd hx hb dL_law_889 ?_
  obtain ⟨v890, e890, hm⟩ := hw_bs hm
  refine hw_sxr hx hb hX hS hsb hsz e890 dL_law_890 ?_
  refine lv_aload_n hx hb dL_law_891 rfl (hl.at 0 rfl) ?_
  refine lv_iload_n hx hb dL_law_892 rfl (hl.at 3 rfl) ?_
  refine lv_iconst (v := 3) hx hb dL_law_893 (by decide) ?_
  refine lv_iadd hx hb dL_law_894 ?_
  obtain ⟨v895, e895, hm⟩ := hw_bs hm
  refine hw_sxr hx hb hX hS hsb hsz e895 dL_law_895 ?_
  obtain ⟨a896, g896, hm⟩ := hw_bs hm
  obtain ⟨h896, ht896⟩ := hw_rv_of g896
  rw [h896]
  obtain ⟨v896, σ896, e896, hm⟩ := hw_bs2 hm
  refine hw_cWI (va_runV (As := [.int v885, .int v890, .int v895]) (rest := [.int v877]) ⟨hx, hb, hml, hown, hts⟩ (c12_film l D b e896) (cwV 3 hts (hw_gV hw_m813 hw_m814 hw_m815 hw_m5 hw_m816) rfl rfl rfl (by decide +kernel) ⟨(Nat.le_of_ble_eq_true rfl), (Nat.le_of_ble_eq_true rfl)⟩) (hw_preV (ci := 12) hE hR rfl (by decide) (hw_q_of ht896)) rfl rfl hl.sz rfl (lv_room (Nat.le_of_ble_eq_true rfl)) dL_law_896 ⟨(by have h9 : room_1.cells = 600000 := rfl; have h8 : room_1.slots = 7302250 := rfl; omega), (by have h9 : room_1.cells = 600000 := rfl; have h8 : room_1.slots = 7302250 := rfl; omega)⟩) hS (fun _ _ hR hS => ?_)
  refine lv_icmp_eq (tgt := 1292) hx hb dL_law_899 (by decide) (fun c899 => ?_) (fun c899 => ?_)
  · have hm := hw_ip hm c899
    refine W.widen (k := 55 + j * 4 + 4) (n := 5876 + j * 348 + 348) (by omega) (by omega) ?_
    exact wL_b1292 C0 hG hj hk18 hm hR hS (hl.sub [0, 1, 2, 3] rfl)
  · have hm := hw_in hm c899
    refine lv_iconst (v := 0) hx hb dL_law_902 (by decide) ?_
    exact hw_lret hx hb hr hlk hS hbs (by omega) (by omega) hm dL_law_903
set_option maxRecDepth 100000 in
theorem wL_b904 {p : Program} {e : Env} {s : State} {m : MethodId} {below : List Frame} {meth : Method} {c : Code} {D : hw_D} {l : Launch} {b scr N : Nat} {xs : Nat → Int32} {g : hw_Sd} {k18 : Option Nat → Option Nat → Int32 → hw_S → Option (Int32 × hw_S)} {τ : hw_S} (C0 : hw_CL p s m meth c D b scr N xs) (hG : hw_G g b s s.heap) {j n : Nat} (hj : j + (n + 1) = 513) (hk18 : ∀ {l1 : Option Nat} {l2 : Option Nat} {l3 : Int32} {σ : hw_S} {H : Heap} {locs : List Loc} {ls : Array Slot}, k18 l1 l2 l3 σ = some (1, τ) → hw_R D b σ H → va_S (fun q => b ≤ q) s.heap H locs → hw_L ls 4 255 [(0, .ref scr), (1, hw_vr b l1), (2, hw_vr b l2), (3, .int l3)] → W p l e room_1 s m #[Value.ref scr] below meth c H locs (55 + (j + 1) * 4 + 0) (5876 + (j + 1) * 348 + 0) (lw_Z below #[Value.ref scr] s) (F0 m 18 ls [])) {l1 : Option Nat} {l2 : Option Nat} {l3 : Int32} {σ : hw_S} {H : Heap} {locs : List Loc} (hm : mL_b904 xs N k18 l1 l2 l3 σ = some (1, τ)) (hR : hw_R D b σ H) (hS : va_S (fun q => b ≤ q) s.heap H locs) {ls : Array Slot} (hl : hw_L ls 4 255 [(0, .ref scr), (1, hw_vr b l1), (2, hw_vr b l2), (3, .int l3)]) : W p l e room_1 s m #[Value.ref scr] below meth c H locs (55 + j * 4 + 0) (5876 + j * 348 + 0) (lw_Z below #[Value.ref scr] s) (F0 m 904 ls []) := by
  obtain ⟨hx, hb, hml, hr, hown, hts, hlk, hE, hbs, hsb, hX⟩ := id C0
  have hown : s.vm.findClass RL = some m.cls := hown
  have hK := hE.1
  have hsz : scr < s.heap.size := by omega
  unfold mL_b904 at hm
  refine hw_aload_n hx hb dL_law_904 rfl (hl.at 1 rfl) ?_
  refine lv_aload_n hx hb dL_law_905 rfl (hl.at 0 rfl) ?_
  refine lv_iload_n hx hb dL_law_906 rfl (hl.at 3 rfl) ?_
  refine lv_iconst (v := 1) hx hb dL_law_907 (by decide) ?_
  refine lv_iadd hx hb dL_law_908 ?_
  obtain ⟨v909, e909, hm⟩ := hw_bs hm
  refine hw_sxr hx hb hX hS hsb hsz e909 dL_law_909 ?_
  obtain ⟨a910, g910, hm⟩ := hw_bs hm
  obtain ⟨h910, ht910⟩ := hw_rv_of g910
  rw [h910]
  obtain ⟨v910, e910, hm⟩ := hw_bs hm
  refine hw_cRI (va_runV (As := [.int v909]) (rest := []) ⟨hx, hb, hml, hown, hts⟩ (c11_off l D b e910) (cwV 1 hts (hw_gV hw_m817 hw_m818 hw_m819 hw_m2 hw_m820) rfl rfl rfl (by decide +kernel) ⟨(Nat.le_of_ble_eq_true rfl), (Nat.le_of_ble_eq_true rfl)⟩) (hw_preV (ci := 11) hE hR rfl (by decide) (hw_q_of ht910)) rfl rfl hl.sz rfl (lv_room (Nat.le_of_ble_eq_true rfl)) dL_law_910 ⟨(by have h9 : room_1.cells = 600000 := rfl; have h8 : room_1.slots = 7302250 := rfl; omega), (by have h9 : room_1.cells = 600000 := rfl; have h8 : room_1.slots = 7302250 := rfl; omega)⟩) ?_
  refine hw_aload_n hx hb dL_law_913 rfl (hl.at 2 rfl) ?_
  refine lv_aload_n hx hb dL_law_914 rfl (hl.at 0 rfl) ?_
  refine lv_iload_n hx hb dL_law_915 rfl (hl.at 3 rfl) ?_
  refine lv_iconst (v := 1) hx hb dL_law_916 (by decide) ?_
  refine lv_iadd hx hb dL_law_917 ?_
  obtain ⟨v918, e918, hm⟩ := hw_bs hm
  refine hw_sxr hx hb hX hS hsb hsz e918 dL_law_918 ?_
  obtain ⟨a919, g919, hm⟩ := hw_bs hm
  obtain ⟨h919, ht919⟩ := hw_rv_of g919
  rw [h919]
  obtain ⟨v919, σ919, e919, hm⟩ := hw_bs2 hm
  refine hw_cWI (va_runV (As := [.int v918]) (rest := [.int v910]) ⟨hx, hb, hml, hown, hts⟩ (c12_off l D b e919) (cwV 1 hts (hw_gV hw_m829 hw_m830 hw_m831 hw_m5 hw_m832) rfl rfl rfl (by decide +kernel) ⟨(Nat.le_of_ble_eq_true rfl), (Nat.le_of_ble_eq_true rfl)⟩) (hw_preV (ci := 12) hE hR rfl (by decide) (hw_q_of ht919)) rfl rfl hl.sz rfl (lv_room (Nat.le_of_ble_eq_true rfl)) dL_law_919 ⟨(by have h9 : room_1.cells = 600000 := rfl; have h8 : room_1.slots = 7302250 := rfl; omega), (by have h9 : room_1.cells = 600000 := rfl; have h8 : room_1.slots = 7302250 := rfl; omega)⟩) hS (fun _ _ hR hS => ?_)
  refine lv_icmp_eq (tgt := 1292) hx hb dL_law_922 (by decide) (fun c922 => ?_) (fun c922 => ?_)
  · have hm := hw_ip hm c922
    refine W.widen (k := 55 + j * 4 + 4) (n := 5876 + j * 348 + 348) (by omega) (by omega) ?_
    exact wL_b1292 C0 hG hj hk18 hm hR hS (hl.sub [0, 1, 2, 3] rfl)
  · have hm := hw_in hm c922
    refine lv_iconst (v := 0) hx hb dL_law_925 (by decide) ?_
    exact hw_lret hx hb hr hlk hS hbs (by omega) (by omega) hm dL_law_926
set_option maxRecDepth 100000 in
theorem wL_b927 {p : Program} {e : Env} {s : State} {m : MethodId} {below : List Frame} {meth : Method} {c : Code} {D : hw_D} {l : Launch} {b scr N : Nat} {xs : Nat → Int32} {g : hw_Sd} {k18 : Option Nat → Option Nat → Int32 → hw_S → Option (Int32 × hw_S)} {τ : hw_S} (C0 : hw_CL p s m meth c D b scr N xs) (hG : hw_G g b s s.heap) {j n : Nat} (hj : j + (n + 1) = 513) (hk18 : ∀ {l1 : Option Nat} {l2 : Option Nat} {l3 : Int32} {σ : hw_S} {H : Heap} {locs : List Loc} {ls : Array Slot}, k18 l1 l2 l3 σ = some (1, τ) → hw_R D b σ H → va_S (fun q => b ≤ q) s.heap H locs → hw_L ls 4 255 [(0, .ref scr), (1, hw_vr b l1), (2, hw_vr b l2), (3, .int l3)] → W p l e room_1 s m #[Value.ref scr] below meth c H locs (55 + (j + 1) * 4 + 0) (5876 + (j + 1) * 348 + 0) (lw_Z below #[Value.ref scr] s) (F0 m 18 ls [])) {l1 : Option Nat} {l2 : Option Nat} {l3 : Int32} {σ : hw_S} {H : Heap} {locs : List Loc} (hm : mL_b927 xs N k18 l1 l2 l3 σ = some (1, τ)) (hR : hw_R D b σ H) (hS : va_S (fun q => b ≤ q) s.heap H locs) {ls : Array Slot} (hl : hw_L ls 4 255 [(0, .ref scr), (1, hw_vr b l1), (2, hw_vr b l2), (3, .int l3)]) : W p l e room_1 s m #[Value.ref scr] below meth c H locs (55 + j * 4 + 0) (5876 + j * 348 + 0) (lw_Z below #[Value.ref scr] s) (F0 m 927 ls []) := by
  obtain ⟨hx, hb, hml, hr, hown, hts, hlk, hE, hbs, hsb, hX⟩ := id C0
  have hown : s.vm.findClass RL = some m.cls := hown
  have hK := hE.1
  have hsz : scr < s.heap.size := by omega
  unfold mL_b927 at hm
  refine hw_aload_n hx hb dL_law_927 rfl (hl.at 1 rfl) ?_
  obtain ⟨a928, g928, hm⟩ := hw_bs hm
  obtain ⟨h928, ht928⟩ := hw_rv_of g928
  rw [h928]
  obtain ⟨v928, e928, hm⟩ := hw_bs hm
  refine hw_cRI (va_runV (As := []) (rest := []) ⟨hx, hb, hml, hown, hts⟩ (c11_which l D b e928) (cwV 0 hts (hw_gV hw_m841 hw_m842 hw_m843 hw_m2 hw_m844) rfl rfl rfl (by decide +kernel) ⟨(Nat.le_of_ble_eq_true rfl), (Nat.le_of_ble_eq_true rfl)⟩) (hw_preV (ci := 11) hE hR rfl (by decide) (hw_q_of ht928)) rfl rfl hl.sz rfl (lv_room (Nat.le_of_ble_eq_true rfl)) dL_law_928 ⟨(by have h9 : room_1.cells = 600000 := rfl; have h8 : room_1.slots = 7302250 := rfl; omega), (by have h9 : room_1.cells = 600000 := rfl; have h8 : room_1.slots = 7302250 := rfl; omega)⟩) ?_
  refine hw_aload_n hx hb dL_law_931 rfl (hl.at 2 rfl) ?_
  obtain ⟨a932, g932, hm⟩ := hw_bs hm
  obtain ⟨h932, ht932⟩ := hw_rv_of g932
  rw [h932]
  obtain ⟨v932, σ932, e932, hm⟩ := hw_bs2 hm
  refine hw_cWI (va_runV (As := []) (rest := [.int v928]) ⟨hx, hb, hml, hown, hts⟩ (c12_which l D b e932) (cwV 0 hts (hw_gV hw_m845 hw_m846 hw_m847 hw_m5 hw_m848) rfl rfl rfl (by decide +kernel) ⟨(Nat.le_of_ble_eq_true rfl), (Nat.le_of_ble_eq_true rfl)⟩) (hw_preV (ci := 12) hE hR rfl (by decide) (hw_q_of ht932)) rfl rfl hl.sz rfl (lv_room (Nat.le_of_ble_eq_true rfl)) dL_law_932 ⟨(by have h9 : room_1.cells = 600000 := rfl; have h8 : room_1.slots = 7302250 := rfl; omega), (by have h9 : room_1.cells = 600000 := rfl; have h8 : room_1.slots = 7302250 := rfl; omega)⟩) hS (fun _ _ hR hS => ?_)
  refine lv_icmp_eq (tgt := 1292) hx hb dL_law_935 (by decide) (fun c935 => ?_) (fun c935 => ?_)
  · have hm := hw_ip hm c935
    refine W.widen (k := 55 + j * 4 + 4) (n := 5876 + j * 348 + 348) (by omega) (by omega) ?_
    exact wL_b1292 C0 hG hj hk18 hm hR hS (hl.sub [0, 1, 2, 3] rfl)
  · have hm := hw_in hm c935
    refine lv_iconst (v := 0) hx hb dL_law_938 (by decide) ?_
    exact hw_lret hx hb hr hlk hS hbs (by omega) (by omega) hm dL_law_939
set_option maxRecDepth 100000 in
theorem wL_b940 {p : Program} {e : Env} {s : State} {m : MethodId} {below : List Frame} {meth : Method} {c : Code} {D : hw_D} {l : Launch} {b scr N : Nat} {xs : Nat → Int32} {g : hw_Sd} {k18 : Option Nat → Option Nat → Int32 → hw_S → Option (Int32 × hw_S)} {τ : hw_S} (C0 : hw_CL p s m meth c D b scr N xs) (hG : hw_G g b s s.heap) {j n : Nat} (hj : j + (n + 1) = 513) (hk18 : ∀ {l1 : Option Nat} {l2 : Option Nat} {l3 : Int32} {σ : hw_S} {H : Heap} {locs : List Loc} {ls : Array Slot}, k18 l1 l2 l3 σ = some (1, τ) → hw_R D b σ H → va_S (fun q => b ≤ q) s.heap H locs → hw_L ls 4 255 [(0, .ref scr), (1, hw_vr b l1), (2, hw_vr b l2), (3, .int l3)] → W p l e room_1 s m #[Value.ref scr] below meth c H locs (55 + (j + 1) * 4 + 0) (5876 + (j + 1) * 348 + 0) (lw_Z below #[Value.ref scr] s) (F0 m 18 ls [])) {l1 : Option Nat} {l2 : Option Nat} {l3 : Int32} {σ : hw_S} {H : Heap} {locs : List Loc} (hm : mL_b940 xs N k18 l1 l2 l3 σ = some (1, τ)) (hR : hw_R D b σ H) (hS : va_S (fun q => b ≤ q) s.heap H locs) {ls : Array Slot} (hl : hw_L ls 4 255 [(0, .ref scr), (1, hw_vr b l1), (2, hw_vr b l2), (3, .int l3)]) : W p l e room_1 s m #[Value.ref scr] below meth c H locs (55 + j * 4 + 0) (5876 + j * 348 + 0) (lw_Z below #[Value.ref scr] s) (F0 m 940 ls []) := by
  obtain ⟨hx, hb, hml, hr, hown, hts, hlk, hE, hbs, hsb, hX⟩ := id C0
  have hown : s.vm.findClass RL = some m.cls := hown
  have hK := hE.1
  have hsz : scr < s.heap.size := by omega
  unfold mL_b940 at hm
  refine hw_aload_n hx hb dL_law_940 rfl (hl.at 1 rfl) ?_
  refine lv_aload_n hx hb dL_law_941 rfl (hl.at 0 rfl) ?_
  refine lv_iload_n hx hb dL_law_942 rfl (hl.at 3 rfl) ?_
  refine lv_iconst (v := 1) hx hb dL_law_943 (by decide) ?_
  refine lv_iadd hx hb dL_law_944 ?_
  obtain ⟨v945, e945, hm⟩ := hw_bs hm
  refine hw_sxr hx hb hX hS hsb hsz e945 dL_law_945 ?_
  refine lv_aload_n hx hb dL_law_946 rfl (hl.at 0 rfl) ?_
  refine lv_iload_n hx hb dL_law_947 rfl (hl.at 3 rfl) ?_
  refine lv_iconst (v := 2) hx hb dL_law_948 (by decide) ?_
  refine lv_iadd hx hb dL_law_949 ?_
  obtain ⟨v950, e950, hm⟩ := hw_bs hm
  refine hw_sxr hx hb hX hS hsb hsz e950 dL_law_950 ?_
  obtain ⟨a951, g951, hm⟩ := hw_bs hm
  obtain ⟨h951, ht951⟩ := hw_rv_of g951
  rw [h951]
  obtain ⟨v951, e951, hm⟩ := hw_bs hm
  refine hw_cRI (va_runV (As := [.int v945, .int v950]) (rest := []) ⟨hx, hb, hml, hown, hts⟩ (c11_fits l D b e951) (cwV 2 hts (hw_gV hw_m849 hw_m850 hw_m851 hw_m2 hw_m852) rfl rfl rfl (by decide +kernel) ⟨(Nat.le_of_ble_eq_true rfl), (Nat.le_of_ble_eq_true rfl)⟩) (hw_preV (ci := 11) hE hR rfl (by decide) (hw_q_of ht951)) rfl rfl hl.sz rfl (lv_room (Nat.le_of_ble_eq_true rfl)) dL_law_951 ⟨(by have h9 : room_1.cells = 600000 := rfl; have h8 : room_1.slots = 7302250 := rfl; omega), (by have h9 : room_1.cells = 600000 := rfl; have h8 : room_1.slots = 7302250 := rfl; omega)⟩) ?_
  refine hw_aload_n hx hb dL_law_954 rfl (hl.at 2 rfl) ?_
  refine lv_aload_n hx hb dL_law_955 rfl (hl.at 0 rfl) ?_
  refine lv_iload_n hx hb dL_law_956 rfl (hl.at 3 rfl) ?_
  refine lv_iconst (v := 1) hx hb dL_law_957 (by decide) ?_
  refine lv_iadd hx hb dL_law_958 ?_
  obtain ⟨v959, e959, hm⟩ := hw_bs hm
  refine hw_sxr hx hb hX hS hsb hsz e959 dL_law_959 ?_
  refine lv_aload_n hx hb dL_law_960 rfl (hl.at 0 rfl) ?_
  refine lv_iload_n hx hb dL_law_961 rfl (hl.at 3 rfl) ?_
  refine lv_iconst (v := 2) hx hb dL_law_962 (by decide) ?_
  refine lv_iadd hx hb dL_law_963 ?_
  obtain ⟨v964, e964, hm⟩ := hw_bs hm
  refine hw_sxr hx hb hX hS hsb hsz e964 dL_law_964 ?_
  obtain ⟨a965, g965, hm⟩ := hw_bs hm
  obtain ⟨h965, ht965⟩ := hw_rv_of g965
  rw [h965]
  obtain ⟨v965, σ965, e965, hm⟩ := hw_bs2 hm
  refine hw_cWI (va_runV (As := [.int v959, .int v964]) (rest := [.int v951]) ⟨hx, hb, hml, hown, hts⟩ (c12_fits l D b e965) (cwV 2 hts (hw_gV hw_m853 hw_m854 hw_m855 hw_m5 hw_m856) rfl rfl rfl (by decide +kernel) ⟨(Nat.le_of_ble_eq_true rfl), (Nat.le_of_ble_eq_true rfl)⟩) (hw_preV (ci := 12) hE hR rfl (by decide) (hw_q_of ht965)) rfl rfl hl.sz rfl (lv_room (Nat.le_of_ble_eq_true rfl)) dL_law_965 ⟨(by have h9 : room_1.cells = 600000 := rfl; have h8 : room_1.slots = 7302250 := rfl; omega), (by have h9 : room_1.cells = 600000 := rfl; have h8 : room_1.slots = 7302250 := rfl; omega)⟩) hS (fun _ _ hR hS => ?_)
  refine lv_icmp_eq (tgt := 1292) hx hb dL_law_968 (by decide) (fun c968 => ?_) (fun c968 => ?_)
  · have hm := hw_ip hm c968
    refine W.widen (k := 55 + j * 4 + 4) (n := 5876 + j * 348 + 348) (by omega) (by omega) ?_
    exact wL_b1292 C0 hG hj hk18 hm hR hS (hl.sub [0, 1, 2, 3] rfl)
  · have hm := hw_in hm c968
    refine lv_iconst (v := 0) hx hb dL_law_971 (by decide) ?_
    exact hw_lret hx hb hr hlk hS hbs (by omega) (by omega) hm dL_law_972
set_option maxRecDepth 100000 in
theorem wL_b973 {p : Program} {e : Env} {s : State} {m : MethodId} {below : List Frame} {meth : Method} {c : Code} {D : hw_D} {l : Launch} {b scr N : Nat} {xs : Nat → Int32} {g : hw_Sd} {k18 : Option Nat → Option Nat → Int32 → hw_S → Option (Int32 × hw_S)} {τ : hw_S} (C0 : hw_CL p s m meth c D b scr N xs) (hG : hw_G g b s s.heap) {j n : Nat} (hj : j + (n + 1) = 513) (hk18 : ∀ {l1 : Option Nat} {l2 : Option Nat} {l3 : Int32} {σ : hw_S} {H : Heap} {locs : List Loc} {ls : Array Slot}, k18 l1 l2 l3 σ = some (1, τ) → hw_R D b σ H → va_S (fun q => b ≤ q) s.heap H locs → hw_L ls 4 255 [(0, .ref scr), (1, hw_vr b l1), (2, hw_vr b l2), (3, .int l3)] → W p l e room_1 s m #[Value.ref scr] below meth c H locs (55 + (j + 1) * 4 + 0) (5876 + (j + 1) * 348 + 0) (lw_Z below #[Value.ref scr] s) (F0 m 18 ls [])) {l1 : Option Nat} {l2 : Option Nat} {l3 : Int32} {σ : hw_S} {H : Heap} {locs : List Loc} (hm : mL_b973 xs N k18 l1 l2 l3 σ = some (1, τ)) (hR : hw_R D b σ H) (hS : va_S (fun q => b ≤ q) s.heap H locs) {ls : Array Slot} (hl : hw_L ls 4 255 [(0, .ref scr), (1, hw_vr b l1), (2, hw_vr b l2), (3, .int l3)]) : W p l e room_1 s m #[Value.ref scr] below meth c H locs (55 + j * 4 + 0) (5876 + j * 348 + 0) (lw_Z below #[Value.ref scr] s) (F0 m 973 ls []) := by
  obtain ⟨hx, hb, hml, hr, hown, hts, hlk, hE, hbs, hsb, hX⟩ := id C0
  have hown : s.vm.findClass RL = some m.cls := hown
  have hK := hE.1
  have hsz : scr < s.heap.size := by omega
  unfold mL_b973 at hm
  refine hw_aload_n hx hb dL_law_973 rfl (hl.at 1 rfl) ?_
  refine lv_aload_n hx hb dL_law_974 rfl (hl.at 0 rfl) ?_
  refine lv_iload_n hx hb dL_law_975 rfl (hl.at 3 rfl) ?_
  refine lv_iconst (v := 1) hx hb dL_law_976 (by decide) ?_
  refine lv_iadd hx hb dL_law_977 ?_
  obtain ⟨v978, e978, hm⟩ := hw_bs hm
  refine hw_sxr hx hb hX hS hsb hsz e978 dL_law_978 ?_
  refine lv_aload_n hx hb dL_law_979 rfl (hl.at 0 rfl) ?_
  refine lv_iload_n hx hb dL_law_980 rfl (hl.at 3 rfl) ?_
  refine lv_iconst (v := 2) hx hb dL_law_981 (by decide) ?_
  refine lv_iadd hx hb dL_law_982 ?_
  obtain ⟨v983, e983, hm⟩ := hw_bs hm
  refine hw_sxr hx hb hX hS hsb hsz e983 dL_law_983 ?_
  refine lv_aload_n hx hb dL_law_984 rfl (hl.at 0 rfl) ?_
  refine lv_iload_n hx hb dL_law_985 rfl (hl.at 3 rfl) ?_
  refine lv_iconst (v := 3) hx hb dL_law_986 (by decide) ?_
  refine lv_iadd hx hb dL_law_987 ?_
  obtain ⟨v988, e988, hm⟩ := hw_bs hm
  refine hw_sxr hx hb hX hS hsb hsz e988 dL_law_988 ?_
  refine lv_aload_n hx hb dL_law_989 rfl (hl.at 0 rfl) ?_
  refine lv_iload_n hx hb dL_law_990 rfl (hl.at 3 rfl) ?_
  refine lv_iconst (v := 4) hx hb dL_law_991 (by decide) ?_
  refine lv_iadd hx hb dL_law_992 ?_
  obtain ⟨v993, e993, hm⟩ := hw_bs hm
  refine hw_sxr hx hb hX hS hsb hsz e993 dL_law_993 ?_
  refine lv_aload_n hx hb dL_law_994 rfl (hl.at 0 rfl) ?_
  refine lv_iload_n hx hb dL_law_995 rfl (hl.at 3 rfl) ?_
  refine lv_iconst (v := 5) hx hb dL_law_996 (by decide) ?_
  refine lv_iadd hx hb dL_law_997 ?_
  obtain ⟨v998, e998, hm⟩ := hw_bs hm
  refine hw_sxr hx hb hX hS hsb hsz e998 dL_law_998 ?_
  refine lv_aload_n hx hb dL_law_999 rfl (hl.at 0 rfl) ?_
  refine lv_iload_n hx hb dL_law_1000 rfl (hl.at 3 rfl) ?_
  refine lv_bipush (v := 6) hx hb dL_law_1001 (by decide) ?_
  refine lv_iadd hx hb dL_law_1003 ?_
  obtain ⟨v1004, e1004, hm⟩ := hw_bs hm
  refine hw_sxr hx hb hX hS hsb hsz e1004 dL_law_1004 ?_
  obtain ⟨a1005, g1005, hm⟩ := hw_bs hm
  obtain ⟨h1005, ht1005⟩ := hw_rv_of g1005
  rw [h1005]
  obtain ⟨v1005, σ1005, e1005, hm⟩ := hw_bs2 hm
  refine hw_cWI (va_runV (As := [.int v978, .int v983, .int v988, .int v993, .int v998, .int v1004]) (rest := []) ⟨hx, hb, hml, hown, hts⟩ (c11_read l D b e1005) (cwV 6 hts (hw_gV hw_m857 hw_m858 hw_m859 hw_m2 hw_m860) rfl rfl rfl (by decide +kernel) ⟨(Nat.le_of_ble_eq_true rfl), (Nat.le_of_ble_eq_true rfl)⟩) (hw_preV (ci := 11) hE hR rfl (by decide) (hw_q_of ht1005)) rfl rfl hl.sz rfl (lv_room (Nat.le_of_ble_eq_true rfl)) dL_law_1005 ⟨(by have h9 : room_1.cells = 600000 := rfl; have h8 : room_1.slots = 7302250 := rfl; omega), (by have h9 : room_1.cells = 600000 := rfl; have h8 : room_1.slots = 7302250 := rfl; omega)⟩) hS (fun _ _ hR hS => ?_)
  refine hw_aload_n hx hb dL_law_1008 rfl (hl.at 2 rfl) ?_
  refine lv_aload_n hx hb dL_law_1009 rfl (hl.at 0 rfl) ?_
  refine lv_iload_n hx hb dL_law_1010 rfl (hl.at 3 rfl) ?_
  refine lv_iconst (v := 1) hx hb dL_law_1011 (by decide) ?_
  refine lv_iadd hx hb dL_law_1012 ?_
  obtain ⟨v1013, e1013, hm⟩ := hw_bs hm
  refine hw_sxr hx hb hX hS hsb hsz e1013 dL_law_1013 ?_
  refine lv_aload_n hx hb dL_law_1014 rfl (hl.at 0 rfl) ?_
  refine lv_iload_n hx hb dL_law_1015 rfl (hl.at 3 rfl) ?_
  refine lv_iconst (v := 2) hx hb dL_law_1016 (by decide) ?_
  refine lv_iadd hx hb dL_law_1017 ?_
  obtain ⟨v1018, e1018, hm⟩ := hw_bs hm
  refine hw_sxr hx hb hX hS hsb hsz e1018 dL_law_1018 ?_
  refine lv_aload_n hx hb dL_law_1019 rfl (hl.at 0 rfl) ?_
  refine lv_iload_n hx hb dL_law_1020 rfl (hl.at 3 rfl) ?_
  refine lv_iconst (v := 3) hx hb dL_law_1021 (by decide) ?_
  refine lv_iadd hx hb dL_law_1022 ?_
  obtain ⟨v1023, e1023, hm⟩ := hw_bs hm
  refine hw_sxr hx hb hX hS hsb hsz e1023 dL_law_1023 ?_
  refine lv_aload_n hx hb dL_law_1024 rfl (hl.at 0 rfl) ?_
  refine lv_iload_n hx hb dL_law_1025 rfl (hl.at 3 rfl) ?_
  refine lv_iconst (v := 4) hx hb dL_law_1026 (by decide) ?_
  refine lv_iadd hx hb dL_law_1027 ?_
  obtain ⟨v1028, e1028, hm⟩ := hw_bs hm
  refine hw_sxr hx hb hX hS hsb hsz e1028 dL_law_1028 ?_
  refine lv_aload_n hx hb dL_law_1029 rfl (hl.at 0 rfl) ?_
  refine lv_iload_n hx hb dL_law_1030 rfl (hl.at 3 rfl) ?_
  refine lv_iconst (v := 5) hx hb dL_law_1031 (by decide) ?_
  refine lv_iadd hx hb dL_law_1032 ?_
  obtain ⟨v1033, e1033, hm⟩ := hw_bs hm
  refine hw_sxr hx hb hX hS hsb hsz e1033 dL_law_1033 ?_
  refine lv_aload_n hx hb dL_law_1034 rfl (hl.at 0 rfl) ?_
  refine lv_iload_n hx hb dL_law_1035 rfl (hl.at 3 rfl) ?_
  refine lv_bipush (v := 6) hx hb dL_law_1036 (by decide) ?_
  refine lv_iadd hx hb dL_law_1038 ?_
  obtain ⟨v1039, e1039, hm⟩ := hw_bs hm
  refine hw_sxr hx hb hX hS hsb hsz e1039 dL_law_1039 ?_
  obtain ⟨a1040, g1040, hm⟩ := hw_bs hm
  obtain ⟨h1040, ht1040⟩ := hw_rv_of g1040
  rw [h1040]
  obtain ⟨v1040, σ1040, e1040, hm⟩ := hw_bs2 hm
  refine hw_cWI (va_runV (As := [.int v1013, .int v1018, .int v1023, .int v1028, .int v1033, .int v1039]) (rest := [.int v1005]) ⟨hx, hb, hml, hown, hts⟩ (c12_read l D b e1040) (cwV 6 hts (hw_gV hw_m861 hw_m862 hw_m863 hw_m5 hw_m864) rfl rfl rfl (by decide +kernel) ⟨(Nat.le_of_ble_eq_true rfl), (Nat.le_of_ble_eq_true rfl)⟩) (hw_preV (ci := 12) hE hR rfl (by decide) (hw_q_of ht1040)) rfl rfl hl.sz rfl (lv_room (Nat.le_of_ble_eq_true rfl)) dL_law_1040 ⟨(by have h9 : room_1.cells = 600000 := rfl; have h8 : room_1.slots = 7302250 := rfl; omega), (by have h9 : room_1.cells = 600000 := rfl; have h8 : room_1.slots = 7302250 := rfl; omega)⟩) hS (fun _ _ hR hS => ?_)
  refine lv_icmp_eq (tgt := 1292) hx hb dL_law_1043 (by decide) (fun c1043 => ?_) (fun c1043 => ?_)
  · have hm := hw_ip hm c1043
    refine W.widen (k := 55 + j * 4 + 4) (n := 5876 + j * 348 + 348) (by omega) (by omega) ?_
    exact wL_b1292 C0 hG hj hk18 hm hR hS (hl.sub [0, 1, 2, 3] rfl)
  · have hm := hw_in hm c1043
    refine lv_iconst (v := 0) hx hb dL_law_1046 (by decide) ?_
    exact hw_lret hx hb hr hlk hS hbs (by omega) (by omega) hm dL_law_1047
set_option maxRecDepth 100000 in
theorem wL_b1048 {p : Program} {e : Env} {s : State} {m : MethodId} {below : List Frame} {meth : Method} {c : Code} {D : hw_D} {l : Launch} {b scr N : Nat} {xs : Nat → Int32} {g : hw_Sd} {k18 : Option Nat → Option Nat → Int32 → hw_S → Option (Int32 × hw_S)} {τ : hw_S} (C0 : hw_CL p s m meth c D b scr N xs) (hG : hw_G g b s s.heap) {j n : Nat} (hj : j + (n + 1) = 513) (hk18 : ∀ {l1 : Option Nat} {l2 : Option Nat} {l3 : Int32} {σ : hw_S} {H : Heap} {locs : List Loc} {ls : Array Slot}, k18 l1 l2 l3 σ = some (1, τ) → hw_R D b σ H → va_S (fun q => b ≤ q) s.heap H locs → hw_L ls 4 255 [(0, .ref scr), (1, hw_vr b l1), (2, hw_vr b l2), (3, .int l3)] → W p l e room_1 s m #[Value.ref scr] below meth c H locs (55 + (j + 1) * 4 + 0) (5876 + (j + 1) * 348 + 0) (lw_Z below #[Value.ref scr] s) (F0 m 18 ls [])) {l1 : Option Nat} {l2 : Option Nat} {l3 : Int32} {σ : hw_S} {H : Heap} {locs : List Loc} (hm : mL_b1048 xs N k18 l1 l2 l3 σ = some (1, τ)) (hR : hw_R D b σ H) (hS : va_S (fun q => b ≤ q) s.heap H locs) {ls : Array Slot} (hl : hw_L ls 4 255 [(0, .ref scr), (1, hw_vr b l1), (2, hw_vr b l2), (3, .int l3)]) : W p l e room_1 s m #[Value.ref scr] below meth c H locs (55 + j * 4 + 0) (5876 + j * 348 + 0) (lw_Z below #[Value.ref scr] s) (F0 m 1048 ls []) := by
  obtain ⟨hx, hb, hml, hr, hown, hts, hlk, hE, hbs, hsb, hX⟩ := id C0
  have hown : s.vm.findClass RL = some m.cls := hown
  have hK := hE.1
  have hsz : scr < s.heap.size := by omega
  unfold mL_b1048 at hm
  refine hw_aload_n hx hb dL_law_1048 rfl (hl.at 1 rfl) ?_
  refine lv_aload_n hx hb dL_law_1049 rfl (hl.at 0 rfl) ?_
  refine lv_iload_n hx hb dL_law_1050 rfl (hl.at 3 rfl) ?_
  refine lv_iconst (v := 1) hx hb dL_law_1051 (by decide) ?_
  refine lv_iadd hx hb dL_law_1052 ?_
  obtain ⟨v1053, e1053, hm⟩ := hw_bs hm
  refine hw_sxr hx hb hX hS hsb hsz e1053 dL_law_1053 ?_
  refine lv_aload_n hx hb dL_law_1054 rfl (hl.at 0 rfl) ?_
  refine lv_iload_n hx hb dL_law_1055 rfl (hl.at 3 rfl) ?_
  refine lv_iconst (v := 2) hx hb dL_law_1056 (by decide) ?_
  refine lv_iadd hx hb dL_law_1057 ?_
  obtain ⟨v1058, e1058, hm⟩ := hw_bs hm
  refine hw_sxr hx hb hX hS hsb hsz e1058 dL_law_1058 ?_
  obtain ⟨a1059, g1059, hm⟩ := hw_bs hm
  obtain ⟨h1059, ht1059⟩ := hw_rv_of g1059
  rw [h1059]
  obtain ⟨v1059, e1059, hm⟩ := hw_bs hm
  refine hw_cRI (va_runV (As := [.int v1053, .int v1058]) (rest := []) ⟨hx, hb, hml, hown, hts⟩ (c11_next l D b e1059) (cwV 2 hts (hw_gV hw_m865 hw_m866 hw_m867 hw_m2 hw_m868) rfl rfl rfl (by decide +kernel) ⟨(Nat.le_of_ble_eq_true rfl), (Nat.le_of_ble_eq_true rfl)⟩) (hw_preV (ci := 11) hE hR rfl (by decide) (hw_q_of ht1059)) rfl rfl hl.sz rfl (lv_room (Nat.le_of_ble_eq_true rfl)) dL_law_1059 ⟨(by have h9 : room_1.cells = 600000 := rfl; have h8 : room_1.slots = 7302250 := rfl; omega), (by have h9 : room_1.cells = 600000 := rfl; have h8 : room_1.slots = 7302250 := rfl; omega)⟩) ?_
  refine hw_aload_n hx hb dL_law_1062 rfl (hl.at 2 rfl) ?_
  refine lv_aload_n hx hb dL_law_1063 rfl (hl.at 0 rfl) ?_
  refine lv_iload_n hx hb dL_law_1064 rfl (hl.at 3 rfl) ?_
  refine lv_iconst (v := 1) hx hb dL_law_1065 (by decide) ?_
  refine lv_iadd hx hb dL_law_1066 ?_
  obtain ⟨v1067, e1067, hm⟩ := hw_bs hm
  refine hw_sxr hx hb hX hS hsb hsz e1067 dL_law_1067 ?_
  refine lv_aload_n hx hb dL_law_1068 rfl (hl.at 0 rfl) ?_
  refine lv_iload_n hx hb dL_law_1069 rfl (hl.at 3 rfl) ?_
  refine lv_iconst (v := 2) hx hb dL_law_1070 (by decide) ?_
  refine lv_iadd hx hb dL_law_1071 ?_
  obtain ⟨v1072, e1072, hm⟩ := hw_bs hm
  refine hw_sxr hx hb hX hS hsb hsz e1072 dL_law_1072 ?_
  obtain ⟨a1073, g1073, hm⟩ := hw_bs hm
  obtain ⟨h1073, ht1073⟩ := hw_rv_of g1073
  rw [h1073]
  obtain ⟨v1073, σ1073, e1073, hm⟩ := hw_bs2 hm
  refine hw_cWI (va_runV (As := [.int v1067, .int v1072]) (rest := [.int v1059]) ⟨hx, hb, hml, hown, hts⟩ (c12_next l D b e1073) (cwV 2 hts (hw_gV hw_m873 hw_m874 hw_m875 hw_m5 hw_m876) rfl rfl rfl (by decide +kernel) ⟨(Nat.le_of_ble_eq_true rfl), (Nat.le_of_ble_eq_true rfl)⟩) (hw_preV (ci := 12) hE hR rfl (by decide) (hw_q_of ht1073)) rfl rfl hl.sz rfl (lv_room (Nat.le_of_ble_eq_true rfl)) dL_law_1073 ⟨(by have h9 : room_1.cells = 600000 := rfl; have h8 : room_1.slots = 7302250 := rfl; omega), (by have h9 : room_1.cells = 600000 := rfl; have h8 : room_1.slots = 7302250 := rfl; omega)⟩) hS (fun _ _ hR hS => ?_)
  refine lv_icmp_eq (tgt := 1292) hx hb dL_law_1076 (by decide) (fun c1076 => ?_) (fun c1076 => ?_)
  · have hm := hw_ip hm c1076
    refine W.widen (k := 55 + j * 4 + 4) (n := 5876 + j * 348 + 348) (by omega) (by omega) ?_
    exact wL_b1292 C0 hG hj hk18 hm hR hS (hl.sub [0, 1, 2, 3] rfl)
  · have hm := hw_in hm c1076
    refine lv_iconst (v := 0) hx hb dL_law_1079 (by decide) ?_
    exact hw_lret hx hb hr hlk hS hbs (by omega) (by omega) hm dL_law_1080
set_option maxRecDepth 100000 in
theorem wL_b1081 {p : Program} {e : Env} {s : State} {m : MethodId} {below : List Frame} {meth : Method} {c : Code} {D : hw_D} {l : Launch} {b scr N : Nat} {xs : Nat → Int32} {g : hw_Sd} {k18 : Option Nat → Option Nat → Int32 → hw_S → Option (Int32 × hw_S)} {τ : hw_S} (C0 : hw_CL p s m meth c D b scr N xs) (hG : hw_G g b s s.heap) {j n : Nat} (hj : j + (n + 1) = 513) (hk18 : ∀ {l1 : Option Nat} {l2 : Option Nat} {l3 : Int32} {σ : hw_S} {H : Heap} {locs : List Loc} {ls : Array Slot}, k18 l1 l2 l3 σ = some (1, τ) → hw_R D b σ H → va_S (fun q => b ≤ q) s.heap H locs → hw_L ls 4 255 [(0, .ref scr), (1, hw_vr b l1), (2, hw_vr b l2), (3, .int l3)] → W p l e room_1 s m #[Value.ref scr] below meth c H locs (55 + (j + 1) * 4 + 0) (5876 + (j + 1) * 348 + 0) (lw_Z below #[Value.ref scr] s) (F0 m 18 ls [])) {l1 : Option Nat} {l2 : Option Nat} {l3 : Int32} {σ : hw_S} {H : Heap} {locs : List Loc} (hm : mL_b1081 xs N k18 l1 l2 l3 σ = some (1, τ)) (hR : hw_R D b σ H) (hS : va_S (fun q => b ≤ q) s.heap H locs) {ls : Array Slot} (hl : hw_L ls 4 255 [(0, .ref scr), (1, hw_vr b l1), (2, hw_vr b l2), (3, .int l3)]) : W p l e room_1 s m #[Value.ref scr] below meth c H locs (55 + j * 4 + 0) (5876 + j * 348 + 0) (lw_Z below #[Value.ref scr] s) (F0 m 1081 ls []) := by
  obtain ⟨hx, hb, hml, hr, hown, hts, hlk, hE, hbs, hsb, hX⟩ := id C0
  have hown : s.vm.findClass RL = some m.cls := hown
  have hK := hE.1
  have hsz : scr < s.heap.size := by omega
  unfold mL_b1081 at hm
  refine hw_aload_n hx hb dL_law_1081 rfl (hl.at 1 rfl) ?_
  refine lv_aload_n hx hb dL_law_1082 rfl (hl.at 0 rfl) ?_
  refine lv_iload_n hx hb dL_law_1083 rfl (hl.at 3 rfl) ?_
  refine lv_iconst (v := 1) hx hb dL_law_1084 (by decide) ?_
  refine lv_iadd hx hb dL_law_1085 ?_
  obtain ⟨v1086, e1086, hm⟩ := hw_bs hm
  refine hw_sxr hx hb hX hS hsb hsz e1086 dL_law_1086 ?_
  refine lv_aload_n hx hb dL_law_1087 rfl (hl.at 0 rfl) ?_
  refine lv_iload_n hx hb dL_law_1088 rfl (hl.at 3 rfl) ?_
  refine lv_iconst (v := 2) hx hb dL_law_1089 (by decide) ?_
  refine lv_iadd hx hb dL_law_1090 ?_
  obtain ⟨v1091, e1091, hm⟩ := hw_bs hm
  refine hw_sxr hx hb hX hS hsb hsz e1091 dL_law_1091 ?_
  refine lv_aload_n hx hb dL_law_1092 rfl (hl.at 0 rfl) ?_
  refine lv_iload_n hx hb dL_law_1093 rfl (hl.at 3 rfl) ?_
  refine lv_iconst (v := 3) hx hb dL_law_1094 (by decide) ?_
  refine lv_iadd hx hb dL_law_1095 ?_
  obtain ⟨v1096, e1096, hm⟩ := hw_bs hm
  refine hw_sxr hx hb hX hS hsb hsz e1096 dL_law_1096 ?_
  refine lv_aload_n hx hb dL_law_1097 rfl (hl.at 0 rfl) ?_
  refine lv_iload_n hx hb dL_law_1098 rfl (hl.at 3 rfl) ?_
  refine lv_iconst (v := 4) hx hb dL_law_1099 (by decide) ?_
  refine lv_iadd hx hb dL_law_1100 ?_
  obtain ⟨v1101, e1101, hm⟩ := hw_bs hm
  refine hw_sxr hx hb hX hS hsb hsz e1101 dL_law_1101 ?_
  refine lv_aload_n hx hb dL_law_1102 rfl (hl.at 0 rfl) ?_
  refine lv_iload_n hx hb dL_law_1103 rfl (hl.at 3 rfl) ?_
  refine lv_iconst (v := 5) hx hb dL_law_1104 (by decide) ?_
  refine lv_iadd hx hb dL_law_1105 ?_
  obtain ⟨v1106, e1106, hm⟩ := hw_bs hm
  refine hw_sxr hx hb hX hS hsb hsz e1106 dL_law_1106 ?_
  obtain ⟨a1107, g1107, hm⟩ := hw_bs hm
  obtain ⟨h1107, ht1107⟩ := hw_rv_of g1107
  rw [h1107]
  obtain ⟨v1107, e1107, hm⟩ := hw_bs hm
  refine hw_cRI (va_runV (As := [.int v1086, .int v1091, .int v1096, .int v1101, .int v1106]) (rest := []) ⟨hx, hb, hml, hown, hts⟩ (c11_two l D b e1107) (cwV 5 hts (hw_gV hw_m877 hw_m878 hw_m879 hw_m2 hw_m880) rfl rfl rfl (by decide +kernel) ⟨(Nat.le_of_ble_eq_true rfl), (Nat.le_of_ble_eq_true rfl)⟩) (hw_preV (ci := 11) hE hR rfl (by decide) (hw_q_of ht1107)) rfl rfl hl.sz rfl (lv_room (Nat.le_of_ble_eq_true rfl)) dL_law_1107 ⟨(by have h9 : room_1.cells = 600000 := rfl; have h8 : room_1.slots = 7302250 := rfl; omega), (by have h9 : room_1.cells = 600000 := rfl; have h8 : room_1.slots = 7302250 := rfl; omega)⟩) ?_
  refine hw_aload_n hx hb dL_law_1110 rfl (hl.at 2 rfl) ?_
  refine lv_aload_n hx hb dL_law_1111 rfl (hl.at 0 rfl) ?_
  refine lv_iload_n hx hb dL_law_1112 rfl (hl.at 3 rfl) ?_
  refine lv_iconst (v := 1) hx hb dL_law_1113 (by decide) ?_
  refine lv_iadd hx hb dL_law_1114 ?_
  obtain ⟨v1115, e1115, hm⟩ := hw_bs hm
  refine hw_sxr hx hb hX hS hsb hsz e1115 dL_law_1115 ?_
  refine lv_aload_n hx hb dL_law_1116 rfl (hl.at 0 rfl) ?_
  refine lv_iload_n hx hb dL_law_1117 rfl (hl.at 3 rfl) ?_
  refine lv_iconst (v := 2) hx hb dL_law_1118 (by decide) ?_
  refine lv_iadd hx hb dL_law_1119 ?_
  obtain ⟨v1120, e1120, hm⟩ := hw_bs hm
  refine hw_sxr hx hb hX hS hsb hsz e1120 dL_law_1120 ?_
  refine lv_aload_n hx hb dL_law_1121 rfl (hl.at 0 rfl) ?_
  refine lv_iload_n hx hb dL_law_1122 rfl (hl.at 3 rfl) ?_
  refine lv_iconst (v := 3) hx hb dL_law_1123 (by decide) ?_
  refine lv_iadd hx hb dL_law_1124 ?_
  obtain ⟨v1125, e1125, hm⟩ := hw_bs hm
  refine hw_sxr hx hb hX hS hsb hsz e1125 dL_law_1125 ?_
  refine lv_aload_n hx hb dL_law_1126 rfl (hl.at 0 rfl) ?_
  refine lv_iload_n hx hb dL_law_1127 rfl (hl.at 3 rfl) ?_
  refine lv_iconst (v := 4) hx hb dL_law_1128 (by decide) ?_
  refine lv_iadd hx hb dL_law_1129 ?_
  obtain ⟨v1130, e1130, hm⟩ := hw_bs hm
  refine hw_sxr hx hb hX hS hsb hsz e1130 dL_law_1130 ?_
  refine lv_aload_n hx hb dL_law_1131 rfl (hl.at 0 rfl) ?_
  refine lv_iload_n hx hb dL_law_1132 rfl (hl.at 3 rfl) ?_
  refine lv_iconst (v := 5) hx hb dL_law_1133 (by decide) ?_
  refine lv_iadd hx hb dL_law_1134 ?_
  obtain ⟨v1135, e1135, hm⟩ := hw_bs hm
  refine hw_sxr hx hb hX hS hsb hsz e1135 dL_law_1135 ?_
  obtain ⟨a1136, g1136, hm⟩ := hw_bs hm
  obtain ⟨h1136, ht1136⟩ := hw_rv_of g1136
  rw [h1136]
  obtain ⟨v1136, σ1136, e1136, hm⟩ := hw_bs2 hm
  refine hw_cWI (va_runV (As := [.int v1115, .int v1120, .int v1125, .int v1130, .int v1135]) (rest := [.int v1107]) ⟨hx, hb, hml, hown, hts⟩ (c12_two l D b e1136) (cwV 5 hts (hw_gV hw_m882 hw_m883 hw_m884 hw_m5 hw_m885) rfl rfl rfl (by decide +kernel) ⟨(Nat.le_of_ble_eq_true rfl), (Nat.le_of_ble_eq_true rfl)⟩) (hw_preV (ci := 12) hE hR rfl (by decide) (hw_q_of ht1136)) rfl rfl hl.sz rfl (lv_room (Nat.le_of_ble_eq_true rfl)) dL_law_1136 ⟨(by have h9 : room_1.cells = 600000 := rfl; have h8 : room_1.slots = 7302250 := rfl; omega), (by have h9 : room_1.cells = 600000 := rfl; have h8 : room_1.slots = 7302250 := rfl; omega)⟩) hS (fun _ _ hR hS => ?_)
  refine lv_icmp_eq (tgt := 1292) hx hb dL_law_1139 (by decide) (fun c1139 => ?_) (fun c1139 => ?_)
  · have hm := hw_ip hm c1139
    refine W.widen (k := 55 + j * 4 + 4) (n := 5876 + j * 348 + 348) (by omega) (by omega) ?_
    exact wL_b1292 C0 hG hj hk18 hm hR hS (hl.sub [0, 1, 2, 3] rfl)
  · have hm := hw_in hm c1139
    refine lv_iconst (v := 0) hx hb dL_law_1142 (by decide) ?_
    exact hw_lret hx hb hr hlk hS hbs (by omega) (by omega) hm dL_law_1143
set_option maxRecDepth 100000 in
theorem wL_b1144 {p : Program} {e : Env} {s : State} {m : MethodId} {below : List Frame} {meth : Method} {c : Code} {D : hw_D} {l : Launch} {b scr N : Nat} {xs : Nat → Int32} {g : hw_Sd} {k18 : Option Nat → Option Nat → Int32 → hw_S → Option (Int32 × hw_S)} {τ : hw_S} (C0 : hw_CL p s m meth c D b scr N xs) (hG : hw_G g b s s.heap) {j n : Nat} (hj : j + (n + 1) = 513) (hk18 : ∀ {l1 : Option Nat} {l2 : Option Nat} {l3 : Int32} {σ : hw_S} {H : Heap} {locs : List Loc} {ls : Array Slot}, k18 l1 l2 l3 σ = some (1, τ) → hw_R D b σ H → va_S (fun q => b ≤ q) s.heap H locs → hw_L ls 4 255 [(0, .ref scr), (1, hw_vr b l1), (2, hw_vr b l2), (3, .int l3)] → W p l e room_1 s m #[Value.ref scr] below meth c H locs (55 + (j + 1) * 4 + 0) (5876 + (j + 1) * 348 + 0) (lw_Z below #[Value.ref scr] s) (F0 m 18 ls [])) {l1 : Option Nat} {l2 : Option Nat} {l3 : Int32} {σ : hw_S} {H : Heap} {locs : List Loc} (hm : mL_b1144 xs N k18 l1 l2 l3 σ = some (1, τ)) (hR : hw_R D b σ H) (hS : va_S (fun q => b ≤ q) s.heap H locs) {ls : Array Slot} (hl : hw_L ls 4 255 [(0, .ref scr), (1, hw_vr b l1), (2, hw_vr b l2), (3, .int l3)]) : W p l e room_1 s m #[Value.ref scr] below meth c H locs (55 + j * 4 + 0) (5876 + j * 348 + 0) (lw_Z below #[Value.ref scr] s) (F0 m 1144 ls []) := by
  obtain ⟨hx, hb, hml, hr, hown, hts, hlk, hE, hbs, hsb, hX⟩ := id C0
  have hown : s.vm.findClass RL = some m.cls := hown
  have hK := hE.1
  have hsz : scr < s.heap.size := by omega
  unfold mL_b1144 at hm
  refine hw_aload_n hx hb dL_law_1144 rfl (hl.at 1 rfl) ?_
  refine lv_aload_n hx hb dL_law_1145 rfl (hl.at 0 rfl) ?_
  refine lv_iload_n hx hb dL_law_1146 rfl (hl.at 3 rfl) ?_
  refine lv_iconst (v := 1) hx hb dL_law_1147 (by decide) ?_
  refine lv_iadd hx hb dL_law_1148 ?_
  obtain ⟨v1149, e1149, hm⟩ := hw_bs hm
  refine hw_sxr hx hb hX hS hsb hsz e1149 dL_law_1149 ?_
  refine lv_aload_n hx hb dL_law_1150 rfl (hl.at 0 rfl) ?_
  refine lv_iload_n hx hb dL_law_1151 rfl (hl.at 3 rfl) ?_
  refine lv_iconst (v := 2) hx hb dL_law_1152 (by decide) ?_
  refine lv_iadd hx hb dL_law_1153 ?_
  obtain ⟨v1154, e1154, hm⟩ := hw_bs hm
  refine hw_sxr hx hb hX hS hsb hsz e1154 dL_law_1154 ?_
  refine lv_aload_n hx hb dL_law_1155 rfl (hl.at 0 rfl) ?_
  refine lv_iload_n hx hb dL_law_1156 rfl (hl.at 3 rfl) ?_
  refine lv_iconst (v := 3) hx hb dL_law_1157 (by decide) ?_
  refine lv_iadd hx hb dL_law_1158 ?_
  obtain ⟨v1159, e1159, hm⟩ := hw_bs hm
  refine hw_sxr hx hb hX hS hsb hsz e1159 dL_law_1159 ?_
  obtain ⟨a1160, g1160, hm⟩ := hw_bs hm
  obtain ⟨h1160, ht1160⟩ := hw_rv_of g1160
  rw [h1160]
  obtain ⟨v1160, σ1160, e1160, hm⟩ := hw_bs2 hm
  refine hw_cWI (va_runV (As := [.int v1149, .int v1154, .int v1159]) (rest := []) ⟨hx, hb, hml, hown, hts⟩ (c11_act l D b e1160) (cwV 3 hts (hw_gV hw_m886 hw_m887 hw_m888 hw_m2 hw_m889) rfl rfl rfl (by decide +kernel) ⟨(Nat.le_of_ble_eq_true rfl), (Nat.le_of_ble_eq_true rfl)⟩) (hw_preV (ci := 11) hE hR rfl (by decide) (hw_q_of ht1160)) rfl rfl hl.sz rfl (lv_room (Nat.le_of_ble_eq_true rfl)) dL_law_1160 ⟨(by have h9 : room_1.cells = 600000 := rfl; have h8 : room_1.slots = 7302250 := rfl; omega), (by have h9 : room_1.cells = 600000 := rfl; have h8 : room_1.slots = 7302250 := rfl; omega)⟩) hS (fun _ _ hR hS => ?_)
  refine hw_aload_n hx hb dL_law_1163 rfl (hl.at 2 rfl) ?_
  refine lv_aload_n hx hb dL_law_1164 rfl (hl.at 0 rfl) ?_
  refine lv_iload_n hx hb dL_law_1165 rfl (hl.at 3 rfl) ?_
  refine lv_iconst (v := 1) hx hb dL_law_1166 (by decide) ?_
  refine lv_iadd hx hb dL_law_1167 ?_
  obtain ⟨v1168, e1168, hm⟩ := hw_bs hm
  refine hw_sxr hx hb hX hS hsb hsz e1168 dL_law_1168 ?_
  refine lv_aload_n hx hb dL_law_1169 rfl (hl.at 0 rfl) ?_
  refine lv_iload_n hx hb dL_law_1170 rfl (hl.at 3 rfl) ?_
  refine lv_iconst (v := 2) hx hb dL_law_1171 (by decide) ?_
  refine lv_iadd hx hb dL_law_1172 ?_
  obtain ⟨v1173, e1173, hm⟩ := hw_bs hm
  refine hw_sxr hx hb hX hS hsb hsz e1173 dL_law_1173 ?_
  refine lv_aload_n hx hb dL_law_1174 rfl (hl.at 0 rfl) ?_
  refine lv_iload_n hx hb dL_law_1175 rfl (hl.at 3 rfl) ?_
  refine lv_iconst (v := 3) hx hb dL_law_1176 (by decide) ?_
  refine lv_iadd hx hb dL_law_1177 ?_
  obtain ⟨v1178, e1178, hm⟩ := hw_bs hm
  refine hw_sxr hx hb hX hS hsb hsz e1178 dL_law_1178 ?_
  obtain ⟨a1179, g1179, hm⟩ := hw_bs hm
  obtain ⟨h1179, ht1179⟩ := hw_rv_of g1179
  rw [h1179]
  obtain ⟨v1179, σ1179, e1179, hm⟩ := hw_bs2 hm
  refine hw_cWI (va_runV (As := [.int v1168, .int v1173, .int v1178]) (rest := [.int v1160]) ⟨hx, hb, hml, hown, hts⟩ (c12_act l D b e1179) (cwV 3 hts (hw_gV hw_m970 hw_m971 hw_m972 hw_m5 hw_m973) rfl rfl rfl (by decide +kernel) ⟨(Nat.le_of_ble_eq_true rfl), (Nat.le_of_ble_eq_true rfl)⟩) (hw_preV (ci := 12) hE hR rfl (by decide) (hw_q_of ht1179)) rfl rfl hl.sz rfl (lv_room (Nat.le_of_ble_eq_true rfl)) dL_law_1179 ⟨(by have h9 : room_1.cells = 600000 := rfl; have h8 : room_1.slots = 7302250 := rfl; omega), (by have h9 : room_1.cells = 600000 := rfl; have h8 : room_1.slots = 7302250 := rfl; omega)⟩) hS (fun _ _ hR hS => ?_)
  refine lv_icmp_eq (tgt := 1292) hx hb dL_law_1182 (by decide) (fun c1182 => ?_) (fun c1182 => ?_)
  · have hm := hw_ip hm c1182
    refine W.widen (k := 55 + j * 4 + 4) (n := 5876 + j * 348 + 348) (by omega) (by omega) ?_
    exact wL_b1292 C0 hG hj hk18 hm hR hS (hl.sub [0, 1, 2, 3] rfl)
  · have hm := hw_in hm c1182
    refine lv_iconst (v := 0) hx hb dL_law_1185 (by decide) ?_
    exact hw_lret hx hb hr hlk hS hbs (by omega) (by omega) hm dL_law_1186
set_option maxRecDepth 100000 in
theorem wL_b1187 {p : Program} {e : Env} {s : State} {m : MethodId} {below : List Frame} {meth : Method} {c : Code} {D : hw_D} {l : Launch} {b scr N : Nat} {xs : Nat → Int32} {g : hw_Sd} {k18 : Option Nat → Option Nat → Int32 → hw_S → Option (Int32 × hw_S)} {τ : hw_S} (C0 : hw_CL p s m meth c D b scr N xs) (hG : hw_G g b s s.heap) {j n : Nat} (hj : j + (n + 1) = 513) (hk18 : ∀ {l1 : Option Nat} {l2 : Option Nat} {l3 : Int32} {σ : hw_S} {H : Heap} {locs : List Loc} {ls : Array Slot}, k18 l1 l2 l3 σ = some (1, τ) → hw_R D b σ H → va_S (fun q => b ≤ q) s.heap H locs → hw_L ls 4 255 [(0, .ref scr), (1, hw_vr b l1), (2, hw_vr b l2), (3, .int l3)] → W p l e room_1 s m #[Value.ref scr] below meth c H locs (55 + (j + 1) * 4 + 0) (5876 + (j + 1) * 348 + 0) (lw_Z below #[Value.ref scr] s) (F0 m 18 ls [])) {l1 : Option Nat} {l2 : Option Nat} {l3 : Int32} {σ : hw_S} {H : Heap} {locs : List Loc} (hm : mL_b1187 xs N k18 l1 l2 l3 σ = some (1, τ)) (hR : hw_R D b σ H) (hS : va_S (fun q => b ≤ q) s.heap H locs) {ls : Array Slot} (hl : hw_L ls 4 255 [(0, .ref scr), (1, hw_vr b l1), (2, hw_vr b l2), (3, .int l3)]) : W p l e room_1 s m #[Value.ref scr] below meth c H locs (55 + j * 4 + 0) (5876 + j * 348 + 0) (lw_Z below #[Value.ref scr] s) (F0 m 1187 ls []) := by
  obtain ⟨hx, hb, hml, hr, hown, hts, hlk, hE, hbs, hsb, hX⟩ := id C0
  have hown : s.vm.findClass RL = some m.cls := hown
  have hK := hE.1
  have hsz : scr < s.heap.size := by omega
  unfold mL_b1187 at hm
  refine hw_aload_n hx hb dL_law_1187 rfl (hl.at 1 rfl) ?_
  refine lv_aload_n hx hb dL_law_1188 rfl (hl.at 0 rfl) ?_
  refine lv_iload_n hx hb dL_law_1189 rfl (hl.at 3 rfl) ?_
  refine lv_iconst (v := 1) hx hb dL_law_1190 (by decide) ?_
  refine lv_iadd hx hb dL_law_1191 ?_
  obtain ⟨v1192, e1192, hm⟩ := hw_bs hm
  refine hw_sxr hx hb hX hS hsb hsz e1192 dL_law_1192 ?_
  obtain ⟨a1193, g1193, hm⟩ := hw_bs hm
  obtain ⟨h1193, ht1193⟩ := hw_rv_of g1193
  rw [h1193]
  obtain ⟨v1193, e1193, hm⟩ := hw_bs hm
  refine hw_cRI (va_runV (As := [.int v1192]) (rest := []) ⟨hx, hb, hml, hown, hts⟩ (c11_trace l D b e1193) (cwV 1 hts (hw_gV hw_m1009 hw_m1010 hw_m1011 hw_m2 hw_m1012) rfl rfl rfl (by decide +kernel) ⟨(Nat.le_of_ble_eq_true rfl), (Nat.le_of_ble_eq_true rfl)⟩) (hw_preV (ci := 11) hE hR rfl (by decide) (hw_q_of ht1193)) rfl rfl hl.sz rfl (lv_room (Nat.le_of_ble_eq_true rfl)) dL_law_1193 ⟨(by have h9 : room_1.cells = 600000 := rfl; have h8 : room_1.slots = 7302250 := rfl; omega), (by have h9 : room_1.cells = 600000 := rfl; have h8 : room_1.slots = 7302250 := rfl; omega)⟩) ?_
  refine hw_aload_n hx hb dL_law_1196 rfl (hl.at 2 rfl) ?_
  refine lv_aload_n hx hb dL_law_1197 rfl (hl.at 0 rfl) ?_
  refine lv_iload_n hx hb dL_law_1198 rfl (hl.at 3 rfl) ?_
  refine lv_iconst (v := 1) hx hb dL_law_1199 (by decide) ?_
  refine lv_iadd hx hb dL_law_1200 ?_
  obtain ⟨v1201, e1201, hm⟩ := hw_bs hm
  refine hw_sxr hx hb hX hS hsb hsz e1201 dL_law_1201 ?_
  obtain ⟨a1202, g1202, hm⟩ := hw_bs hm
  obtain ⟨h1202, ht1202⟩ := hw_rv_of g1202
  rw [h1202]
  obtain ⟨v1202, e1202, hm⟩ := hw_bs hm
  refine hw_cRI (va_runV (As := [.int v1201]) (rest := [.int v1193]) ⟨hx, hb, hml, hown, hts⟩ (c12_trace l D b e1202) (cwV 1 hts (hw_gV hw_m1018 hw_m1019 hw_m1020 hw_m5 hw_m1021) rfl rfl rfl (by decide +kernel) ⟨(Nat.le_of_ble_eq_true rfl), (Nat.le_of_ble_eq_true rfl)⟩) (hw_preV (ci := 12) hE hR rfl (by decide) (hw_q_of ht1202)) rfl rfl hl.sz rfl (lv_room (Nat.le_of_ble_eq_true rfl)) dL_law_1202 ⟨(by have h9 : room_1.cells = 600000 := rfl; have h8 : room_1.slots = 7302250 := rfl; omega), (by have h9 : room_1.cells = 600000 := rfl; have h8 : room_1.slots = 7302250 := rfl; omega)⟩) ?_
  refine lv_icmp_eq (tgt := 1292) hx hb dL_law_1205 (by decide) (fun c1205 => ?_) (fun c1205 => ?_)
  · have hm := hw_ip hm c1205
    refine W.widen (k := 55 + j * 4 + 4) (n := 5876 + j * 348 + 348) (by omega) (by omega) ?_
    exact wL_b1292 C0 hG hj hk18 hm hR hS (hl.sub [0, 1, 2, 3] rfl)
  · have hm := hw_in hm c1205
    refine lv_iconst (v := 0) hx hb dL_law_1208 (by decide) ?_
    exact hw_lret hx hb hr hlk hS hbs (by omega) (by omega) hm dL_law_1209
set_option maxRecDepth 100000 in
theorem wL_b1210 {p : Program} {e : Env} {s : State} {m : MethodId} {below : List Frame} {meth : Method} {c : Code} {D : hw_D} {l : Launch} {b scr N : Nat} {xs : Nat → Int32} {g : hw_Sd} {k18 : Option Nat → Option Nat → Int32 → hw_S → Option (Int32 × hw_S)} {τ : hw_S} (C0 : hw_CL p s m meth c D b scr N xs) (hG : hw_G g b s s.heap) {j n : Nat} (hj : j + (n + 1) = 513) (hk18 : ∀ {l1 : Option Nat} {l2 : Option Nat} {l3 : Int32} {σ : hw_S} {H : Heap} {locs : List Loc} {ls : Array Slot}, k18 l1 l2 l3 σ = some (1, τ) → hw_R D b σ H → va_S (fun q => b ≤ q) s.heap H locs → hw_L ls 4 255 [(0, .ref scr), (1, hw_vr b l1), (2, hw_vr b l2), (3, .int l3)] → W p l e room_1 s m #[Value.ref scr] below meth c H locs (55 + (j + 1) * 4 + 0) (5876 + (j + 1) * 348 + 0) (lw_Z below #[Value.ref scr] s) (F0 m 18 ls [])) {l1 : Option Nat} {l2 : Option Nat} {l3 : Int32} {σ : hw_S} {H : Heap} {locs : List Loc} (hm : mL_b1210 xs N k18 l1 l2 l3 σ = some (1, τ)) (hR : hw_R D b σ H) (hS : va_S (fun q => b ≤ q) s.heap H locs) {ls : Array Slot} (hl : hw_L ls 4 255 [(0, .ref scr), (1, hw_vr b l1), (2, hw_vr b l2), (3, .int l3)]) : W p l e room_1 s m #[Value.ref scr] below meth c H locs (55 + j * 4 + 0) (5876 + j * 348 + 0) (lw_Z below #[Value.ref scr] s) (F0 m 1210 ls []) := by
  obtain ⟨hx, hb, hml, hr, hown, hts, hlk, hE, hbs, hsb, hX⟩ := id C0
  have hown : s.vm.findClass RL = some m.cls := hown
  have hK := hE.1
  have hsz : scr < s.heap.size := by omega
  unfold mL_b1210 at hm
  refine hw_aload_n hx hb dL_law_1210 rfl (hl.at 1 rfl) ?_
  refine lv_aload_n hx hb dL_law_1211 rfl (hl.at 0 rfl) ?_
  refine lv_iload_n hx hb dL_law_1212 rfl (hl.at 3 rfl) ?_
  refine lv_iconst (v := 1) hx hb dL_law_1213 (by decide) ?_
  refine lv_iadd hx hb dL_law_1214 ?_
  obtain ⟨v1215, e1215, hm⟩ := hw_bs hm
  refine hw_sxr hx hb hX hS hsb hsz e1215 dL_law_1215 ?_
  refine lv_aload_n hx hb dL_law_1216 rfl (hl.at 0 rfl) ?_
  refine lv_iload_n hx hb dL_law_1217 rfl (hl.at 3 rfl) ?_
  refine lv_iconst (v := 2) hx hb dL_law_1218 (by decide) ?_
  refine lv_iadd hx hb dL_law_1219 ?_
  obtain ⟨v1220, e1220, hm⟩ := hw_bs hm
  refine hw_sxr hx hb hX hS hsb hsz e1220 dL_law_1220 ?_
  obtain ⟨a1221, g1221, hm⟩ := hw_bs hm
  obtain ⟨h1221, ht1221⟩ := hw_rv_of g1221
  rw [h1221]
  obtain ⟨v1221, e1221, hm⟩ := hw_bs hm
  refine hw_cRI (va_runV (As := [.int v1215, .int v1220]) (rest := []) ⟨hx, hb, hml, hown, hts⟩ (c11_as l D b e1221) (cwV 2 hts (hw_gV hw_m1022 hw_m1023 hw_m1024 hw_m2 hw_m1025) rfl rfl rfl (by decide +kernel) ⟨(Nat.le_of_ble_eq_true rfl), (Nat.le_of_ble_eq_true rfl)⟩) (hw_preV (ci := 11) hE hR rfl (by decide) (hw_q_of ht1221)) rfl rfl hl.sz rfl (lv_room (Nat.le_of_ble_eq_true rfl)) dL_law_1221 ⟨(by have h9 : room_1.cells = 600000 := rfl; have h8 : room_1.slots = 7302250 := rfl; omega), (by have h9 : room_1.cells = 600000 := rfl; have h8 : room_1.slots = 7302250 := rfl; omega)⟩) ?_
  refine hw_aload_n hx hb dL_law_1224 rfl (hl.at 2 rfl) ?_
  refine lv_aload_n hx hb dL_law_1225 rfl (hl.at 0 rfl) ?_
  refine lv_iload_n hx hb dL_law_1226 rfl (hl.at 3 rfl) ?_
  refine lv_iconst (v := 1) hx hb dL_law_1227 (by decide) ?_
  refine lv_iadd hx hb dL_law_1228 ?_
  obtain ⟨v1229, e1229, hm⟩ := hw_bs hm
  refine hw_sxr hx hb hX hS hsb hsz e1229 dL_law_1229 ?_
  refine lv_aload_n hx hb dL_law_1230 rfl (hl.at 0 rfl) ?_
  refine lv_iload_n hx hb dL_law_1231 rfl (hl.at 3 rfl) ?_
  refine lv_iconst (v := 2) hx hb dL_law_1232 (by decide) ?_
  refine lv_iadd hx hb dL_law_1233 ?_
  obtain ⟨v1234, e1234, hm⟩ := hw_bs hm
  refine hw_sxr hx hb hX hS hsb hsz e1234 dL_law_1234 ?_
  obtain ⟨a1235, g1235, hm⟩ := hw_bs hm
  obtain ⟨h1235, ht1235⟩ := hw_rv_of g1235
  rw [h1235]
  obtain ⟨v1235, e1235, hm⟩ := hw_bs hm
  refine hw_cRI (va_runV (As := [.int v1229, .int v1234]) (rest := [.int v1221]) ⟨hx, hb, hml, hown, hts⟩ (c12_as l D b e1235) (cwV 2 hts (hw_gV hw_m1035 hw_m1036 hw_m1037 hw_m5 hw_m1038) rfl rfl rfl (by decide +kernel) ⟨(Nat.le_of_ble_eq_true rfl), (Nat.le_of_ble_eq_true rfl)⟩) (hw_preV (ci := 12) hE hR rfl (by decide) (hw_q_of ht1235)) rfl rfl hl.sz rfl (lv_room (Nat.le_of_ble_eq_true rfl)) dL_law_1235 ⟨(by have h9 : room_1.cells = 600000 := rfl; have h8 : room_1.slots = 7302250 := rfl; omega), (by have h9 : room_1.cells = 600000 := rfl; have h8 : room_1.slots = 7302250 := rfl; omega)⟩) ?_
  refine lv_icmp_eq (tgt := 1292) hx hb dL_law_1238 (by decide) (fun c1238 => ?_) (fun c1238 => ?_)
  · have hm := hw_ip hm c1238
    refine W.widen (k := 55 + j * 4 + 4) (n := 5876 + j * 348 + 348) (by omega) (by omega) ?_
    exact wL_b1292 C0 hG hj hk18 hm hR hS (hl.sub [0, 1, 2, 3] rfl)
  · have hm := hw_in hm c1238
    refine lv_iconst (v := 0) hx hb dL_law_1241 (by decide) ?_
    exact hw_lret hx hb hr hlk hS hbs (by omega) (by omega) hm dL_law_1242
set_option maxRecDepth 100000 in
theorem wL_b1243 {p : Program} {e : Env} {s : State} {m : MethodId} {below : List Frame} {meth : Method} {c : Code} {D : hw_D} {l : Launch} {b scr N : Nat} {xs : Nat → Int32} {g : hw_Sd} {k18 : Option Nat → Option Nat → Int32 → hw_S → Option (Int32 × hw_S)} {τ : hw_S} (C0 : hw_CL p s m meth c D b scr N xs) (hG : hw_G g b s s.heap) {j n : Nat} (hj : j + (n + 1) = 513) (hk18 : ∀ {l1 : Option Nat} {l2 : Option Nat} {l3 : Int32} {σ : hw_S} {H : Heap} {locs : List Loc} {ls : Array Slot}, k18 l1 l2 l3 σ = some (1, τ) → hw_R D b σ H → va_S (fun q => b ≤ q) s.heap H locs → hw_L ls 4 255 [(0, .ref scr), (1, hw_vr b l1), (2, hw_vr b l2), (3, .int l3)] → W p l e room_1 s m #[Value.ref scr] below meth c H locs (55 + (j + 1) * 4 + 0) (5876 + (j + 1) * 348 + 0) (lw_Z below #[Value.ref scr] s) (F0 m 18 ls [])) {l1 : Option Nat} {l2 : Option Nat} {l3 : Int32} {σ : hw_S} {H : Heap} {locs : List Loc} (hm : mL_b1243 xs N k18 l1 l2 l3 σ = some (1, τ)) (hR : hw_R D b σ H) (hS : va_S (fun q => b ≤ q) s.heap H locs) {ls : Array Slot} (hl : hw_L ls 4 255 [(0, .ref scr), (1, hw_vr b l1), (2, hw_vr b l2), (3, .int l3)]) : W p l e room_1 s m #[Value.ref scr] below meth c H locs (55 + j * 4 + 0) (5876 + j * 348 + 0) (lw_Z below #[Value.ref scr] s) (F0 m 1243 ls []) := by
  obtain ⟨hx, hb, hml, hr, hown, hts, hlk, hE, hbs, hsb, hX⟩ := id C0
  have hown : s.vm.findClass RL = some m.cls := hown
  have hK := hE.1
  have hsz : scr < s.heap.size := by omega
  unfold mL_b1243 at hm
  refine hw_aload_n hx hb dL_law_1243 rfl (hl.at 1 rfl) ?_
  obtain ⟨a1244, g1244, hm⟩ := hw_bs hm
  obtain ⟨h1244, ht1244⟩ := hw_rv_of g1244
  rw [h1244]
  obtain ⟨v1244, σ1244, e1244, hm⟩ := hw_bs2 hm
  refine hw_cWI (va_runV (As := []) (rest := []) ⟨hx, hb, hml, hown, hts⟩ (c11_image l D b e1244) (cwV 0 hts (hw_gV hw_m1039 hw_m1040 hw_m1041 hw_m2 hw_m1042) rfl rfl rfl (by decide +kernel) ⟨(Nat.le_of_ble_eq_true rfl), (Nat.le_of_ble_eq_true rfl)⟩) (hw_preV (ci := 11) hE hR rfl (by decide) (hw_q_of ht1244)) rfl rfl hl.sz rfl (lv_room (Nat.le_of_ble_eq_true rfl)) dL_law_1244 ⟨(by have h9 : room_1.cells = 600000 := rfl; have h8 : room_1.slots = 7302250 := rfl; omega), (by have h9 : room_1.cells = 600000 := rfl; have h8 : room_1.slots = 7302250 := rfl; omega)⟩) hS (fun _ _ hR hS => ?_)
  refine hw_aload_n hx hb dL_law_1247 rfl (hl.at 2 rfl) ?_
  obtain ⟨a1248, g1248, hm⟩ := hw_bs hm
  obtain ⟨h1248, ht1248⟩ := hw_rv_of g1248
  rw [h1248]
  obtain ⟨v1248, σ1248, e1248, hm⟩ := hw_bs2 hm
  refine hw_cWI (va_runV (As := []) (rest := [.int v1244]) ⟨hx, hb, hml, hown, hts⟩ (c12_image l D b e1248) (cwV 0 hts (hw_gV hw_m1048 hw_m1049 hw_m1050 hw_m5 hw_m1051) rfl rfl rfl (by decide +kernel) ⟨(Nat.le_of_ble_eq_true rfl), (Nat.le_of_ble_eq_true rfl)⟩) (hw_preV (ci := 12) hE hR rfl (by decide) (hw_q_of ht1248)) rfl rfl hl.sz rfl (lv_room (Nat.le_of_ble_eq_true rfl)) dL_law_1248 ⟨(by have h9 : room_1.cells = 600000 := rfl; have h8 : room_1.slots = 7302250 := rfl; omega), (by have h9 : room_1.cells = 600000 := rfl; have h8 : room_1.slots = 7302250 := rfl; omega)⟩) hS (fun _ _ hR hS => ?_)
  refine lv_icmp_eq (tgt := 1292) hx hb dL_law_1251 (by decide) (fun c1251 => ?_) (fun c1251 => ?_)
  · have hm := hw_ip hm c1251
    refine W.widen (k := 55 + j * 4 + 4) (n := 5876 + j * 348 + 348) (by omega) (by omega) ?_
    exact wL_b1292 C0 hG hj hk18 hm hR hS (hl.sub [0, 1, 2, 3] rfl)
  · have hm := hw_in hm c1251
    refine lv_iconst (v := 0) hx hb dL_law_1254 (by decide) ?_
    exact hw_lret hx hb hr hlk hS hbs (by omega) (by omega) hm dL_law_1255
set_option maxRecDepth 100000 in
theorem wL_b1256 {p : Program} {e : Env} {s : State} {m : MethodId} {below : List Frame} {meth : Method} {c : Code} {D : hw_D} {l : Launch} {b scr N : Nat} {xs : Nat → Int32} {g : hw_Sd} {k18 : Option Nat → Option Nat → Int32 → hw_S → Option (Int32 × hw_S)} {τ : hw_S} (C0 : hw_CL p s m meth c D b scr N xs) (hG : hw_G g b s s.heap) {j n : Nat} (hj : j + (n + 1) = 513) (hk18 : ∀ {l1 : Option Nat} {l2 : Option Nat} {l3 : Int32} {σ : hw_S} {H : Heap} {locs : List Loc} {ls : Array Slot}, k18 l1 l2 l3 σ = some (1, τ) → hw_R D b σ H → va_S (fun q => b ≤ q) s.heap H locs → hw_L ls 4 255 [(0, .ref scr), (1, hw_vr b l1), (2, hw_vr b l2), (3, .int l3)] → W p l e room_1 s m #[Value.ref scr] below meth c H locs (55 + (j + 1) * 4 + 0) (5876 + (j + 1) * 348 + 0) (lw_Z below #[Value.ref scr] s) (F0 m 18 ls [])) {l1 : Option Nat} {l2 : Option Nat} {l3 : Int32} {σ : hw_S} {H : Heap} {locs : List Loc} (hm : mL_b1256 xs N k18 l1 l2 l3 σ = some (1, τ)) (hR : hw_R D b σ H) (hS : va_S (fun q => b ≤ q) s.heap H locs) {ls : Array Slot} (hl : hw_L ls 4 255 [(0, .ref scr), (1, hw_vr b l1), (2, hw_vr b l2), (3, .int l3)]) : W p l e room_1 s m #[Value.ref scr] below meth c H locs (55 + j * 4 + 0) (5876 + j * 348 + 0) (lw_Z below #[Value.ref scr] s) (F0 m 1256 ls []) := by
  obtain ⟨hx, hb, hml, hr, hown, hts, hlk, hE, hbs, hsb, hX⟩ := id C0
  have hown : s.vm.findClass RL = some m.cls := hown
  have hK := hE.1
  have hsz : scr < s.heap.size := by omega
  unfold mL_b1256 at hm
  refine hw_aload_n hx hb dL_law_1256 rfl (hl.at 1 rfl) ?_
  obtain ⟨a1257, g1257, hm⟩ := hw_bs hm
  obtain ⟨h1257, ht1257⟩ := hw_rv_of g1257
  rw [h1257]
  obtain ⟨v1257, σ1257, e1257, hm⟩ := hw_bs2 hm
  refine hw_cWI (va_runV (As := []) (rest := []) ⟨hx, hb, hml, hown, hts⟩ (c11_undo l D b e1257) (cwV 0 hts (hw_gV hw_m1053 hw_m1054 hw_m1055 hw_m2 hw_m1056) rfl rfl rfl (by decide +kernel) ⟨(Nat.le_of_ble_eq_true rfl), (Nat.le_of_ble_eq_true rfl)⟩) (hw_preV (ci := 11) hE hR rfl (by decide) (hw_q_of ht1257)) rfl rfl hl.sz rfl (lv_room (Nat.le_of_ble_eq_true rfl)) dL_law_1257 ⟨(by have h9 : room_1.cells = 600000 := rfl; have h8 : room_1.slots = 7302250 := rfl; omega), (by have h9 : room_1.cells = 600000 := rfl; have h8 : room_1.slots = 7302250 := rfl; omega)⟩) hS (fun _ _ hR hS => ?_)
  refine hw_aload_n hx hb dL_law_1260 rfl (hl.at 2 rfl) ?_
  obtain ⟨a1261, g1261, hm⟩ := hw_bs hm
  obtain ⟨h1261, ht1261⟩ := hw_rv_of g1261
  rw [h1261]
  obtain ⟨v1261, σ1261, e1261, hm⟩ := hw_bs2 hm
  refine hw_cWI (va_runV (As := []) (rest := [.int v1257]) ⟨hx, hb, hml, hown, hts⟩ (c12_undo l D b e1261) (cwV 0 hts (hw_gV hw_m1057 hw_m1058 hw_m1059 hw_m5 hw_m1060) rfl rfl rfl (by decide +kernel) ⟨(Nat.le_of_ble_eq_true rfl), (Nat.le_of_ble_eq_true rfl)⟩) (hw_preV (ci := 12) hE hR rfl (by decide) (hw_q_of ht1261)) rfl rfl hl.sz rfl (lv_room (Nat.le_of_ble_eq_true rfl)) dL_law_1261 ⟨(by have h9 : room_1.cells = 600000 := rfl; have h8 : room_1.slots = 7302250 := rfl; omega), (by have h9 : room_1.cells = 600000 := rfl; have h8 : room_1.slots = 7302250 := rfl; omega)⟩) hS (fun _ _ hR hS => ?_)
  refine lv_icmp_eq (tgt := 1292) hx hb dL_law_1264 (by decide) (fun c1264 => ?_) (fun c1264 => ?_)
  · have hm := hw_ip hm c1264
    refine W.widen (k := 55 + j * 4 + 4) (n := 5876 + j * 348 + 348) (by omega) (by omega) ?_
    exact wL_b1292 C0 hG hj hk18 hm hR hS (hl.sub [0, 1, 2, 3] rfl)
  · have hm := hw_in hm c1264
    refine lv_iconst (v := 0) hx hb dL_law_1267 (by decide) ?_
    exact hw_lret hx hb hr hlk hS hbs (by omega) (by omega) hm dL_law_1268
set_option maxRecDepth 100000 in
theorem wL_b1269 {p : Program} {e : Env} {s : State} {m : MethodId} {below : List Frame} {meth : Method} {c : Code} {D : hw_D} {l : Launch} {b scr N : Nat} {xs : Nat → Int32} {g : hw_Sd} {k18 : Option Nat → Option Nat → Int32 → hw_S → Option (Int32 × hw_S)} {τ : hw_S} (C0 : hw_CL p s m meth c D b scr N xs) (hG : hw_G g b s s.heap) {j n : Nat} (hj : j + (n + 1) = 513) (hk18 : ∀ {l1 : Option Nat} {l2 : Option Nat} {l3 : Int32} {σ : hw_S} {H : Heap} {locs : List Loc} {ls : Array Slot}, k18 l1 l2 l3 σ = some (1, τ) → hw_R D b σ H → va_S (fun q => b ≤ q) s.heap H locs → hw_L ls 4 255 [(0, .ref scr), (1, hw_vr b l1), (2, hw_vr b l2), (3, .int l3)] → W p l e room_1 s m #[Value.ref scr] below meth c H locs (55 + (j + 1) * 4 + 0) (5876 + (j + 1) * 348 + 0) (lw_Z below #[Value.ref scr] s) (F0 m 18 ls [])) {l1 : Option Nat} {l2 : Option Nat} {l3 : Int32} {σ : hw_S} {H : Heap} {locs : List Loc} (hm : mL_b1269 xs N k18 l1 l2 l3 σ = some (1, τ)) (hR : hw_R D b σ H) (hS : va_S (fun q => b ≤ q) s.heap H locs) {ls : Array Slot} (hl : hw_L ls 4 255 [(0, .ref scr), (1, hw_vr b l1), (2, hw_vr b l2), (3, .int l3)]) : W p l e room_1 s m #[Value.ref scr] below meth c H locs (55 + j * 4 + 0) (5876 + j * 348 + 0) (lw_Z below #[Value.ref scr] s) (F0 m 1269 ls []) := by
  obtain ⟨hx, hb, hml, hr, hown, hts, hlk, hE, hbs, hsb, hX⟩ := id C0
  have hown : s.vm.findClass RL = some m.cls := hown
  have hK := hE.1
  have hsz : scr < s.heap.size := by omega
  unfold mL_b1269 at hm
  refine hw_aload_n hx hb dL_law_1269 rfl (hl.at 1 rfl) ?_
  refine lv_aload_n hx hb dL_law_1270 rfl (hl.at 0 rfl) ?_
  refine lv_iload_n hx hb dL_law_1271 rfl (hl.at 3 rfl) ?_
  refine lv_iconst (v := 1) hx hb dL_law_1272 (by decide) ?_
  refine lv_iadd hx hb dL_law_1273 ?_
  obtain ⟨v1274, e1274, hm⟩ := hw_bs hm
  refine hw_sxr hx hb hX hS hsb hsz e1274 dL_law_1274 ?_
  obtain ⟨a1275, g1275, hm⟩ := hw_bs hm
  obtain ⟨h1275, ht1275⟩ := hw_rv_of g1275
  rw [h1275]
  obtain ⟨v1275, e1275, hm⟩ := hw_bs hm
  refine hw_cRI (va_runV (As := [.int v1274]) (rest := []) ⟨hx, hb, hml, hown, hts⟩ (c11_count l D b e1275) (cwV 1 hts (hw_gV hw_m1061 hw_m1062 hw_m1063 hw_m2 hw_m1064) rfl rfl rfl (by decide +kernel) ⟨(Nat.le_of_ble_eq_true rfl), (Nat.le_of_ble_eq_true rfl)⟩) (hw_preV (ci := 11) hE hR rfl (by decide) (hw_q_of ht1275)) rfl rfl hl.sz rfl (lv_room (Nat.le_of_ble_eq_true rfl)) dL_law_1275 ⟨(by have h9 : room_1.cells = 600000 := rfl; have h8 : room_1.slots = 7302250 := rfl; omega), (by have h9 : room_1.cells = 600000 := rfl; have h8 : room_1.slots = 7302250 := rfl; omega)⟩) ?_
  refine hw_aload_n hx hb dL_law_1278 rfl (hl.at 2 rfl) ?_
  refine lv_aload_n hx hb dL_law_1279 rfl (hl.at 0 rfl) ?_
  refine lv_iload_n hx hb dL_law_1280 rfl (hl.at 3 rfl) ?_
  refine lv_iconst (v := 1) hx hb dL_law_1281 (by decide) ?_
  refine lv_iadd hx hb dL_law_1282 ?_
  obtain ⟨v1283, e1283, hm⟩ := hw_bs hm
  refine hw_sxr hx hb hX hS hsb hsz e1283 dL_law_1283 ?_
  obtain ⟨a1284, g1284, hm⟩ := hw_bs hm
  obtain ⟨h1284, ht1284⟩ := hw_rv_of g1284
  rw [h1284]
  obtain ⟨v1284, e1284, hm⟩ := hw_bs hm
  refine hw_cRI (va_runV (As := [.int v1283]) (rest := [.int v1275]) ⟨hx, hb, hml, hown, hts⟩ (c12_count l D b e1284) (cwV 1 hts (hw_gV hw_m1066 hw_m1067 hw_m1068 hw_m5 hw_m1069) rfl rfl rfl (by decide +kernel) ⟨(Nat.le_of_ble_eq_true rfl), (Nat.le_of_ble_eq_true rfl)⟩) (hw_preV (ci := 12) hE hR rfl (by decide) (hw_q_of ht1284)) rfl rfl hl.sz rfl (lv_room (Nat.le_of_ble_eq_true rfl)) dL_law_1284 ⟨(by have h9 : room_1.cells = 600000 := rfl; have h8 : room_1.slots = 7302250 := rfl; omega), (by have h9 : room_1.cells = 600000 := rfl; have h8 : room_1.slots = 7302250 := rfl; omega)⟩) ?_
  refine lv_icmp_eq (tgt := 1292) hx hb dL_law_1287 (by decide) (fun c1287 => ?_) (fun c1287 => ?_)
  · have hm := hw_ip hm c1287
    refine W.widen (k := 55 + j * 4 + 4) (n := 5876 + j * 348 + 348) (by omega) (by omega) ?_
    exact wL_b1292 C0 hG hj hk18 hm hR hS (hl.sub [0, 1, 2, 3] rfl)
  · have hm := hw_in hm c1287
    refine lv_iconst (v := 0) hx hb dL_law_1290 (by decide) ?_
    exact hw_lret hx hb hr hlk hS hbs (by omega) (by omega) hm dL_law_1291
set_option maxRecDepth 100000 in
theorem wL_b18 {p : Program} {e : Env} {s : State} {m : MethodId} {below : List Frame} {meth : Method} {c : Code} {D : hw_D} {l : Launch} {b scr N : Nat} {xs : Nat → Int32} {g : hw_Sd} {τ : hw_S} (C0 : hw_CL p s m meth c D b scr N xs) (hG : hw_G g b s s.heap) : ∀ (n j : Nat) (hj : j + n = 513) {l1 : Option Nat} {l2 : Option Nat} {l3 : Int32} {σ : hw_S} {H : Heap} {locs : List Loc} {ls : Array Slot}, mL_b18 xs N n l1 l2 l3 σ = some (1, τ) → hw_R D b σ H → va_S (fun q => b ≤ q) s.heap H locs → hw_L ls 4 255 [(0, .ref scr), (1, hw_vr b l1), (2, hw_vr b l2), (3, .int l3)] → W p l e room_1 s m #[Value.ref scr] below meth c H locs (55 + j * 4 + 0) (5876 + j * 348 + 0) (lw_Z below #[Value.ref scr] s) (F0 m 18 ls []) := by
  obtain ⟨hx, hb, hml, hr, hown, hts, hlk, hE, hbs, hsb, hX⟩ := id C0
  have hown : s.vm.findClass RL = some m.cls := hown
  have hK := hE.1
  have hsz : scr < s.heap.size := by omega
  intro n
  induction n with
  | zero => intro j hj _ _ _ _ H locs ls hm; cases hm
  | succ n ih =>
    intro j hj l1 l2 l3 σ H locs ls hm hR hS hl
    rw [mL_b18] at hm
    refine lv_iload_n hx hb dL_law_18 rfl (hl.at 3 rfl) ?_
    refine lv_aload_n hx hb dL_law_19 rfl (hl.at 0 rfl) ?_
    refine hw_sxl hx hb hX hS hsb hsz dL_law_20 ?_
    refine lv_bipush (v := 7) hx hb dL_law_21 (by decide) ?_
    refine lv_isub hx hb dL_law_23 ?_
    refine lv_icmp_gt (tgt := 1298) hx hb dL_law_24 (by decide) (fun c24 => ?_) (fun c24 => ?_)
    · have hm := hw_ip hm c24
      refine lv_iconst (v := 1) hx hb dL_law_1298 (by decide) ?_
      exact hw_lret hx hb hr hlk hS hbs (by omega) (by omega) hm dL_law_1299
    · have hm := hw_in hm c24
      refine lv_aload_n hx hb dL_law_27 rfl (hl.at 0 rfl) ?_
      refine lv_iload_n hx hb dL_law_28 rfl (hl.at 3 rfl) ?_
      obtain ⟨v29, e29, hm⟩ := hw_bs hm
      refine hw_sxr hx hb hX hS hsb hsz e29 dL_law_29 ?_
      refine lv_bipush (v := 31) hx hb dL_law_30 (by decide) ?_
      refine lv_iand hx hb dL_law_32 ?_
      refine hw_case (v29 &&& (31 : Int32)) (0) (fun c33_0 => ?_) (fun c33_0 => ?_)
      · have hm := hw_ip hm c33_0
        refine lv_tableIn (off := 127) (tgt := 160) hx hb dL_law_33 (by rw [c33_0]; decide) (by rw [c33_0]; decide) (by rw [c33_0]; rfl) (by decide) ?_
        exact wL_b160 C0 hG hj (ih (j + 1) (by omega)) hm hR hS (hl.sub [0, 1, 2, 3] rfl)
      · have hm := hw_in hm c33_0
        refine hw_case (v29 &&& (31 : Int32)) (1) (fun c33_1 => ?_) (fun c33_1 => ?_)
        · have hm := hw_ip hm c33_1
          refine lv_tableIn (off := 160) (tgt := 193) hx hb dL_law_33 (by rw [c33_1]; decide) (by rw [c33_1]; decide) (by rw [c33_1]; rfl) (by decide) ?_
          exact wL_b193 C0 hG hj (ih (j + 1) (by omega)) hm hR hS (hl.sub [0, 1, 2, 3] rfl)
        · have hm := hw_in hm c33_1
          refine hw_case (v29 &&& (31 : Int32)) (2) (fun c33_2 => ?_) (fun c33_2 => ?_)
          · have hm := hw_ip hm c33_2
            refine lv_tableIn (off := 193) (tgt := 226) hx hb dL_law_33 (by rw [c33_2]; decide) (by rw [c33_2]; decide) (by rw [c33_2]; rfl) (by decide) ?_
            exact wL_b226 C0 hG hj (ih (j + 1) (by omega)) hm hR hS (hl.sub [0, 1, 2, 3] rfl)
          · have hm := hw_in hm c33_2
            refine hw_case (v29 &&& (31 : Int32)) (3) (fun c33_3 => ?_) (fun c33_3 => ?_)
            · have hm := hw_ip hm c33_3
              refine lv_tableIn (off := 256) (tgt := 289) hx hb dL_law_33 (by rw [c33_3]; decide) (by rw [c33_3]; decide) (by rw [c33_3]; rfl) (by decide) ?_
              exact wL_b289 C0 hG hj (ih (j + 1) (by omega)) hm hR hS (hl.sub [0, 1, 2, 3] rfl)
            · have hm := hw_in hm c33_3
              refine hw_case (v29 &&& (31 : Int32)) (4) (fun c33_4 => ?_) (fun c33_4 => ?_)
              · have hm := hw_ip hm c33_4
                refine lv_tableIn (off := 289) (tgt := 322) hx hb dL_law_33 (by rw [c33_4]; decide) (by rw [c33_4]; decide) (by rw [c33_4]; rfl) (by decide) ?_
                exact wL_b322 C0 hG hj (ih (j + 1) (by omega)) hm hR hS (hl.sub [0, 1, 2, 3] rfl)
              · have hm := hw_in hm c33_4
                refine hw_case (v29 &&& (31 : Int32)) (5) (fun c33_5 => ?_) (fun c33_5 => ?_)
                · have hm := hw_ip hm c33_5
                  refine lv_tableIn (off := 322) (tgt := 355) hx hb dL_law_33 (by rw [c33_5]; decide) (by rw [c33_5]; decide) (by rw [c33_5]; rfl) (by decide) ?_
                  exact wL_b355 C0 hG hj (ih (j + 1) (by omega)) hm hR hS (hl.sub [0, 1, 2, 3] rfl)
                · have hm := hw_in hm c33_5
                  refine hw_case (v29 &&& (31 : Int32)) (6) (fun c33_6 => ?_) (fun c33_6 => ?_)
                  · have hm := hw_ip hm c33_6
                    refine lv_tableIn (off := 375) (tgt := 408) hx hb dL_law_33 (by rw [c33_6]; decide) (by rw [c33_6]; decide) (by rw [c33_6]; rfl) (by decide) ?_
                    exact wL_b408 C0 hG hj (ih (j + 1) (by omega)) hm hR hS (hl.sub [0, 1, 2, 3] rfl)
                  · have hm := hw_in hm c33_6
                    refine hw_case (v29 &&& (31 : Int32)) (7) (fun c33_7 => ?_) (fun c33_7 => ?_)
                    · have hm := hw_ip hm c33_7
                      refine lv_tableIn (off := 398) (tgt := 431) hx hb dL_law_33 (by rw [c33_7]; decide) (by rw [c33_7]; decide) (by rw [c33_7]; rfl) (by decide) ?_
                      exact wL_b431 C0 hG hj (ih (j + 1) (by omega)) hm hR hS (hl.sub [0, 1, 2, 3] rfl)
                    · have hm := hw_in hm c33_7
                      refine hw_case (v29 &&& (31 : Int32)) (8) (fun c33_8 => ?_) (fun c33_8 => ?_)
                      · have hm := hw_ip hm c33_8
                        refine lv_tableIn (off := 441) (tgt := 474) hx hb dL_law_33 (by rw [c33_8]; decide) (by rw [c33_8]; decide) (by rw [c33_8]; rfl) (by decide) ?_
                        exact wL_b474 C0 hG hj (ih (j + 1) (by omega)) hm hR hS (hl.sub [0, 1, 2, 3] rfl)
                      · have hm := hw_in hm c33_8
                        refine hw_case (v29 &&& (31 : Int32)) (9) (fun c33_9 => ?_) (fun c33_9 => ?_)
                        · have hm := hw_ip hm c33_9
                          refine lv_tableIn (off := 520) (tgt := 553) hx hb dL_law_33 (by rw [c33_9]; decide) (by rw [c33_9]; decide) (by rw [c33_9]; rfl) (by decide) ?_
                          exact wL_b553 C0 hG hj (ih (j + 1) (by omega)) hm hR hS (hl.sub [0, 1, 2, 3] rfl)
                        · have hm := hw_in hm c33_9
                          refine hw_case (v29 &&& (31 : Int32)) (10) (fun c33_10 => ?_) (fun c33_10 => ?_)
                          · have hm := hw_ip hm c33_10
                            refine lv_tableIn (off := 583) (tgt := 616) hx hb dL_law_33 (by rw [c33_10]; decide) (by rw [c33_10]; decide) (by rw [c33_10]; rfl) (by decide) ?_
                            exact wL_b616 C0 hG hj (ih (j + 1) (by omega)) hm hR hS (hl.sub [0, 1, 2, 3] rfl)
                          · have hm := hw_in hm c33_10
                            refine hw_case (v29 &&& (31 : Int32)) (11) (fun c33_11 => ?_) (fun c33_11 => ?_)
                            · have hm := hw_ip hm c33_11
                              refine lv_tableIn (off := 636) (tgt := 669) hx hb dL_law_33 (by rw [c33_11]; decide) (by rw [c33_11]; decide) (by rw [c33_11]; rfl) (by decide) ?_
                              exact wL_b669 C0 hG hj (ih (j + 1) (by omega)) hm hR hS (hl.sub [0, 1, 2, 3] rfl)
                            · have hm := hw_in hm c33_11
                              refine hw_case (v29 &&& (31 : Int32)) (12) (fun c33_12 => ?_) (fun c33_12 => ?_)
                              · have hm := hw_ip hm c33_12
                                refine lv_tableIn (off := 689) (tgt := 722) hx hb dL_law_33 (by rw [c33_12]; decide) (by rw [c33_12]; decide) (by rw [c33_12]; rfl) (by decide) ?_
                                exact wL_b722 C0 hG hj (ih (j + 1) (by omega)) hm hR hS (hl.sub [0, 1, 2, 3] rfl)
                              · have hm := hw_in hm c33_12
                                refine hw_case (v29 &&& (31 : Int32)) (13) (fun c33_13 => ?_) (fun c33_13 => ?_)
                                · have hm := hw_ip hm c33_13
                                  refine lv_tableIn (off := 712) (tgt := 745) hx hb dL_law_33 (by rw [c33_13]; decide) (by rw [c33_13]; decide) (by rw [c33_13]; rfl) (by decide) ?_
                                  exact wL_b745 C0 hG hj (ih (j + 1) (by omega)) hm hR hS (hl.sub [0, 1, 2, 3] rfl)
                                · have hm := hw_in hm c33_13
                                  refine hw_case (v29 &&& (31 : Int32)) (14) (fun c33_14 => ?_) (fun c33_14 => ?_)
                                  · have hm := hw_ip hm c33_14
                                    refine lv_tableIn (off := 775) (tgt := 808) hx hb dL_law_33 (by rw [c33_14]; decide) (by rw [c33_14]; decide) (by rw [c33_14]; rfl) (by decide) ?_
                                    exact wL_b808 C0 hG hj (ih (j + 1) (by omega)) hm hR hS (hl.sub [0, 1, 2, 3] rfl)
                                  · have hm := hw_in hm c33_14
                                    refine hw_case (v29 &&& (31 : Int32)) (15) (fun c33_15 => ?_) (fun c33_15 => ?_)
                                    · have hm := hw_ip hm c33_15
                                      refine lv_tableIn (off := 828) (tgt := 861) hx hb dL_law_33 (by rw [c33_15]; decide) (by rw [c33_15]; decide) (by rw [c33_15]; rfl) (by decide) ?_
                                      exact wL_b861 C0 hG hj (ih (j + 1) (by omega)) hm hR hS (hl.sub [0, 1, 2, 3] rfl)
                                    · have hm := hw_in hm c33_15
                                      refine hw_case (v29 &&& (31 : Int32)) (16) (fun c33_16 => ?_) (fun c33_16 => ?_)
                                      · have hm := hw_ip hm c33_16
                                        refine lv_tableIn (off := 871) (tgt := 904) hx hb dL_law_33 (by rw [c33_16]; decide) (by rw [c33_16]; decide) (by rw [c33_16]; rfl) (by decide) ?_
                                        exact wL_b904 C0 hG hj (ih (j + 1) (by omega)) hm hR hS (hl.sub [0, 1, 2, 3] rfl)
                                      · have hm := hw_in hm c33_16
                                        refine hw_case (v29 &&& (31 : Int32)) (17) (fun c33_17 => ?_) (fun c33_17 => ?_)
                                        · have hm := hw_ip hm c33_17
                                          refine lv_tableIn (off := 894) (tgt := 927) hx hb dL_law_33 (by rw [c33_17]; decide) (by rw [c33_17]; decide) (by rw [c33_17]; rfl) (by decide) ?_
                                          exact wL_b927 C0 hG hj (ih (j + 1) (by omega)) hm hR hS (hl.sub [0, 1, 2, 3] rfl)
                                        · have hm := hw_in hm c33_17
                                          refine hw_case (v29 &&& (31 : Int32)) (18) (fun c33_18 => ?_) (fun c33_18 => ?_)
                                          · have hm := hw_ip hm c33_18
                                            refine lv_tableIn (off := 907) (tgt := 940) hx hb dL_law_33 (by rw [c33_18]; decide) (by rw [c33_18]; decide) (by rw [c33_18]; rfl) (by decide) ?_
                                            exact wL_b940 C0 hG hj (ih (j + 1) (by omega)) hm hR hS (hl.sub [0, 1, 2, 3] rfl)
                                          · have hm := hw_in hm c33_18
                                            refine hw_case (v29 &&& (31 : Int32)) (19) (fun c33_19 => ?_) (fun c33_19 => ?_)
                                            · have hm := hw_ip hm c33_19
                                              refine lv_tableIn (off := 940) (tgt := 973) hx hb dL_law_33 (by rw [c33_19]; decide) (by rw [c33_19]; decide) (by rw [c33_19]; rfl) (by decide) ?_
                                              exact wL_b973 C0 hG hj (ih (j + 1) (by omega)) hm hR hS (hl.sub [0, 1, 2, 3] rfl)
                                            · have hm := hw_in hm c33_19
                                              refine hw_case (v29 &&& (31 : Int32)) (20) (fun c33_20 => ?_) (fun c33_20 => ?_)
                                              · have hm := hw_ip hm c33_20
                                                refine lv_tableIn (off := 1015) (tgt := 1048) hx hb dL_law_33 (by rw [c33_20]; decide) (by rw [c33_20]; decide) (by rw [c33_20]; rfl) (by decide) ?_
                                                exact wL_b1048 C0 hG hj (ih (j + 1) (by omega)) hm hR hS (hl.sub [0, 1, 2, 3] rfl)
                                              · have hm := hw_in hm c33_20
                                                refine hw_case (v29 &&& (31 : Int32)) (21) (fun c33_21 => ?_) (fun c33_21 => ?_)
                                                · have hm := hw_ip hm c33_21
                                                  refine lv_tableIn (off := 1048) (tgt := 1081) hx hb dL_law_33 (by rw [c33_21]; decide) (by rw [c33_21]; decide) (by rw [c33_21]; rfl) (by decide) ?_
                                                  exact wL_b1081 C0 hG hj (ih (j + 1) (by omega)) hm hR hS (hl.sub [0, 1, 2, 3] rfl)
                                                · have hm := hw_in hm c33_21
                                                  refine hw_case (v29 &&& (31 : Int32)) (22) (fun c33_22 => ?_) (fun c33_22 => ?_)
                                                  · have hm := hw_ip hm c33_22
                                                    refine lv_tableIn (off := 1111) (tgt := 1144) hx hb dL_law_33 (by rw [c33_22]; decide) (by rw [c33_22]; decide) (by rw [c33_22]; rfl) (by decide) ?_
                                                    exact wL_b1144 C0 hG hj (ih (j + 1) (by omega)) hm hR hS (hl.sub [0, 1, 2, 3] rfl)
                                                  · have hm := hw_in hm c33_22
                                                    refine hw_case (v29 &&& (31 : Int32)) (23) (fun c33_23 => ?_) (fun c33_23 => ?_)
                                                    · have hm := hw_ip hm c33_23
                                                      refine lv_tableIn (off := 1154) (tgt := 1187) hx hb dL_law_33 (by rw [c33_23]; decide) (by rw [c33_23]; decide) (by rw [c33_23]; rfl) (by decide) ?_
                                                      exact wL_b1187 C0 hG hj (ih (j + 1) (by omega)) hm hR hS (hl.sub [0, 1, 2, 3] rfl)
                                                    · have hm := hw_in hm c33_23
                                                      refine hw_case (v29 &&& (31 : Int32)) (24) (fun c33_24 => ?_) (fun c33_24 => ?_)
                                                      · have hm := hw_ip hm c33_24
                                                        refine lv_tableIn (off := 1177) (tgt := 1210) hx hb dL_law_33 (by rw [c33_24]; decide) (by rw [c33_24]; decide) (by rw [c33_24]; rfl) (by decide) ?_
                                                        exact wL_b1210 C0 hG hj (ih (j + 1) (by omega)) hm hR hS (hl.sub [0, 1, 2, 3] rfl)
                                                      · have hm := hw_in hm c33_24
                                                        refine hw_case (v29 &&& (31 : Int32)) (25) (fun c33_25 => ?_) (fun c33_25 => ?_)
                                                        · have hm := hw_ip hm c33_25
                                                          refine lv_tableIn (off := 1210) (tgt := 1243) hx hb dL_law_33 (by rw [c33_25]; decide) (by rw [c33_25]; decide) (by rw [c33_25]; rfl) (by decide) ?_
                                                          exact wL_b1243 C0 hG hj (ih (j + 1) (by omega)) hm hR hS (hl.sub [0, 1, 2, 3] rfl)
                                                        · have hm := hw_in hm c33_25
                                                          refine hw_case (v29 &&& (31 : Int32)) (26) (fun c33_26 => ?_) (fun c33_26 => ?_)
                                                          · have hm := hw_ip hm c33_26
                                                            refine lv_tableIn (off := 1223) (tgt := 1256) hx hb dL_law_33 (by rw [c33_26]; decide) (by rw [c33_26]; decide) (by rw [c33_26]; rfl) (by decide) ?_
                                                            exact wL_b1256 C0 hG hj (ih (j + 1) (by omega)) hm hR hS (hl.sub [0, 1, 2, 3] rfl)
                                                          · have hm := hw_in hm c33_26
                                                            refine hw_case (v29 &&& (31 : Int32)) (27) (fun c33_27 => ?_) (fun c33_27 => ?_)
                                                            · have hm := hw_ip hm c33_27
                                                              refine lv_tableIn (off := 1236) (tgt := 1269) hx hb dL_law_33 (by rw [c33_27]; decide) (by rw [c33_27]; decide) (by rw [c33_27]; rfl) (by decide) ?_
                                                              exact wL_b1269 C0 hG hj (ih (j + 1) (by omega)) hm hR hS (hl.sub [0, 1, 2, 3] rfl)
                                                            · have hm := hw_in hm c33_27
                                                              refine lv_tableOut (tgt := 1292) hx hb dL_law_33 (by have h0 := hw_ne (0) c33_0 rfl; have h1 := hw_ne (1) c33_1 rfl; have h2 := hw_ne (2) c33_2 rfl; have h3 := hw_ne (3) c33_3 rfl; have h4 := hw_ne (4) c33_4 rfl; have h5 := hw_ne (5) c33_5 rfl; have h6 := hw_ne (6) c33_6 rfl; have h7 := hw_ne (7) c33_7 rfl; have h8 := hw_ne (8) c33_8 rfl; have h9 := hw_ne (9) c33_9 rfl; have h10 := hw_ne (10) c33_10 rfl; have h11 := hw_ne (11) c33_11 rfl; have h12 := hw_ne (12) c33_12 rfl; have h13 := hw_ne (13) c33_13 rfl; have h14 := hw_ne (14) c33_14 rfl; have h15 := hw_ne (15) c33_15 rfl; have h16 := hw_ne (16) c33_16 rfl; have h17 := hw_ne (17) c33_17 rfl; have h18 := hw_ne (18) c33_18 rfl; have h19 := hw_ne (19) c33_19 rfl; have h20 := hw_ne (20) c33_20 rfl; have h21 := hw_ne (21) c33_21 rfl; have h22 := hw_ne (22) c33_22 rfl; have h23 := hw_ne (23) c33_23 rfl; have h24 := hw_ne (24) c33_24 rfl; have h25 := hw_ne (25) c33_25 rfl; have h26 := hw_ne (26) c33_26 rfl; have h27 := hw_ne (27) c33_27 rfl; omega) (by decide) ?_
                                                              refine W.widen (k := 55 + j * 4 + 4) (n := 5876 + j * 348 + 348) (by omega) (by omega) ?_
                                                              exact wL_b1292 C0 hG hj (ih (j + 1) (by omega)) hm hR hS (hl.sub [0, 1, 2, 3] rfl)
set_option maxRecDepth 100000 in
theorem wL_s {p : Program} {e : Env} {s : State} {m : MethodId} {below : List Frame} {meth : Method} {c : Code} {D : hw_D} {l : Launch} {b scr N : Nat} {xs : Nat → Int32} {g : hw_Sd} {σ τ : hw_S} {H : Heap} {locs : List Loc} (hm : mL xs N σ = some (1, τ)) (C0 : hw_CL p s m meth c D b scr N xs) (hG : hw_G g b s s.heap) (hR : hw_R D b σ H) (hS : va_S (fun q => b ≤ q) s.heap H locs) {ls : Array Slot} (hl : hw_L ls 4 255 [(0, .ref scr)]) : W p l e room_1 s m #[Value.ref scr] below meth c H locs 0 0 (lw_Z below #[Value.ref scr] s) (F0 m 0 ls []) := by
  obtain ⟨hx, hb, hml, hr, hown, hts, hlk, hE, hbs, hsb, hX⟩ := id C0
  have hown : s.vm.findClass RL = some m.cls := hown
  have hK := hE.1
  have hsz : scr < s.heap.size := by omega
  unfold mL at hm
  obtain ⟨v0, σ0, e0, hm⟩ := hw_bs2 hm
  refine hw_newO (ci := 11) (N := 13) (C := RX11) (T := TX11) (ty := tyX11) hx hb rfl (by decide) inlX11 rfl tyX11_ok (hw_df11) hts hown hK hR hS (hts _ hw_m0) (hts _ hw_m1) (hts _ hw_m2) e0 (Nat.le_of_ble_eq_true rfl) (Nat.le_of_ble_eq_true rfl) dL_law_0 (fun _ hR hS => ?_)
  refine lv_dup hx hb dL_law_3 (hw_vr_cat _ _) ?_
  obtain ⟨σ4, e4, hm⟩ := hw_bs hm
  refine hw_cWV (va_runI (As := []) (rest := [hw_vr b (some v0)]) ⟨hx, hb, hml, hown, hts⟩ (c11_init l D b e4) (cwI 0 hts (hw_gC hw_m9) rfl rfl rfl (hts _ hw_m2) (hts _ hw_m7) (hts _ hw_m8) rfl (by decide +kernel) ⟨(Nat.le_of_ble_eq_true rfl), (Nat.le_of_ble_eq_true rfl)⟩) (hw_pre1 hE hR) rfl rfl hl.sz rfl (lv_room (hw_sm (List.forall_mem_cons.mpr ⟨(hw_vr_cat _ _), (fun _ h => absurd h List.not_mem_nil)⟩) (Nat.le_of_ble_eq_true rfl))) dL_law_4 ⟨(Nat.le_of_ble_eq_true rfl), (Nat.le_of_ble_eq_true rfl)⟩) hS (fun _ _ hR hS => ?_)
  refine hw_asto_n (lv' := [(1, hw_vr b (some v0)), (0, .ref scr)]) hx hb dL_law_7 rfl hl (by decide) (by decide) rfl (fun ls hl => ?_)
  obtain ⟨v8, σ8, e8, hm⟩ := hw_bs2 hm
  refine hw_newO (ci := 12) (N := 26) (C := RX12) (T := TX12) (ty := tyX12) hx hb rfl (by decide) inlX12 rfl tyX12_ok (hw_df12) hts hown hK hR hS (hts _ hw_m3) (hts _ hw_m4) (hts _ hw_m5) e8 (Nat.le_of_ble_eq_true rfl) (Nat.le_of_ble_eq_true rfl) dL_law_8 (fun _ hR hS => ?_)
  refine lv_dup hx hb dL_law_11 (hw_vr_cat _ _) ?_
  obtain ⟨σ12, e12, hm⟩ := hw_bs hm
  refine hw_cWV (va_runI (As := []) (rest := [hw_vr b (some v8)]) ⟨hx, hb, hml, hown, hts⟩ (c12_init l D b e12) (cwI 0 hts (hw_gC hw_m74) rfl rfl rfl (hts _ hw_m5) (hts _ hw_m72) (hts _ hw_m73) rfl (by decide +kernel) ⟨(Nat.le_of_ble_eq_true rfl), (Nat.le_of_ble_eq_true rfl)⟩) (hw_pre1 hE hR) rfl rfl hl.sz rfl (lv_room (hw_sm (List.forall_mem_cons.mpr ⟨(hw_vr_cat _ _), (fun _ h => absurd h List.not_mem_nil)⟩) (Nat.le_of_ble_eq_true rfl))) dL_law_12 ⟨(Nat.le_of_ble_eq_true rfl), (Nat.le_of_ble_eq_true rfl)⟩) hS (fun _ _ hR hS => ?_)
  refine hw_asto_n (lv' := [(2, hw_vr b (some v8)), (1, hw_vr b (some v0)), (0, .ref scr)]) hx hb dL_law_15 rfl hl (by decide) (by decide) rfl (fun ls hl => ?_)
  refine lv_iconst (v := 0) hx hb dL_law_16 (by decide) ?_
  refine hw_istore_n (lv' := [(3, .int (0 : Int32)), (2, hw_vr b (some v8)), (1, hw_vr b (some v0)), (0, .ref scr)]) hx hb dL_law_17 rfl hl (by decide) (by decide) rfl (fun ls hl => ?_)
  exact wL_b18 C0 hG 513 0 (by omega) hm hR hS (hl.sub [3, 2, 1, 0] rfl)

