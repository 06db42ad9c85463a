theorem hw_eqr {args : Array Value} {s : State} {t u : Term} {a : Nat} (h : (Cond.eq t u).before args s = true) (ht : t.eval args s none [] s = some (.ref a)) : u.eval args s none [] s = some (.ref a) := by
  cases hu : u.eval args s none [] s with
  | none => simp [Cond.before, Cond.holds, Cond.value, ht, hu] at h
  | some w =>
    simp only [Cond.before, Cond.holds, Cond.value, ht, hu] at h
    cases w <;> simp_all
def hw_tm (i : Nat) : Term := match i with
  | 0 => Term.string "HoneyWinds$Reader" 77
  | 1 => Term.string "HoneyWinds$Reader" 79
  | 2 => Term.string "HoneyWinds$Reader" 81
  | 3 => Term.string "HoneyWinds$Reader" 83
  | 4 => Term.string "HoneyWinds$Reader" 85
  | 5 => Term.string "HoneyWindsModel" 107
  | _ => Term.string "HoneyWindsModel" 113
set_option maxRecDepth 20000 in
theorem hw_z1 {s : State} {scr : Nat} (hT : ∀ w ∈ tables_1, w.before #[Value.ref scr] s = true) (hN : ∀ w ∈ flatC (Jvm.Cond.and given_1 narrow_1), w.before #[Value.ref scr] s = true) : ∀ i : Nat, i < 7 → (Cond.exactly (hw_tm i) "java/lang/String").before #[Value.ref scr] s = true :=
  fun i hi => match i, hi with
    | 0, _ => (hN _ (List.mem_of_getElem? (i := 140) (by decide +kernel)))
    | 1, _ => (hN _ (List.mem_of_getElem? (i := 149) (by decide +kernel)))
    | 2, _ => (hN _ (List.mem_of_getElem? (i := 159) (by decide +kernel)))
    | 3, _ => (hN _ (List.mem_of_getElem? (i := 170) (by decide +kernel)))
    | 4, _ => (hN _ (List.mem_of_getElem? (i := 182) (by decide +kernel)))
    | 5, _ => (hN _ (List.mem_of_getElem? (i := 209) (by decide +kernel)))
    | 6, _ => (hN _ (List.mem_of_getElem? (i := 224) (by decide +kernel)))
    | k + 7, h => absurd h (Nat.not_lt.mpr (Nat.le_add_left 7 k))
set_option maxRecDepth 20000 in
theorem hw_z2 {s : State} {scr : Nat} (hT : ∀ w ∈ tables_1, w.before #[Value.ref scr] s = true) (hN : ∀ w ∈ flatC (Jvm.Cond.and given_1 narrow_1), w.before #[Value.ref scr] s = true) : ∀ i : Nat, i < 7 → (Cond.eq (.field (hw_tm i) "java/lang/String" "coder" "B") (.int 0)).before #[Value.ref scr] s = true :=
  fun i hi => match i, hi with
    | 0, _ => (hN _ (List.mem_of_getElem? (i := 141) (by decide +kernel)))
    | 1, _ => (hN _ (List.mem_of_getElem? (i := 150) (by decide +kernel)))
    | 2, _ => (hN _ (List.mem_of_getElem? (i := 160) (by decide +kernel)))
    | 3, _ => (hN _ (List.mem_of_getElem? (i := 171) (by decide +kernel)))
    | 4, _ => (hN _ (List.mem_of_getElem? (i := 183) (by decide +kernel)))
    | 5, _ => (hN _ (List.mem_of_getElem? (i := 210) (by decide +kernel)))
    | 6, _ => (hN _ (List.mem_of_getElem? (i := 225) (by decide +kernel)))
    | k + 7, h => absurd h (Nat.not_lt.mpr (Nat.le_add_left 7 k))
set_option maxRecDepth 20000 in
theorem hw_z3 {s : State} {scr : Nat} (hT : ∀ w ∈ tables_1, w.before #[Value.ref scr] s = true) (hN : ∀ w ∈ flatC (Jvm.Cond.and given_1 narrow_1), w.before #[Value.ref scr] s = true) : ∀ i : Nat, i < 7 → (Cond.arrayOf (.field (hw_tm i) "java/lang/String" "value" "[B") .byte).before #[Value.ref scr] s = true :=
  fun i hi => match i, hi with
    | 0, _ => (hN _ (List.mem_of_getElem? (i := 142) (by decide +kernel)))
    | 1, _ => (hN _ (List.mem_of_getElem? (i := 151) (by decide +kernel)))
    | 2, _ => (hN _ (List.mem_of_getElem? (i := 161) (by decide +kernel)))
    | 3, _ => (hN _ (List.mem_of_getElem? (i := 172) (by decide +kernel)))
    | 4, _ => (hN _ (List.mem_of_getElem? (i := 184) (by decide +kernel)))
    | 5, _ => (hN _ (List.mem_of_getElem? (i := 211) (by decide +kernel)))
    | 6, _ => (hN _ (List.mem_of_getElem? (i := 226) (by decide +kernel)))
    | k + 7, h => absurd h (Nat.not_lt.mpr (Nat.le_add_left 7 k))
set_option maxRecDepth 20000 in
theorem hw_z4 {s : State} {scr : Nat} (hT : ∀ w ∈ tables_1, w.before #[Value.ref scr] s = true) (hN : ∀ w ∈ flatC (Jvm.Cond.and given_1 narrow_1), w.before #[Value.ref scr] s = true) : ∀ i : Nat, i < 7 → (Cond.eq (.length (.field (hw_tm i) "java/lang/String" "value" "[B")) (.int (Int32.ofNat (hw_slen.getD i 0)))).before #[Value.ref scr] s = true :=
  fun i hi => match i, hi with
    | 0, _ => (hN _ (List.mem_of_getElem? (i := 143) (by decide +kernel)))
    | 1, _ => (hN _ (List.mem_of_getElem? (i := 152) (by decide +kernel)))
    | 2, _ => (hN _ (List.mem_of_getElem? (i := 162) (by decide +kernel)))
    | 3, _ => (hN _ (List.mem_of_getElem? (i := 173) (by decide +kernel)))
    | 4, _ => (hN _ (List.mem_of_getElem? (i := 185) (by decide +kernel)))
    | 5, _ => (hN _ (List.mem_of_getElem? (i := 212) (by decide +kernel)))
    | 6, _ => (hN _ (List.mem_of_getElem? (i := 227) (by decide +kernel)))
    | k + 7, h => absurd h (Nat.not_lt.mpr (Nat.le_add_left 7 k))
set_option maxRecDepth 20000 in
theorem hw_z5 {s : State} {scr : Nat} (hT : ∀ w ∈ tables_1, w.before #[Value.ref scr] s = true) (hN : ∀ w ∈ flatC (Jvm.Cond.and given_1 narrow_1), w.before #[Value.ref scr] s = true) : ∀ i : Nat, i < 7 → ∀ j : Nat, j < hw_slen.getD i 0 → (Cond.eq (.elem (.field (hw_tm i) "java/lang/String" "value" "[B") (.int (Int32.ofNat j))) (.int ((hw_strs.getD i []).getD j 0))).before #[Value.ref scr] s = true :=
  fun i hi => match i, hi with
    | 0, _ => fun j hj => match j, hj with
      | 0, _ => (hN _ (List.mem_of_getElem? (i := 144) (by decide +kernel)))
      | 1, _ => (hN _ (List.mem_of_getElem? (i := 145) (by decide +kernel)))
      | 2, _ => (hN _ (List.mem_of_getElem? (i := 146) (by decide +kernel)))
      | 3, _ => (hN _ (List.mem_of_getElem? (i := 147) (by decide +kernel)))
      | 4, _ => (hN _ (List.mem_of_getElem? (i := 148) (by decide +kernel)))
      | k + 5, h => absurd h (Nat.not_lt.mpr (Nat.le_add_left 5 k))
    | 1, _ => fun j hj => match j, hj with
      | 0, _ => (hN _ (List.mem_of_getElem? (i := 153) (by decide +kernel)))
      | 1, _ => (hN _ (List.mem_of_getElem? (i := 154) (by decide +kernel)))
      | 2, _ => (hN _ (List.mem_of_getElem? (i := 155) (by decide +kernel)))
      | 3, _ => (hN _ (List.mem_of_getElem? (i := 156) (by decide +kernel)))
      | 4, _ => (hN _ (List.mem_of_getElem? (i := 157) (by decide +kernel)))
      | k + 5, h => absurd h (Nat.not_lt.mpr (Nat.le_add_left 5 k))
    | 2, _ => fun j hj => match j, hj with
      | 0, _ => (hN _ (List.mem_of_getElem? (i := 163) (by decide +kernel)))
      | 1, _ => (hN _ (List.mem_of_getElem? (i := 164) (by decide +kernel)))
      | 2, _ => (hN _ (List.mem_of_getElem? (i := 165) (by decide +kernel)))
      | 3, _ => (hN _ (List.mem_of_getElem? (i := 166) (by decide +kernel)))
      | 4, _ => (hN _ (List.mem_of_getElem? (i := 167) (by decide +kernel)))
      | k + 5, h => absurd h (Nat.not_lt.mpr (Nat.le_add_left 5 k))
    | 3, _ => fun j hj => match j, hj with
      | 0, _ => (hN _ (List.mem_of_getElem? (i := 174) (by decide +kernel)))
      | 1, _ => (hN _ (List.mem_of_getElem? (i := 175) (by decide +kernel)))
      | 2, _ => (hN _ (List.mem_of_getElem? (i := 176) (by decide +kernel)))
      | 3, _ => (hN _ (List.mem_of_getElem? (i := 177) (by decide +kernel)))
      | 4, _ => (hN _ (List.mem_of_getElem? (i := 178) (by decide +kernel)))
      | k + 5, h => absurd h (Nat.not_lt.mpr (Nat.le_add_left 5 k))
    | 4, _ => fun j hj => match j, hj with
      | 0, _ => (hN _ (List.mem_of_getElem? (i := 186) (by decide +kernel)))
      | 1, _ => (hN _ (List.mem_of_getElem? (i := 187) (by decide +kernel)))
      | 2, _ => (hN _ (List.mem_of_getElem? (i := 188) (by decide +kernel)))
      | 3, _ => (hN _ (List.mem_of_getElem? (i := 189) (by decide +kernel)))
      | 4, _ => (hN _ (List.mem_of_getElem? (i := 190) (by decide +kernel)))
      | k + 5, h => absurd h (Nat.not_lt.mpr (Nat.le_add_left 5 k))
    | 5, _ => fun j hj => match j, hj with
      | 0, _ => (hN _ (List.mem_of_getElem? (i := 213) (by decide +kernel)))
      | 1, _ => (hN _ (List.mem_of_getElem? (i := 214) (by decide +kernel)))
      | 2, _ => (hN _ (List.mem_of_getElem? (i := 215) (by decide +kernel)))
      | 3, _ => (hN _ (List.mem_of_getElem? (i := 216) (by decide +kernel)))
      | 4, _ => (hN _ (List.mem_of_getElem? (i := 217) (by decide +kernel)))
      | k + 5, h => absurd h (Nat.not_lt.mpr (Nat.le_add_left 5 k))
    | 6, _ => fun j hj => match j, hj with
      | 0, _ => (hN _ (List.mem_of_getElem? (i := 228) (by decide +kernel)))
      | 1, _ => (hN _ (List.mem_of_getElem? (i := 229) (by decide +kernel)))
      | 2, _ => (hN _ (List.mem_of_getElem? (i := 230) (by decide +kernel)))
      | k + 3, h => absurd h (Nat.not_lt.mpr (Nat.le_add_left 3 k))
    | k + 7, h => absurd h (Nat.not_lt.mpr (Nat.le_add_left 7 k))
set_option maxRecDepth 20000 in
theorem hw_z6 {s : State} {scr : Nat} (hT : ∀ w ∈ tables_1, w.before #[Value.ref scr] s = true) (hN : ∀ w ∈ flatC (Jvm.Cond.and given_1 narrow_1), w.before #[Value.ref scr] s = true) : ∀ i : Nat, i < 7 → ∀ j : Nat, j < 7 → i ≠ j → (Cond.not (Cond.eq (hw_tm i) (hw_tm j))).before #[Value.ref scr] s = true ∨ (Cond.not (Cond.eq (hw_tm j) (hw_tm i))).before #[Value.ref scr] s = true :=
  fun i hi => match i, hi with
    | 0, _ => fun j hj => match j, hj with
      | 0, _ => fun h => absurd rfl h
      | 1, _ => fun h => (Or.inl (hN _ (List.mem_of_getElem? (i := 158) (by decide +kernel))))
      | 2, _ => fun h => (Or.inl (hN _ (List.mem_of_getElem? (i := 168) (by decide +kernel))))
      | 3, _ => fun h => (Or.inl (hN _ (List.mem_of_getElem? (i := 179) (by decide +kernel))))
      | 4, _ => fun h => (Or.inl (hN _ (List.mem_of_getElem? (i := 191) (by decide +kernel))))
      | 5, _ => fun h => (Or.inl (hN _ (List.mem_of_getElem? (i := 218) (by decide +kernel))))
      | 6, _ => fun h => (Or.inl (hN _ (List.mem_of_getElem? (i := 231) (by decide +kernel))))
      | k + 7, h => absurd h (Nat.not_lt.mpr (Nat.le_add_left 7 k))
    | 1, _ => fun j hj => match j, hj with
      | 0, _ => fun h => (Or.inr (hN _ (List.mem_of_getElem? (i := 158) (by decide +kernel))))
      | 1, _ => fun h => absurd rfl h
      | 2, _ => fun h => (Or.inl (hN _ (List.mem_of_getElem? (i := 169) (by decide +kernel))))
      | 3, _ => fun h => (Or.inl (hN _ (List.mem_of_getElem? (i := 180) (by decide +kernel))))
      | 4, _ => fun h => (Or.inl (hN _ (List.mem_of_getElem? (i := 192) (by decide +kernel))))
      | 5, _ => fun h => (Or.inl (hN _ (List.mem_of_getElem? (i := 219) (by decide +kernel))))
      | 6, _ => fun h => (Or.inl (hN _ (List.mem_of_getElem? (i := 232) (by decide +kernel))))
      | k + 7, h => absurd h (Nat.not_lt.mpr (Nat.le_add_left 7 k))
    | 2, _ => fun j hj => match j, hj with
      | 0, _ => fun h => (Or.inr (hN _ (List.mem_of_getElem? (i := 168) (by decide +kernel))))
      | 1, _ => fun h => (Or.inr (hN _ (List.mem_of_getElem? (i := 169) (by decide +kernel))))
      | 2, _ => fun h => absurd rfl h
      | 3, _ => fun h => (Or.inl (hN _ (List.mem_of_getElem? (i := 181) (by decide +kernel))))
      | 4, _ => fun h => (Or.inl (hN _ (List.mem_of_getElem? (i := 193) (by decide +kernel))))
      | 5, _ => fun h => (Or.inl (hN _ (List.mem_of_getElem? (i := 220) (by decide +kernel))))
      | 6, _ => fun h => (Or.inl (hN _ (List.mem_of_getElem? (i := 233) (by decide +kernel))))
      | k + 7, h => absurd h (Nat.not_lt.mpr (Nat.le_add_left 7 k))
    | 3, _ => fun j hj => match j, hj with
      | 0, _ => fun h => (Or.inr (hN _ (List.mem_of_getElem? (i := 179) (by decide +kernel))))
      | 1, _ => fun h => (Or.inr (hN _ (List.mem_of_getElem? (i := 180) (by decide +kernel))))
      | 2, _ => fun h => (Or.inr (hN _ (List.mem_of_getElem? (i := 181) (by decide +kernel))))
      | 3, _ => fun h => absurd rfl h
      | 4, _ => fun h => (Or.inl (hN _ (List.mem_of_getElem? (i := 194) (by decide +kernel))))
      | 5, _ => fun h => (Or.inl (hN _ (List.mem_of_getElem? (i := 221) (by decide +kernel))))
      | 6, _ => fun h => (Or.inl (hN _ (List.mem_of_getElem? (i := 234) (by decide +kernel))))
      | k + 7, h => absurd h (Nat.not_lt.mpr (Nat.le_add_left 7 k))
    | 4, _ => fun j hj => match j, hj with
      | 0, _ => fun h => (Or.inr (hN _ (List.mem_of_getElem? (i := 191) (by decide +kernel))))
      | 1, _ => fun h => (Or.inr (hN _ (List.mem_of_getElem? (i := 192) (by decide +kernel))))
      | 2, _ => fun h => (Or.inr (hN _ (List.mem_of_getElem? (i := 193) (by decide +kernel))))
      | 3, _ => fun h => (Or.inr (hN _ (List.mem_of_getElem? (i := 194) (by decide +kernel))))
      | 4, _ => fun h => absurd rfl h
      | 5, _ => fun h => (Or.inl (hN _ (List.mem_of_getElem? (i := 222) (by decide +kernel))))
      | 6, _ => fun h => (Or.inl (hN _ (List.mem_of_getElem? (i := 235) (by decide +kernel))))
      | k + 7, h => absurd h (Nat.not_lt.mpr (Nat.le_add_left 7 k))
    | 5, _ => fun j hj => match j, hj with
      | 0, _ => fun h => (Or.inr (hN _ (List.mem_of_getElem? (i := 218) (by decide +kernel))))
      | 1, _ => fun h => (Or.inr (hN _ (List.mem_of_getElem? (i := 219) (by decide +kernel))))
      | 2, _ => fun h => (Or.inr (hN _ (List.mem_of_getElem? (i := 220) (by decide +kernel))))
      | 3, _ => fun h => (Or.inr (hN _ (List.mem_of_getElem? (i := 221) (by decide +kernel))))
      | 4, _ => fun h => (Or.inr (hN _ (List.mem_of_getElem? (i := 222) (by decide +kernel))))
      | 5, _ => fun h => absurd rfl h
      | 6, _ => fun h => (Or.inl (hN _ (List.mem_of_getElem? (i := 237) (by decide +kernel))))
      | k + 7, h => absurd h (Nat.not_lt.mpr (Nat.le_add_left 7 k))
    | 6, _ => fun j hj => match j, hj with
      | 0, _ => fun h => (Or.inr (hN _ (List.mem_of_getElem? (i := 231) (by decide +kernel))))
      | 1, _ => fun h => (Or.inr (hN _ (List.mem_of_getElem? (i := 232) (by decide +kernel))))
      | 2, _ => fun h => (Or.inr (hN _ (List.mem_of_getElem? (i := 233) (by decide +kernel))))
      | 3, _ => fun h => (Or.inr (hN _ (List.mem_of_getElem? (i := 234) (by decide +kernel))))
      | 4, _ => fun h => (Or.inr (hN _ (List.mem_of_getElem? (i := 235) (by decide +kernel))))
      | 5, _ => fun h => (Or.inr (hN _ (List.mem_of_getElem? (i := 237) (by decide +kernel))))
      | 6, _ => fun h => absurd rfl h
      | k + 7, h => absurd h (Nat.not_lt.mpr (Nat.le_add_left 7 k))
    | k + 7, h => absurd h (Nat.not_lt.mpr (Nat.le_add_left 7 k))
set_option maxRecDepth 20000 in
theorem hw_Gst {s : State} {scr : Nat} (hT : ∀ w ∈ tables_1, w.before #[Value.ref scr] s = true) (hN : ∀ w ∈ flatC (Jvm.Cond.and given_1 narrow_1), w.before #[Value.ref scr] s = true) : ∃ g : hw_Sd, hw_G g s.heap.size s s.heap := by
  have hA : ∀ a : Nat, a < s.heap.size → ¬ (fun q => s.heap.size ≤ q) a := fun a h => Nat.not_le.mpr h
  obtain ⟨adK, adV, h1, h2⟩ := vk_Sof (args := #[Value.ref scr]) (s := s) (N := 7) (tm := hw_tm) (len := hw_slen) (byt := hw_strs) (A := fun q => s.heap.size ≤ q) (by decide +kernel) (hw_z1 hT hN) (hw_z2 hT hN) (hw_z3 hT hN) (hw_z4 hT hN) (hw_z5 hT hN) (fun i j hi hj => hw_z6 hT hN i hi j hj) hA
  refine ⟨(adK, adV), h1, ?_, va_Zof (args := #[Value.ref scr]) (hT _ (List.mem_of_getElem? (i := 267) (by decide +kernel))) (hT _ (List.mem_of_getElem? (i := 8) (by decide +kernel))) (va_eqt (hN _ (List.mem_of_getElem? (i := 4) (by decide +kernel)))) hA, va_Zqof (args := #[Value.ref scr]) (hT _ (List.mem_of_getElem? (i := 283) (by decide +kernel))) (hT _ (List.mem_of_getElem? (i := 10) (by decide +kernel))) (hN _ (List.mem_of_getElem? (i := 5) (by decide +kernel))) hA⟩
  unfold hw_sids
  exact List.forall_mem_cons.mpr ⟨vk_R.of (A := #[Value.ref scr]) (hT _ (List.mem_of_getElem? (i := 249) (by decide +kernel))) (h2 0 (by decide)),
    List.forall_mem_cons.mpr ⟨vk_R.of (A := #[Value.ref scr]) (hT _ (List.mem_of_getElem? (i := 250) (by decide +kernel))) (h2 1 (by decide)),
    List.forall_mem_cons.mpr ⟨vk_R.of (A := #[Value.ref scr]) (hT _ (List.mem_of_getElem? (i := 251) (by decide +kernel))) (h2 2 (by decide)),
    List.forall_mem_cons.mpr ⟨vk_R.of (A := #[Value.ref scr]) (hT _ (List.mem_of_getElem? (i := 252) (by decide +kernel))) (h2 3 (by decide)),
    List.forall_mem_cons.mpr ⟨vk_R.of (A := #[Value.ref scr]) (hT _ (List.mem_of_getElem? (i := 253) (by decide +kernel))) (h2 4 (by decide)),
    List.forall_mem_cons.mpr ⟨vk_R.of (A := #[Value.ref scr]) (hT _ (List.mem_of_getElem? (i := 1037) (by decide +kernel))) (hw_eqr (hN _ (List.mem_of_getElem? (i := 204) (by decide +kernel))) (h2 0 (by decide))),
    List.forall_mem_cons.mpr ⟨vk_R.of (A := #[Value.ref scr]) (hT _ (List.mem_of_getElem? (i := 1078) (by decide +kernel))) (hw_eqr (hN _ (List.mem_of_getElem? (i := 248) (by decide +kernel))) (h2 1 (by decide))),
    List.forall_mem_cons.mpr ⟨vk_R.of (A := #[Value.ref scr]) (hT _ (List.mem_of_getElem? (i := 1083) (by decide +kernel))) (hw_eqr (hN _ (List.mem_of_getElem? (i := 266) (by decide +kernel))) (h2 2 (by decide))),
    List.forall_mem_cons.mpr ⟨vk_R.of (A := #[Value.ref scr]) (hT _ (List.mem_of_getElem? (i := 1084) (by decide +kernel))) (hw_eqr (hN _ (List.mem_of_getElem? (i := 285) (by decide +kernel))) (h2 3 (by decide))),
    List.forall_mem_cons.mpr ⟨vk_R.of (A := #[Value.ref scr]) (hT _ (List.mem_of_getElem? (i := 1089) (by decide +kernel))) (hw_eqr (hN _ (List.mem_of_getElem? (i := 305) (by decide +kernel))) (h2 4 (by decide))),
    List.forall_mem_cons.mpr ⟨vk_R.of (A := #[Value.ref scr]) (hT _ (List.mem_of_getElem? (i := 1072) (by decide +kernel))) (h2 5 (by decide)),
    List.forall_mem_cons.mpr ⟨vk_R.of (A := #[Value.ref scr]) (hT _ (List.mem_of_getElem? (i := 1077) (by decide +kernel))) (h2 6 (by decide)),
    fun _ h => absurd h List.not_mem_nil⟩⟩⟩⟩⟩⟩⟩⟩⟩⟩⟩⟩
set_option maxRecDepth 20000 in
theorem hw_e2 {s : State} {scr : Nat} (hT : ∀ w ∈ tables_1, w.before #[Value.ref scr] s = true) (hN : ∀ w ∈ flatC (Jvm.Cond.and given_1 narrow_1), w.before #[Value.ref scr] s = true) : ∀ q ∈ hw_nests, va_Nw (.methodLinkNest q.1 q.2.1 q.2.2 "HoneyWinds") s := by
  unfold hw_nests
  exact List.forall_mem_cons.mpr ⟨va_Nw.of rfl (hT _ (List.mem_of_getElem? (i := 31) (by decide +kernel))),
    List.forall_mem_cons.mpr ⟨va_Nw.of rfl (hT _ (List.mem_of_getElem? (i := 99) (by decide +kernel))),
    List.forall_mem_cons.mpr ⟨va_Nw.of rfl (hT _ (List.mem_of_getElem? (i := 136) (by decide +kernel))),
    List.forall_mem_cons.mpr ⟨va_Nw.of rfl (hT _ (List.mem_of_getElem? (i := 314) (by decide +kernel))),
    List.forall_mem_cons.mpr ⟨va_Nw.of rfl (hT _ (List.mem_of_getElem? (i := 547) (by decide +kernel))),
    List.forall_mem_cons.mpr ⟨va_Nw.of rfl (hT _ (List.mem_of_getElem? (i := 548) (by decide +kernel))),
    List.forall_mem_cons.mpr ⟨va_Nw.of rfl (hT _ (List.mem_of_getElem? (i := 549) (by decide +kernel))),
    List.forall_mem_cons.mpr ⟨va_Nw.of rfl (hT _ (List.mem_of_getElem? (i := 597) (by decide +kernel))),
    List.forall_mem_cons.mpr ⟨va_Nw.of rfl (hT _ (List.mem_of_getElem? (i := 603) (by decide +kernel))),
    List.forall_mem_cons.mpr ⟨va_Nw.of rfl (hT _ (List.mem_of_getElem? (i := 604) (by decide +kernel))),
    List.forall_mem_cons.mpr ⟨va_Nw.of rfl (hT _ (List.mem_of_getElem? (i := 605) (by decide +kernel))),
    List.forall_mem_cons.mpr ⟨va_Nw.of rfl (hT _ (List.mem_of_getElem? (i := 616) (by decide +kernel))),
    List.forall_mem_cons.mpr ⟨va_Nw.of rfl (hT _ (List.mem_of_getElem? (i := 617) (by decide +kernel))),
    List.forall_mem_cons.mpr ⟨va_Nw.of rfl (hT _ (List.mem_of_getElem? (i := 618) (by decide +kernel))),
    List.forall_mem_cons.mpr ⟨va_Nw.of rfl (hT _ (List.mem_of_getElem? (i := 636) (by decide +kernel))),
    List.forall_mem_cons.mpr ⟨va_Nw.of rfl (hT _ (List.mem_of_getElem? (i := 896) (by decide +kernel))),
    List.forall_mem_cons.mpr ⟨va_Nw.of rfl (hT _ (List.mem_of_getElem? (i := 377) (by decide +kernel))),
    fun _ h => absurd h List.not_mem_nil⟩⟩⟩⟩⟩⟩⟩⟩⟩⟩⟩⟩⟩⟩⟩⟩⟩
set_option maxRecDepth 20000 in
theorem hw_e3 {s : State} {scr : Nat} (hT : ∀ w ∈ tables_1, w.before #[Value.ref scr] s = true) (hN : ∀ w ∈ flatC (Jvm.Cond.and given_1 narrow_1), w.before #[Value.ref scr] s = true) : ∀ q ∈ hw_casts, va_Nw (.castable q.1 q.2) s := by
  unfold hw_casts
  exact List.forall_mem_cons.mpr ⟨va_Nw.of rfl (hT _ (List.mem_of_getElem? (i := 366) (by decide +kernel))),
    List.forall_mem_cons.mpr ⟨va_Nw.of rfl (hT _ (List.mem_of_getElem? (i := 1287) (by decide +kernel))),
    List.forall_mem_cons.mpr ⟨va_Nw.of rfl (hT _ (List.mem_of_getElem? (i := 1288) (by decide +kernel))),
    List.forall_mem_cons.mpr ⟨va_Nw.of rfl (hT _ (List.mem_of_getElem? (i := 1289) (by decide +kernel))),
    List.forall_mem_cons.mpr ⟨va_Nw.of rfl (hT _ (List.mem_of_getElem? (i := 1290) (by decide +kernel))),
    List.forall_mem_cons.mpr ⟨va_Nw.of rfl (hT _ (List.mem_of_getElem? (i := 1291) (by decide +kernel))),
    List.forall_mem_cons.mpr ⟨va_Nw.of rfl (hT _ (List.mem_of_getElem? (i := 1292) (by decide +kernel))),
    List.forall_mem_cons.mpr ⟨va_Nw.of rfl (hT _ (List.mem_of_getElem? (i := 1293) (by decide +kernel))),
    List.forall_mem_cons.mpr ⟨va_Nw.of rfl (hT _ (List.mem_of_getElem? (i := 1294) (by decide +kernel))),
    List.forall_mem_cons.mpr ⟨va_Nw.of rfl (hT _ (List.mem_of_getElem? (i := 1295) (by decide +kernel))),
    fun _ h => absurd h List.not_mem_nil⟩⟩⟩⟩⟩⟩⟩⟩⟩⟩
set_option maxRecDepth 20000 in
theorem hw_e4 {s : State} {scr : Nat} (hT : ∀ w ∈ tables_1, w.before #[Value.ref scr] s = true) (hN : ∀ w ∈ flatC (Jvm.Cond.and given_1 narrow_1), w.before #[Value.ref scr] s = true) : ∀ q ∈ hw_nocasts, va_Nc q.1 q.2 s := by
  unfold hw_nocasts
  exact List.forall_mem_cons.mpr ⟨va_Nc.of (args := #[Value.ref scr]) (hN _ (List.mem_of_getElem? (i := 15) (by decide +kernel))),
    List.forall_mem_cons.mpr ⟨va_Nc.of (args := #[Value.ref scr]) (hN _ (List.mem_of_getElem? (i := 16) (by decide +kernel))),
    List.forall_mem_cons.mpr ⟨va_Nc.of (args := #[Value.ref scr]) (hN _ (List.mem_of_getElem? (i := 17) (by decide +kernel))),
    List.forall_mem_cons.mpr ⟨va_Nc.of (args := #[Value.ref scr]) (hN _ (List.mem_of_getElem? (i := 18) (by decide +kernel))),
    List.forall_mem_cons.mpr ⟨va_Nc.of (args := #[Value.ref scr]) (hN _ (List.mem_of_getElem? (i := 19) (by decide +kernel))),
    List.forall_mem_cons.mpr ⟨va_Nc.of (args := #[Value.ref scr]) (hN _ (List.mem_of_getElem? (i := 20) (by decide +kernel))),
    List.forall_mem_cons.mpr ⟨va_Nc.of (args := #[Value.ref scr]) (hN _ (List.mem_of_getElem? (i := 27) (by decide +kernel))),
    List.forall_mem_cons.mpr ⟨va_Nc.of (args := #[Value.ref scr]) (hN _ (List.mem_of_getElem? (i := 28) (by decide +kernel))),
    List.forall_mem_cons.mpr ⟨va_Nc.of (args := #[Value.ref scr]) (hN _ (List.mem_of_getElem? (i := 29) (by decide +kernel))),
    List.forall_mem_cons.mpr ⟨va_Nc.of (args := #[Value.ref scr]) (hN _ (List.mem_of_getElem? (i := 30) (by decide +kernel))),
    List.forall_mem_cons.mpr ⟨va_Nc.of (args := #[Value.ref scr]) (hN _ (List.mem_of_getElem? (i := 37) (by decide +kernel))),
    List.forall_mem_cons.mpr ⟨va_Nc.of (args := #[Value.ref scr]) (hN _ (List.mem_of_getElem? (i := 38) (by decide +kernel))),
    List.forall_mem_cons.mpr ⟨va_Nc.of (args := #[Value.ref scr]) (hN _ (List.mem_of_getElem? (i := 39) (by decide +kernel))),
    List.forall_mem_cons.mpr ⟨va_Nc.of (args := #[Value.ref scr]) (hN _ (List.mem_of_getElem? (i := 40) (by decide +kernel))),
    List.forall_mem_cons.mpr ⟨va_Nc.of (args := #[Value.ref scr]) (hN _ (List.mem_of_getElem? (i := 41) (by decide +kernel))),
    List.forall_mem_cons.mpr ⟨va_Nc.of (args := #[Value.ref scr]) (hN _ (List.mem_of_getElem? (i := 48) (by decide +kernel))),
    List.forall_mem_cons.mpr ⟨va_Nc.of (args := #[Value.ref scr]) (hN _ (List.mem_of_getElem? (i := 49) (by decide +kernel))),
    List.forall_mem_cons.mpr ⟨va_Nc.of (args := #[Value.ref scr]) (hN _ (List.mem_of_getElem? (i := 50) (by decide +kernel))),
    List.forall_mem_cons.mpr ⟨va_Nc.of (args := #[Value.ref scr]) (hN _ (List.mem_of_getElem? (i := 51) (by decide +kernel))),
    List.forall_mem_cons.mpr ⟨va_Nc.of (args := #[Value.ref scr]) (hN _ (List.mem_of_getElem? (i := 52) (by decide +kernel))),
    List.forall_mem_cons.mpr ⟨va_Nc.of (args := #[Value.ref scr]) (hN _ (List.mem_of_getElem? (i := 53) (by decide +kernel))),
    List.forall_mem_cons.mpr ⟨va_Nc.of (args := #[Value.ref scr]) (hN _ (List.mem_of_getElem? (i := 60) (by decide +kernel))),
    List.forall_mem_cons.mpr ⟨va_Nc.of (args := #[Value.ref scr]) (hN _ (List.mem_of_getElem? (i := 61) (by decide +kernel))),
    List.forall_mem_cons.mpr ⟨va_Nc.of (args := #[Value.ref scr]) (hN _ (List.mem_of_getElem? (i := 62) (by decide +kernel))),
    List.forall_mem_cons.mpr ⟨va_Nc.of (args := #[Value.ref scr]) (hN _ (List.mem_of_getElem? (i := 63) (by decide +kernel))),
    List.forall_mem_cons.mpr ⟨va_Nc.of (args := #[Value.ref scr]) (hN _ (List.mem_of_getElem? (i := 64) (by decide +kernel))),
    List.forall_mem_cons.mpr ⟨va_Nc.of (args := #[Value.ref scr]) (hN _ (List.mem_of_getElem? (i := 65) (by decide +kernel))),
    List.forall_mem_cons.mpr ⟨va_Nc.of (args := #[Value.ref scr]) (hN _ (List.mem_of_getElem? (i := 72) (by decide +kernel))),
    List.forall_mem_cons.mpr ⟨va_Nc.of (args := #[Value.ref scr]) (hN _ (List.mem_of_getElem? (i := 73) (by decide +kernel))),
    List.forall_mem_cons.mpr ⟨va_Nc.of (args := #[Value.ref scr]) (hN _ (List.mem_of_getElem? (i := 74) (by decide +kernel))),
    List.forall_mem_cons.mpr ⟨va_Nc.of (args := #[Value.ref scr]) (hN _ (List.mem_of_getElem? (i := 75) (by decide +kernel))),
    List.forall_mem_cons.mpr ⟨va_Nc.of (args := #[Value.ref scr]) (hN _ (List.mem_of_getElem? (i := 76) (by decide +kernel))),
    List.forall_mem_cons.mpr ⟨va_Nc.of (args := #[Value.ref scr]) (hN _ (List.mem_of_getElem? (i := 77) (by decide +kernel))),
    fun _ h => absurd h List.not_mem_nil⟩⟩⟩⟩⟩⟩⟩⟩⟩⟩⟩⟩⟩⟩⟩⟩⟩⟩⟩⟩⟩⟩⟩⟩⟩⟩⟩⟩⟩⟩⟩⟩⟩
theorem hw_e1 {s : State} {scr : Nat} (hts : ∀ w ∈ wsL_law, w.before #[Value.ref scr] s = true) : ∃ f : va_G, ∀ (k : Nat) (z : vw_C), vwCl[k]? = some z → u_Kn s z.1 z.2.1 z.2.2 (f.1 k) (f.2 k) := by
  have h0 : ∀ k : Nat, ∃ q : ClassId × (Nat → Nat), ∀ z : vw_C, vwCl[k]? = some z → u_Kn s z.1 z.2.1 z.2.2 q.1 q.2 := fun k => match k with
    | 0 => (u_known (C := RX0) (T := TX0) (N := 8) (n := 8) hts inlX0 (hts _ hw_m275)).elim fun c h => h.elim fun iS h => ⟨(c, iS), fun z hz => by cases hz; exact h⟩
    | 1 => (u_known (C := RX1) (T := TX1) (N := 8) (n := 8) hts inlX1 (hts _ hw_m272)).elim fun c h => h.elim fun iS h => ⟨(c, iS), fun z hz => by cases hz; exact h⟩
    | 2 => (u_known (C := RX2) (T := TX2) (N := 8) (n := 8) hts inlX2 (hts _ hw_m269)).elim fun c h => h.elim fun iS h => ⟨(c, iS), fun z hz => by cases hz; exact h⟩
    | 3 => (u_known (C := RX3) (T := TX3) (N := 8) (n := 8) hts inlX3 (hts _ hw_m284)).elim fun c h => h.elim fun iS h => ⟨(c, iS), fun z hz => by cases hz; exact h⟩
    | 4 => (u_known (C := RX4) (T := TX4) (N := 8) (n := 8) hts inlX4 (hts _ hw_m20)).elim fun c h => h.elim fun iS h => ⟨(c, iS), fun z hz => by cases hz; exact h⟩
    | 5 => (u_known (C := RX5) (T := TX5) (N := 8) (n := 8) hts inlX5 (hts _ hw_m281)).elim fun c h => h.elim fun iS h => ⟨(c, iS), fun z hz => by cases hz; exact h⟩
    | 6 => (u_known (C := RX6) (T := TX6) (N := 8) (n := 8) hts inlX6 (hts _ hw_m278)).elim fun c h => h.elim fun iS h => ⟨(c, iS), fun z hz => by cases hz; exact h⟩
    | 7 => (u_known (C := RX7) (T := TX7) (N := 8) (n := 8) hts inlX7 (hts _ hw_m266)).elim fun c h => h.elim fun iS h => ⟨(c, iS), fun z hz => by cases hz; exact h⟩
    | 8 => (u_known (C := RX8) (T := TX8) (N := 14) (n := 14) hts inlX8 (hts _ hw_m14)).elim fun c h => h.elim fun iS h => ⟨(c, iS), fun z hz => by cases hz; exact h⟩
    | 9 => (u_known (C := RX9) (T := TX9) (N := 2) (n := 2) hts inlX9 (hts _ hw_m97)).elim fun c h => h.elim fun iS h => ⟨(c, iS), fun z hz => by cases hz; exact h⟩
    | 10 => (u_known (C := RX10) (T := TX10) (N := 2) (n := 2) hts inlX10 (hts _ hw_m24)).elim fun c h => h.elim fun iS h => ⟨(c, iS), fun z hz => by cases hz; exact h⟩
    | 11 => (u_known (C := RX11) (T := TX11) (N := 13) (n := 13) hts inlX11 (hts _ hw_m1)).elim fun c h => h.elim fun iS h => ⟨(c, iS), fun z hz => by cases hz; exact h⟩
    | 12 => (u_known (C := RX12) (T := TX12) (N := 26) (n := 26) hts inlX12 (hts _ hw_m4)).elim fun c h => h.elim fun iS h => ⟨(c, iS), fun z hz => by cases hz; exact h⟩
    | k + 13 => (u_known (C := RX0) (T := TX0) (N := 8) (n := 8) hts inlX0 (hts _ hw_m275)).elim fun c h => h.elim fun iS h => ⟨(c, iS), fun z hz => by
        rw [List.getElem?_eq_none (Nat.le_add_left 13 k)] at hz
        cases hz⟩
  obtain ⟨f, hf⟩ := Classical.axiomOfChoice h0
  exact ⟨(fun k => (f k).1, fun k => (f k).2), hf⟩
theorem hw_AOA_spec {A : Array Value} {U : State} (h : (Cond.arrayOver (.array .int)).before A U = true) : ∃ (c : ClassId) (k : Class) (comp : ClassId), U.vm.classes[c]? = some k ∧ k.kind = .array comp (.array .int) ∧ U.vm.findClass ("[" ++ (FieldType.array .int).toString) = some c := by
  unfold Cond.before Cond.holds at h
  simp only [Cond.value, beq_iff_eq] at h
  cases hc : U.vm.findClass (FieldType.array FieldType.int).toString with
  | none => rw [hc] at h; cases h
  | some comp =>
    rw [hc, Option.bind_some] at h
    simp only [Option.bind_eq_some_iff, Option.map_eq_some_iff] at h
    obtain ⟨c, hi, k, hk, hb⟩ := h
    cases hkk : k.kind with
    | array a ty =>
      rw [hkk] at hb
      simp only [Bool.and_eq_true, decide_eq_true_eq] at hb
      exact ⟨c, k, a, hk, by rw [hkk, hb.1], hb.2⟩
    | _ => rw [hkk] at hb; cases hb
theorem hw_ty_i {s : State} {A : Array Value} {t : FieldType} (ht : ∀ C, t ≠ .object C) (h : (Cond.arrayClass t).before A s = true) : ∃ c : ClassId, ArrOfT s c t ∧ va_RA s c t := by
  obtain ⟨c, k, comp, h1, h2, h3⟩ := Cond.arrayClass_spec h
  refine ⟨c, fun n z => ⟨fun _ h => (by cases h), k, h2, comp, h3⟩, ?_⟩
  unfold va_RA
  split
  · rename_i C
    exact absurd rfl (ht C)
  · exact h1
theorem hw_ty_o {s : State} {A : Array Value} {C : String} (h : (Cond.arrayOver (.object C)).before A s = true) : ∃ c : ClassId, ArrOfT s c (.object C) ∧ va_RA s c (.object C) := by
  obtain ⟨comp, c, k, h1, h2, h3, h4, h5⟩ := Cond.arrayOver_spec h
  exact ⟨c, fun n z => ⟨fun _ h => (by cases h), k, h3, comp, h4⟩, k, comp, h3, h4, h1, h5⟩
theorem hw_ty_a {s : State} {A : Array Value} (h : (Cond.arrayOver (.array .int)).before A s = true) : ∃ c : ClassId, ArrOfT s c (.array .int) ∧ va_RA s c (.array .int) := by
  obtain ⟨c, k, comp, h1, h2, h3⟩ := hw_AOA_spec h
  exact ⟨c, fun n z => ⟨fun _ h => (by cases h), k, h1, comp, h2⟩, h3⟩
set_option maxRecDepth 20000 in
theorem hw_Est {s : State} {scr : Nat} (hT : ∀ w ∈ tables_1, w.before #[Value.ref scr] s = true) (hN : ∀ w ∈ flatC (Jvm.Cond.and given_1 narrow_1), w.before #[Value.ref scr] s = true) (hts : ∀ w ∈ wsL_law, w.before #[Value.ref scr] s = true) : ∃ D : hw_D, hw_E D s := by
  obtain ⟨f, hf⟩ := hw_e1 hts
  obtain ⟨c0, a0, b0⟩ := hw_ty_i (t := .int) (fun _ h => by cases h) (hts _ hw_m27)
  obtain ⟨c1, a1, b1⟩ := hw_ty_i (t := .boolean) (fun _ h => by cases h) (hts _ hw_m79)
  obtain ⟨c2, a2, b2⟩ := hw_ty_o (C := "HoneyWinds$Laying") (hT _ (List.mem_of_getElem? (i := 38) (by decide +kernel)))
  obtain ⟨c3, a3, b3⟩ := hw_ty_o (C := "HoneyWinds$Stuff") (hT _ (List.mem_of_getElem? (i := 36) (by decide +kernel)))
  obtain ⟨c4, a4, b4⟩ := hw_ty_a (hT _ (List.mem_of_getElem? (i := 149) (by decide +kernel)))
  refine ⟨(f, fun t => match t with | 0 => c0 | 1 => c1 | 2 => c2 | 3 => c3 | _ => c4), ⟨fun c q hq => hf c q hq, fun k q hk => ?_⟩, hw_e2 hT hN, hw_e3 hT hN, hw_e4 hT hN, va_AO.of (A := #[Value.ref scr]) (hT _ (List.mem_of_getElem? (i := 38) (by decide +kernel))), va_AO.of (A := #[Value.ref scr]) (hT _ (List.mem_of_getElem? (i := 36) (by decide +kernel))), (have h9 : (Cond.arrayOver (FieldType.array FieldType.int)).before #[Value.ref scr] s = true := (hT _ (List.mem_of_getElem? (i := 149) (by decide +kernel))); h9)⟩
  match k, hk with
  | 0, hk => cases hk; exact ⟨a0, b0⟩
  | 1, hk => cases hk; exact ⟨a1, b1⟩
  | 2, hk => cases hk; exact ⟨a2, b2⟩
  | 3, hk => cases hk; exact ⟨a3, b3⟩
  | 4, hk => cases hk; exact ⟨a4, b4⟩
  | k + 5, hk =>
    rw [List.getElem?_eq_none (Nat.le_add_left 5 k)] at hk
    cases hk
theorem whole_start {p : Program} {e : Env} {s : State} {m : MethodId} {below : List Frame} {meth : Method} {c : Code} (l : Launch) (hflags : l.flags = flags0) {b L : Nat} {xs : Nat → Int32} (hL : L ≤ 3584) (C0 : lw_At p s m meth c b L xs) : W p l e room_1 s m #[Value.ref b] below meth c s.heap [] 0 0 (lw_Z below #[Value.ref b] s) (entryFrame m ([Value.ref b] : List Value).toArray 4) := by
  obtain ⟨hx, hb, hr, hml, hown, hts0, hX, hbl, hlocks, hgv⟩ := id C0
  have hT : ∀ w ∈ tables_1, w.before #[Value.ref b] s = true := fun w hw => hts0 w (List.mem_append_right _ hw)
  have hN : ∀ w ∈ flatC (Jvm.Cond.and given_1 narrow_1), w.before #[Value.ref b] s = true := flat_of_before _ hgv
  have hts : ∀ w ∈ wsL_law, w.before #[Value.ref b] s = true := fun w hw => hw_tb2_ok hts0 w (wsL_law_in w hw)
  obtain ⟨D, hE⟩ := hw_Est hT hN hts
  obtain ⟨g, hG⟩ := hw_Gst hT hN
  obtain ⟨τ, hm⟩ := mL_ok xs L hL
  have hl := lv_entry ([.ref b]) (n := 4) (Nat.le_of_ble_eq_true rfl)
  rw [lg_entry_eq]
  generalize (lg_sl ([.ref b]) ++ List.replicate (4 - (lg_sl ([.ref b])).length) Slot.unset).toArray = ls at hl ⊢
  have hl : lv_has ls 4 [(0, .ref b)] := hl
  have hR : hw_R D s.heap.size hw_s0 s.heap := ⟨rfl, fun a => ⟨fun ci h _ => absurd h (Nat.succ_ne_zero ci).symm, fun t h _ => absurd h (Nat.succ_ne_zero (t + 20)).symm⟩⟩
  exact wL_s hm ⟨hx, hb, hml, hr, hown, hts, hlocks, hE, rfl, hbl, hX⟩ hG hR va_S.rf ⟨hl, List.forall_mem_cons.mpr ⟨(fun h => by cases h), fun _ h => absurd h List.not_mem_nil⟩⟩
