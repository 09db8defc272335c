set_option maxHeartbeats 4000000 in
set_option maxRecDepth 100000 in
theorem w_L_law_1526 {p : Program} {l : Launch} {e : Env} {s : State} {m : MethodId} {below : List Frame} {meth : Method} {c : Code} {b L : Nat} {xs : Nat → Int32} {E : gE} {g am : Nat → Nat} {qo : Nat} (hL : L ≤ 2560) (C0 : lw_At p s m meth c b L xs) (hG : gK E s) (hT : gTh (fun q : Nat => s.heap.size ≤ q) s s.heap) (hN : gNc s) (hst : l.stackTraces = false)  (cells slots : Nat) (hcs : cells + 16 ≤ 601000) (hss : slots + 200 ≤ 7293000) (k23_ : TG → TM → (Nat → Int64) → Int32 → Option (Int32)) (hk23_ : ∀ (ad : Nat → Nat → Nat) (H : Heap) (locs : List Loc) (x : TG) (y : TM) (o : Nat → Int64) (l4 : Int32) (ls : Array Slot), k23_ x y o l4 = some 1 → lv_has ls 9 [(0, .ref b), (1, .ref (g 0)), (2, .ref (am 0)), (3, .ref qo), (4, .int l4)] → va_P E.1 vwCl ((cML E am y) ++ ((cOut E qo o) ++ (cGL E g ad x))) H → va_S (fun q : Nat => s.heap.size ≤ q) s.heap H locs → va_D (fun q : Nat => s.heap.size ≤ q) ((cML E am y) ++ ((cOut E qo o) ++ (cGL E g ad x))) → W p l e room_1 s m #[Value.ref b] below meth c H locs (cells + 16) (slots + 200) (lw_Z below #[Value.ref b] s) (F0 m 23 ls [])) : ∀ (ad : Nat → Nat → Nat) (H : Heap) (locs : List Loc) (x : TG) (y : TM) (o : Nat → Int64) (l4 : Int32) (ls : Array Slot), f_L_law_1526 xs L k23_ x y o l4 = some 1 → lv_has ls 9 [(0, .ref b), (1, .ref (g 0)), (2, .ref (am 0)), (3, .ref qo), (4, .int l4)] → va_P E.1 vwCl ((cML E am y) ++ ((cOut E qo o) ++ (cGL E g ad x))) H → va_S (fun q : Nat => s.heap.size ≤ q) s.heap H locs → va_D (fun q : Nat => s.heap.size ≤ q) ((cML E am y) ++ ((cOut E qo o) ++ (cGL E g ad x))) → W p l e room_1 s m #[Value.ref b] below meth c H locs (cells + 8) (slots + 82) (lw_Z below #[Value.ref b] s) (F0 m 1526 ls []) := by
  obtain ⟨hx, hb, hr, hml, hown, hts0, hX, hbl, hlocks, hgv⟩ := id C0
  have hts := gL_hts hts0
  have hbA : ¬ (fun q : Nat => s.heap.size ≤ q) b := Nat.not_le.mpr hbl
  have hA : ∀ q : Nat, s.heap.size ≤ q → (fun q : Nat => s.heap.size ≤ q) q := fun _ h => h
  intro ad H locs x y o l4 ls hf hl hP hS hD
  unfold f_L_law_1526 at hf
  refine g_iinc hx hb (fun y10 => [(4, .int y10), (0, .ref b), (1, .ref (g 0)), (2, .ref (am 0)), (3, .ref qo)]) (v := (l4 + 5)) hf dL_law_1526 hl (j := 4) rfl rfl (by decide) (fun _ => rfl) (fun y10 ls hf hl => ?_)
  refine lv_goto (tgt := 23) hx hb dL_law_1529 (by decide) ?_
  refine W.widen (k := (cells + 16)) (n := (slots + 200)) (by (try dsimp only); omega) (by (try dsimp only); omega) ?_
  exact hk23_ ad _ _ x y o y10 _ hf (lv_sub hl [1, 2, 3, 4, 0] rfl) hP hS hD
set_option maxHeartbeats 4000000 in
set_option maxRecDepth 100000 in
theorem w_L_law_217 {p : Program} {l : Launch} {e : Env} {s : State} {m : MethodId} {below : List Frame} {meth : Method} {c : Code} {b L : Nat} {xs : Nat → Int32} {E : gE} {g am : Nat → Nat} {qo : Nat} (hL : L ≤ 2560) (C0 : lw_At p s m meth c b L xs) (hG : gK E s) (hT : gTh (fun q : Nat => s.heap.size ≤ q) s s.heap) (hN : gNc s) (hst : l.stackTraces = false)  (cells slots : Nat) (hcs : cells + 16 ≤ 601000) (hss : slots + 200 ≤ 7293000) (k23_ : TG → TM → (Nat → Int64) → Int32 → Option (Int32)) (hk23_ : ∀ (ad : Nat → Nat → Nat) (H : Heap) (locs : List Loc) (x : TG) (y : TM) (o : Nat → Int64) (l4 : Int32) (ls : Array Slot), k23_ x y o l4 = some 1 → lv_has ls 9 [(0, .ref b), (1, .ref (g 0)), (2, .ref (am 0)), (3, .ref qo), (4, .int l4)] → va_P E.1 vwCl ((cML E am y) ++ ((cOut E qo o) ++ (cGL E g ad x))) H → va_S (fun q : Nat => s.heap.size ≤ q) s.heap H locs → va_D (fun q : Nat => s.heap.size ≤ q) ((cML E am y) ++ ((cOut E qo o) ++ (cGL E g ad x))) → W p l e room_1 s m #[Value.ref b] below meth c H locs (cells + 16) (slots + 200) (lw_Z below #[Value.ref b] s) (F0 m 23 ls [])) : ∀ (ad : Nat → Nat → Nat) (H : Heap) (locs : List Loc) (x : TG) (y : TM) (o : Nat → Int64) (l4 : Int32) (ls : Array Slot), f_L_law_217 xs L k23_ x y o l4 = some 1 → lv_has ls 9 [(0, .ref b), (1, .ref (g 0)), (2, .ref (am 0)), (3, .ref qo), (4, .int l4)] → va_P E.1 vwCl ((cML E am y) ++ ((cOut E qo o) ++ (cGL E g ad x))) H → va_S (fun q : Nat => s.heap.size ≤ q) s.heap H locs → va_D (fun q : Nat => s.heap.size ≤ q) ((cML E am y) ++ ((cOut E qo o) ++ (cGL E g ad x))) → W p l e room_1 s m #[Value.ref b] below meth c H locs (cells + 6) (slots + 70) (lw_Z below #[Value.ref b] s) (F0 m 217 ls []) := by
  obtain ⟨hx, hb, hr, hml, hown, hts0, hX, hbl, hlocks, hgv⟩ := id C0
  have hts := gL_hts hts0
  have hbA : ¬ (fun q : Nat => s.heap.size ≤ q) b := Nat.not_le.mpr hbl
  have hA : ∀ q : Nat, s.heap.size ≤ q → (fun q : Nat => s.heap.size ≤ q) q := fun _ h => h
  intro ad H locs x y o l4 ls hf hl hP hS hD
  unfold f_L_law_217 at hf
  refine lv_goto (tgt := 1526) hx hb dL_law_217 (by decide) ?_
  refine W.widen (k := (cells + 8)) (n := (slots + 82)) (by (try dsimp only); omega) (by (try dsimp only); omega) ?_
  exact w_L_law_1526 hL C0 hG hT hN hst cells slots hcs hss k23_ hk23_ ad _ _ x y o l4 _ hf hl hP hS hD
set_option maxHeartbeats 4000000 in
set_option maxRecDepth 100000 in
theorem w_L_law_152 {p : Program} {l : Launch} {e : Env} {s : State} {m : MethodId} {below : List Frame} {meth : Method} {c : Code} {b L : Nat} {xs : Nat → Int32} {E : gE} {g am : Nat → Nat} {qo : Nat} (hL : L ≤ 2560) (C0 : lw_At p s m meth c b L xs) (hG : gK E s) (hT : gTh (fun q : Nat => s.heap.size ≤ q) s s.heap) (hN : gNc s) (hst : l.stackTraces = false)  (cells slots : Nat) (hcs : cells + 16 ≤ 601000) (hss : slots + 200 ≤ 7293000) (k23_ : TG → TM → (Nat → Int64) → Int32 → Option (Int32)) (hk23_ : ∀ (ad : Nat → Nat → Nat) (H : Heap) (locs : List Loc) (x : TG) (y : TM) (o : Nat → Int64) (l4 : Int32) (ls : Array Slot), k23_ x y o l4 = some 1 → lv_has ls 9 [(0, .ref b), (1, .ref (g 0)), (2, .ref (am 0)), (3, .ref qo), (4, .int l4)] → va_P E.1 vwCl ((cML E am y) ++ ((cOut E qo o) ++ (cGL E g ad x))) H → va_S (fun q : Nat => s.heap.size ≤ q) s.heap H locs → va_D (fun q : Nat => s.heap.size ≤ q) ((cML E am y) ++ ((cOut E qo o) ++ (cGL E g ad x))) → W p l e room_1 s m #[Value.ref b] below meth c H locs (cells + 16) (slots + 200) (lw_Z below #[Value.ref b] s) (F0 m 23 ls [])) : ∀ (ad : Nat → Nat → Nat) (H : Heap) (locs : List Loc) (x : TG) (y : TM) (o : Nat → Int64) (l4 : Int32) (ls : Array Slot), f_L_law_152 xs L k23_ x y o l4 = some 1 → lv_has ls 9 [(0, .ref b), (1, .ref (g 0)), (2, .ref (am 0)), (3, .ref qo), (4, .int l4)] → va_P E.1 vwCl ((cML E am y) ++ ((cOut E qo o) ++ (cGL E g ad x))) H → va_S (fun q : Nat => s.heap.size ≤ q) s.heap H locs → va_D (fun q : Nat => s.heap.size ≤ q) ((cML E am y) ++ ((cOut E qo o) ++ (cGL E g ad x))) → W p l e room_1 s m #[Value.ref b] below meth c H locs cells slots (lw_Z below #[Value.ref b] s) (F0 m 152 ls []) := by
  obtain ⟨hx, hb, hr, hml, hown, hts0, hX, hbl, hlocks, hgv⟩ := id C0
  have hts := gL_hts hts0
  have hbA : ¬ (fun q : Nat => s.heap.size ≤ q) b := Nat.not_le.mpr hbl
  have hA : ∀ q : Nat, s.heap.size ≤ q → (fun q : Nat => s.heap.size ≤ q) q := fun _ h => h
  intro ad H locs x y o l4 ls hf hl hP hS hD
  unfold f_L_law_152 at hf
  refine lv_aload_n hx hb dL_law_152 rfl (lv_at hl 1 rfl) ?_
  refine lv_aload_n hx hb dL_law_153 rfl (lv_at hl 0 rfl) ?_
  refine lv_iload hx hb dL_law_154 (lv_at hl 4 rfl) ?_
  refine lv_iconst (v := 1) hx hb dL_law_156 (by decide) ?_
  refine lv_iadd hx hb dL_law_157 ?_
  refine g_sld hx hb hX hbl hbA hS hf dL_law_158 (fun v3 hf => ?_)
  refine lv_aload_n hx hb dL_law_159 rfl (lv_at hl 0 rfl) ?_
  refine lv_iload hx hb dL_law_160 (lv_at hl 4 rfl) ?_
  refine lv_iconst (v := 2) hx hb dL_law_162 (by decide) ?_
  refine lv_iadd hx hb dL_law_163 ?_
  refine g_sld hx hb hX hbl hbA hS hf dL_law_164 (fun v4 hf => ?_)
  refine lv_aload_n hx hb dL_law_165 rfl (lv_at hl 3 rfl) ?_
  have hA1 : ∀ q : Nat, Array.size H ≤ q → (fun q : Nat => s.heap.size ≤ q) q := fun q h => Nat.le_trans hS.1 h
  have hPc : va_P E.1 vwCl ((cOut E qo o) ++ (cGL E g ad x)) H := hP.right
  have hDc : va_D (fun q : Nat => s.heap.size ≤ q) ((cOut E qo o) ++ (cGL E g ad x)) := hD.right
  refine g_callA2 (fun v5 => some (.int v5.1)) (fun v5 ad => ((cOut E qo v5.2.2.2.2.2) ++ (cG E g ad v5.2.1 v5.2.2.1 v5.2.2.2.1 x.2.2.2.1 x.2.2.2.2.1 x.2.2.2.2.2.1 v5.2.2.2.2.1))) hf (fun v5 hv => vx_runSW (As := [.ref (g 0), .int v3, .int v4, .ref qo]) (rest := []) ⟨hx, hb, hml, hown, hts⟩ (c_L_addPeg l E g ad qo x.1 x.2.1 x.2.2.1 x.2.2.2.1 x.2.2.2.2.1 x.2.2.2.2.2.1 x.2.2.2.2.2.2 o v3 v4 hst _ v5 hv) (vx_cwSW 4 hts (gd_SH q100 q101 qRL q103) rfl rfl rfl (by decide +kernel) ⟨Nat.le_of_ble_eq_true rfl, Nat.le_of_ble_eq_true rfl⟩) (g_preSl hPc hDc hG hT hN hS (va_A.all hDc hA1)) rfl rfl hl.1 rfl (lv_room (Nat.le_of_ble_eq_true rfl)) dL_law_166 ⟨(gRc (by (try dsimp only); omega)), (gRs (by (try dsimp only); omega))⟩) hS (va_A.all hDc hA1) (va_A.all hDc hA1) (fun v5 ad H1 locs hf hP1 hD1 hkp hS => ?_)
  obtain ⟨hP2, hD2⟩ := join_end hP hD hA1 hkp hP1 hD1
  clear hP hD hPc hDc hP1 hD1 hkp hA1
  revert hS hP2 hD2; generalize H1 = H; intro hS hP hD
  have hP : va_P E.1 vwCl ((cML E am y) ++ ((cOut E qo v5.2.2.2.2.2) ++ (cG E g ad v5.2.1 v5.2.2.1 v5.2.2.2.1 x.2.2.2.1 x.2.2.2.2.1 x.2.2.2.2.2.1 v5.2.2.2.2.1))) H := hP
  have hD : va_D (fun q : Nat => s.heap.size ≤ q) ((cML E am y) ++ ((cOut E qo v5.2.2.2.2.2) ++ (cG E g ad v5.2.1 v5.2.2.1 v5.2.2.2.1 x.2.2.2.1 x.2.2.2.2.1 x.2.2.2.2.2.1 v5.2.2.2.2.1))) := hD
  refine W.widen (k := cells + 6) (n := slots + 70) (by (try dsimp only); omega) (by (try dsimp only); omega) ?_
  refine lv_istore (lv' := [(5, .int v5.1), (0, .ref b), (1, .ref (g 0)), (2, .ref (am 0)), (3, .ref qo), (4, .int l4)]) hx hb dL_law_169 hl (by decide) rfl (fun ls hl => ?_)
  refine lv_aload_n hx hb dL_law_171 rfl (lv_at hl 3 rfl) ?_
  refine lv_aload_n hx hb dL_law_172 rfl (lv_at hl 1 rfl) ?_
  refine lv_iload hx hb dL_law_173 (lv_at hl 5 rfl) ?_
  refine lv_iconst (v := 1) hx hb dL_law_175 (by decide) ?_
  refine lv_iadd hx hb dL_law_176 ?_
  refine g_sld hx hb hX hbl hbA hS hf dL_law_177 (fun v6 hf => ?_)
  refine lv_aload_n hx hb dL_law_178 rfl (lv_at hl 1 rfl) ?_
  refine lv_iload hx hb dL_law_179 (lv_at hl 5 rfl) ?_
  refine lv_iconst (v := 2) hx hb dL_law_181 (by decide) ?_
  refine lv_iadd hx hb dL_law_182 ?_
  refine g_sld hx hb hX hbl hbA hS hf dL_law_183 (fun v7 hf => ?_)
  have hPc : va_P E.1 vwCl (cML E am y) H := hP.left
  have hA1 : ∀ q : Nat, Array.size H ≤ q → (fun q : Nat => s.heap.size ≤ q) q := fun q h => Nat.le_trans hS.1 h
  have hDc : va_D (fun q : Nat => s.heap.size ≤ q) (cML E am y) := hD.left
  refine g_callMi (fun v8 => .int v8.1) (fun v8 => (cM E am 0 v8.2.1 v8.2.2.1 y.2.2.1 v8.2.2.2.1 v8.2.2.2.2 y.2.2.2.2.2.1 y.2.2.2.2.2.2.1 y.2.2.2.2.2.2.2.1 y.2.2.2.2.2.2.2.2.1 y.2.2.2.2.2.2.2.2.2.1 y.2.2.2.2.2.2.2.2.2.2.1 y.2.2.2.2.2.2.2.2.2.2.2.1 y.2.2.2.2.2.2.2.2.2.2.2.2.1 y.2.2.2.2.2.2.2.2.2.2.2.2.2.1 y.2.2.2.2.2.2.2.2.2.2.2.2.2.2.1 y.2.2.2.2.2.2.2.2.2.2.2.2.2.2.2.1 y.2.2.2.2.2.2.2.2.2.2.2.2.2.2.2.2.1 y.2.2.2.2.2.2.2.2.2.2.2.2.2.2.2.2.2.1 y.2.2.2.2.2.2.2.2.2.2.2.2.2.2.2.2.2.2.1 y.2.2.2.2.2.2.2.2.2.2.2.2.2.2.2.2.2.2.2.1 y.2.2.2.2.2.2.2.2.2.2.2.2.2.2.2.2.2.2.2.2)) hf (fun v8 hv => va_runV (As := [.int v6, .int v7]) (rest := []) ⟨hx, hb, hml, hown, hts⟩ (c_X6_addPeg l E am 0 y.1 y.2.1 y.2.2.1 y.2.2.2.1 y.2.2.2.2.1 y.2.2.2.2.2.1 y.2.2.2.2.2.2.1 y.2.2.2.2.2.2.2.1 y.2.2.2.2.2.2.2.2.1 y.2.2.2.2.2.2.2.2.2.1 y.2.2.2.2.2.2.2.2.2.2.1 y.2.2.2.2.2.2.2.2.2.2.2.1 y.2.2.2.2.2.2.2.2.2.2.2.2.1 y.2.2.2.2.2.2.2.2.2.2.2.2.2.1 y.2.2.2.2.2.2.2.2.2.2.2.2.2.2.1 y.2.2.2.2.2.2.2.2.2.2.2.2.2.2.2.1 y.2.2.2.2.2.2.2.2.2.2.2.2.2.2.2.2.1 y.2.2.2.2.2.2.2.2.2.2.2.2.2.2.2.2.2.1 y.2.2.2.2.2.2.2.2.2.2.2.2.2.2.2.2.2.2.1 y.2.2.2.2.2.2.2.2.2.2.2.2.2.2.2.2.2.2.2.1 y.2.2.2.2.2.2.2.2.2.2.2.2.2.2.2.2.2.2.2.2 v6 v7 _ v8 hv) (cwV 2 hts (gd_V q210 q211 q212 q5 q213) rfl rfl rfl (by decide +kernel) ⟨Nat.le_of_ble_eq_true rfl, Nat.le_of_ble_eq_true rfl⟩) (g_preVm hPc hDc hG rfl rfl) rfl rfl hl.1 rfl (lv_room (Nat.le_of_ble_eq_true rfl)) dL_law_184 ⟨(gRc (by (try dsimp only); omega)), (gRs (by (try dsimp only); omega))⟩) hS (va_A.all hDc hA1) (va_A.all hDc hA1) (fun v8 H1 locs hf hP1 hsz hkp hS => ?_)
  have hP2 := put_mid (X := []) (C := (cML E am y)) (Y := ((cOut E qo v5.2.2.2.2.2) ++ (cG E g ad v5.2.1 v5.2.2.1 v5.2.2.2.1 x.2.2.2.1 x.2.2.2.2.1 x.2.2.2.2.2.1 v5.2.2.2.2.1))) hP hD hkp hP1
  have hD2 : va_D (fun q : Nat => s.heap.size ≤ q) ((cM E am 0 v8.2.1 v8.2.2.1 y.2.2.1 v8.2.2.2.1 v8.2.2.2.2 y.2.2.2.2.2.1 y.2.2.2.2.2.2.1 y.2.2.2.2.2.2.2.1 y.2.2.2.2.2.2.2.2.1 y.2.2.2.2.2.2.2.2.2.1 y.2.2.2.2.2.2.2.2.2.2.1 y.2.2.2.2.2.2.2.2.2.2.2.1 y.2.2.2.2.2.2.2.2.2.2.2.2.1 y.2.2.2.2.2.2.2.2.2.2.2.2.2.1 y.2.2.2.2.2.2.2.2.2.2.2.2.2.2.1 y.2.2.2.2.2.2.2.2.2.2.2.2.2.2.2.1 y.2.2.2.2.2.2.2.2.2.2.2.2.2.2.2.2.1 y.2.2.2.2.2.2.2.2.2.2.2.2.2.2.2.2.2.1 y.2.2.2.2.2.2.2.2.2.2.2.2.2.2.2.2.2.2.1 y.2.2.2.2.2.2.2.2.2.2.2.2.2.2.2.2.2.2.2.1 y.2.2.2.2.2.2.2.2.2.2.2.2.2.2.2.2.2.2.2.2) ++ ((cOut E qo v5.2.2.2.2.2) ++ (cG E g ad v5.2.1 v5.2.2.1 v5.2.2.2.1 x.2.2.2.1 x.2.2.2.2.1 x.2.2.2.2.2.1 v5.2.2.2.2.1))) := va_D.sameL hD rfl
  clear hP hD hPc hDc hP1 hsz hkp hA1
  revert hS hP2 hD2; generalize H1 = H; intro hS hP hD
  have hP : va_P E.1 vwCl ((cM E am 0 v8.2.1 v8.2.2.1 y.2.2.1 v8.2.2.2.1 v8.2.2.2.2 y.2.2.2.2.2.1 y.2.2.2.2.2.2.1 y.2.2.2.2.2.2.2.1 y.2.2.2.2.2.2.2.2.1 y.2.2.2.2.2.2.2.2.2.1 y.2.2.2.2.2.2.2.2.2.2.1 y.2.2.2.2.2.2.2.2.2.2.2.1 y.2.2.2.2.2.2.2.2.2.2.2.2.1 y.2.2.2.2.2.2.2.2.2.2.2.2.2.1 y.2.2.2.2.2.2.2.2.2.2.2.2.2.2.1 y.2.2.2.2.2.2.2.2.2.2.2.2.2.2.2.1 y.2.2.2.2.2.2.2.2.2.2.2.2.2.2.2.2.1 y.2.2.2.2.2.2.2.2.2.2.2.2.2.2.2.2.2.1 y.2.2.2.2.2.2.2.2.2.2.2.2.2.2.2.2.2.2.1 y.2.2.2.2.2.2.2.2.2.2.2.2.2.2.2.2.2.2.2.1 y.2.2.2.2.2.2.2.2.2.2.2.2.2.2.2.2.2.2.2.2) ++ ((cOut E qo v5.2.2.2.2.2) ++ (cG E g ad v5.2.1 v5.2.2.1 v5.2.2.2.1 x.2.2.2.1 x.2.2.2.2.1 x.2.2.2.2.2.1 v5.2.2.2.2.1))) H := hP
  refine lv_istore (lv' := [(6, .int v8.1), (5, .int v5.1), (0, .ref b), (1, .ref (g 0)), (2, .ref (am 0)), (3, .ref qo), (4, .int l4)]) hx hb dL_law_187 hl (by decide) rfl (fun ls hl => ?_)
  refine lv_aload_n hx hb dL_law_189 rfl (lv_at hl 4 rfl) ?_
  have hPc : va_P E.1 vwCl (cM E am 0 v8.2.1 v8.2.2.1 y.2.2.1 v8.2.2.2.1 v8.2.2.2.2 y.2.2.2.2.2.1 y.2.2.2.2.2.2.1 y.2.2.2.2.2.2.2.1 y.2.2.2.2.2.2.2.2.1 y.2.2.2.2.2.2.2.2.2.1 y.2.2.2.2.2.2.2.2.2.2.1 y.2.2.2.2.2.2.2.2.2.2.2.1 y.2.2.2.2.2.2.2.2.2.2.2.2.1 y.2.2.2.2.2.2.2.2.2.2.2.2.2.1 y.2.2.2.2.2.2.2.2.2.2.2.2.2.2.1 y.2.2.2.2.2.2.2.2.2.2.2.2.2.2.2.1 y.2.2.2.2.2.2.2.2.2.2.2.2.2.2.2.2.1 y.2.2.2.2.2.2.2.2.2.2.2.2.2.2.2.2.2.1 y.2.2.2.2.2.2.2.2.2.2.2.2.2.2.2.2.2.2.1 y.2.2.2.2.2.2.2.2.2.2.2.2.2.2.2.2.2.2.2.1 y.2.2.2.2.2.2.2.2.2.2.2.2.2.2.2.2.2.2.2.2) H := hP.left
  refine g_callR Value.int hf (fun v9 hv => va_runV (As := []) (rest := []) ⟨hx, hb, hml, hown, hts⟩ (c_X6_thrown l E am 0 v8.2.1 v8.2.2.1 y.2.2.1 v8.2.2.2.1 v8.2.2.2.2 y.2.2.2.2.2.1 y.2.2.2.2.2.2.1 y.2.2.2.2.2.2.2.1 y.2.2.2.2.2.2.2.2.1 y.2.2.2.2.2.2.2.2.2.1 y.2.2.2.2.2.2.2.2.2.2.1 y.2.2.2.2.2.2.2.2.2.2.2.1 y.2.2.2.2.2.2.2.2.2.2.2.2.1 y.2.2.2.2.2.2.2.2.2.2.2.2.2.1 y.2.2.2.2.2.2.2.2.2.2.2.2.2.2.1 y.2.2.2.2.2.2.2.2.2.2.2.2.2.2.2.1 y.2.2.2.2.2.2.2.2.2.2.2.2.2.2.2.2.1 y.2.2.2.2.2.2.2.2.2.2.2.2.2.2.2.2.2.1 y.2.2.2.2.2.2.2.2.2.2.2.2.2.2.2.2.2.2.1 y.2.2.2.2.2.2.2.2.2.2.2.2.2.2.2.2.2.2.2.1 y.2.2.2.2.2.2.2.2.2.2.2.2.2.2.2.2.2.2.2.2 v9 hv) (cwV 0 hts (gd_V q246 q247 q248 q5 q249) rfl rfl rfl (by decide +kernel) ⟨Nat.le_of_ble_eq_true rfl, Nat.le_of_ble_eq_true rfl⟩) (g_preV hPc hG rfl rfl) rfl rfl hl.1 rfl (lv_room (Nat.le_of_ble_eq_true rfl)) dL_law_190 ⟨(gRc (by (try dsimp only); omega)), (gRs (by (try dsimp only); omega))⟩) (fun v9 hf => ?_)
  clear hPc
  refine lv_iload hx hb dL_law_193 (lv_at hl 1 rfl) ?_
  refine g_icmp_eq (tgt := 200) hx hb hf dL_law_195 (by decide) (fun hf => ?_) (fun hf => ?_)
  · refine lv_iload hx hb dL_law_200 (lv_at hl 1 rfl) ?_
    refine g_if_ne (tgt := 217) hx hb hf dL_law_202 (by decide) (fun hf => ?_) (fun hf => ?_)
    · exact w_L_law_217 hL C0 hG hT hN hst cells slots hcs hss k23_ hk23_ ad _ _ (v5.2.1, v5.2.2.1, v5.2.2.2.1, x.2.2.2.1, x.2.2.2.2.1, x.2.2.2.2.2.1, v5.2.2.2.2.1) (v8.2.1, v8.2.2.1, y.2.2.1, v8.2.2.2.1, v8.2.2.2.2, y.2.2.2.2.2.1, y.2.2.2.2.2.2.1, y.2.2.2.2.2.2.2.1, y.2.2.2.2.2.2.2.2.1, y.2.2.2.2.2.2.2.2.2.1, y.2.2.2.2.2.2.2.2.2.2.1, y.2.2.2.2.2.2.2.2.2.2.2.1, y.2.2.2.2.2.2.2.2.2.2.2.2.1, y.2.2.2.2.2.2.2.2.2.2.2.2.2.1, y.2.2.2.2.2.2.2.2.2.2.2.2.2.2.1, y.2.2.2.2.2.2.2.2.2.2.2.2.2.2.2.1, y.2.2.2.2.2.2.2.2.2.2.2.2.2.2.2.2.1, y.2.2.2.2.2.2.2.2.2.2.2.2.2.2.2.2.2.1, y.2.2.2.2.2.2.2.2.2.2.2.2.2.2.2.2.2.2.1, y.2.2.2.2.2.2.2.2.2.2.2.2.2.2.2.2.2.2.2.1, y.2.2.2.2.2.2.2.2.2.2.2.2.2.2.2.2.2.2.2.2) v5.2.2.2.2.2 l4 _ hf (lv_sub hl [2, 3, 4, 5, 6] rfl) hP hS hD
    · refine lv_aload_n hx hb dL_law_205 rfl (lv_at hl 5 rfl) ?_
      refine lv_iconst (v := 0) hx hb dL_law_206 (by decide) ?_
      refine g_lald hx hb hG.1 hP 11 rfl hf dL_law_207 (fun v11 hf => ?_)
      refine lv_iload hx hb dL_law_208 (lv_at hl 0 rfl) ?_
      refine lv_i2l (v := (Int32.toInt64 v8.1)) hx hb dL_law_210 rfl ?_
      refine W.lcmp hx hb dL_law_211 ?_
      refine g_if_eq (tgt := 217) hx hb hf dL_law_212 (by decide) (fun hf => ?_) (fun hf => ?_)
      · exact w_L_law_217 hL C0 hG hT hN hst cells slots hcs hss k23_ hk23_ ad _ _ (v5.2.1, v5.2.2.1, v5.2.2.2.1, x.2.2.2.1, x.2.2.2.2.1, x.2.2.2.2.2.1, v5.2.2.2.2.1) (v8.2.1, v8.2.2.1, y.2.2.1, v8.2.2.2.1, v8.2.2.2.2, y.2.2.2.2.2.1, y.2.2.2.2.2.2.1, y.2.2.2.2.2.2.2.1, y.2.2.2.2.2.2.2.2.1, y.2.2.2.2.2.2.2.2.2.1, y.2.2.2.2.2.2.2.2.2.2.1, y.2.2.2.2.2.2.2.2.2.2.2.1, y.2.2.2.2.2.2.2.2.2.2.2.2.1, y.2.2.2.2.2.2.2.2.2.2.2.2.2.1, y.2.2.2.2.2.2.2.2.2.2.2.2.2.2.1, y.2.2.2.2.2.2.2.2.2.2.2.2.2.2.2.1, y.2.2.2.2.2.2.2.2.2.2.2.2.2.2.2.2.1, y.2.2.2.2.2.2.2.2.2.2.2.2.2.2.2.2.2.1, y.2.2.2.2.2.2.2.2.2.2.2.2.2.2.2.2.2.2.1, y.2.2.2.2.2.2.2.2.2.2.2.2.2.2.2.2.2.2.2.1, y.2.2.2.2.2.2.2.2.2.2.2.2.2.2.2.2.2.2.2.2) v5.2.2.2.2.2 l4 _ hf (lv_sub hl [2, 3, 4, 5, 6] rfl) hP hS hD
      · refine lv_iconst (v := 0) hx hb dL_law_215 (by decide) ?_
        cases hf
  · refine lv_iconst (v := 0) hx hb dL_law_198 (by decide) ?_
    cases hf
set_option maxHeartbeats 4000000 in
set_option maxRecDepth 100000 in
theorem w_L_law_297 {p : Program} {l : Launch} {e : Env} {s : State} {m : MethodId} {below : List Frame} {meth : Method} {c : Code} {b L : Nat} {xs : Nat → Int32} {E : gE} {g am : Nat → Nat} {qo : Nat} (hL : L ≤ 2560) (C0 : lw_At p s m meth c b L xs) (hG : gK E s) (hT : gTh (fun q : Nat => s.heap.size ≤ q) s s.heap) (hN : gNc s) (hst : l.stackTraces = false)  (cells slots : Nat) (hcs : cells + 16 ≤ 601000) (hss : slots + 200 ≤ 7293000) (k23_ : TG → TM → (Nat → Int64) → Int32 → Option (Int32)) (hk23_ : ∀ (ad : Nat → Nat → Nat) (H : Heap) (locs : List Loc) (x : TG) (y : TM) (o : Nat → Int64) (l4 : Int32) (ls : Array Slot), k23_ x y o l4 = some 1 → lv_has ls 9 [(0, .ref b), (1, .ref (g 0)), (2, .ref (am 0)), (3, .ref qo), (4, .int l4)] → va_P E.1 vwCl ((cML E am y) ++ ((cOut E qo o) ++ (cGL E g ad x))) H → va_S (fun q : Nat => s.heap.size ≤ q) s.heap H locs → va_D (fun q : Nat => s.heap.size ≤ q) ((cML E am y) ++ ((cOut E qo o) ++ (cGL E g ad x))) → W p l e room_1 s m #[Value.ref b] below meth c H locs (cells + 16) (slots + 200) (lw_Z below #[Value.ref b] s) (F0 m 23 ls [])) : ∀ (ad : Nat → Nat → Nat) (H : Heap) (locs : List Loc) (x : TG) (y : TM) (o : Nat → Int64) (l4 : Int32) (ls : Array Slot), f_L_law_297 xs L k23_ x y o l4 = some 1 → lv_has ls 9 [(0, .ref b), (1, .ref (g 0)), (2, .ref (am 0)), (3, .ref qo), (4, .int l4)] → va_P E.1 vwCl ((cML E am y) ++ ((cOut E qo o) ++ (cGL E g ad x))) H → va_S (fun q : Nat => s.heap.size ≤ q) s.heap H locs → va_D (fun q : Nat => s.heap.size ≤ q) ((cML E am y) ++ ((cOut E qo o) ++ (cGL E g ad x))) → W p l e room_1 s m #[Value.ref b] below meth c H locs (cells + 7) (slots + 76) (lw_Z below #[Value.ref b] s) (F0 m 297 ls []) := by
  obtain ⟨hx, hb, hr, hml, hown, hts0, hX, hbl, hlocks, hgv⟩ := id C0
  have hts := gL_hts hts0
  have hbA : ¬ (fun q : Nat => s.heap.size ≤ q) b := Nat.not_le.mpr hbl
  have hA : ∀ q : Nat, s.heap.size ≤ q → (fun q : Nat => s.heap.size ≤ q) q := fun _ h => h
  intro ad H locs x y o l4 ls hf hl hP hS hD
  unfold f_L_law_297 at hf
  refine lv_goto (tgt := 1526) hx hb dL_law_297 (by decide) ?_
  refine W.widen (k := (cells + 8)) (n := (slots + 82)) (by (try dsimp only); omega) (by (try dsimp only); omega) ?_
  exact w_L_law_1526 hL C0 hG hT hN hst cells slots hcs hss k23_ hk23_ ad _ _ x y o l4 _ hf hl hP hS hD
set_option maxHeartbeats 4000000 in
set_option maxRecDepth 100000 in
theorem w_L_law_220 {p : Program} {l : Launch} {e : Env} {s : State} {m : MethodId} {below : List Frame} {meth : Method} {c : Code} {b L : Nat} {xs : Nat → Int32} {E : gE} {g am : Nat → Nat} {qo : Nat} (hL : L ≤ 2560) (C0 : lw_At p s m meth c b L xs) (hG : gK E s) (hT : gTh (fun q : Nat => s.heap.size ≤ q) s s.heap) (hN : gNc s) (hst : l.stackTraces = false)  (cells slots : Nat) (hcs : cells + 16 ≤ 601000) (hss : slots + 200 ≤ 7293000) (k23_ : TG → TM → (Nat → Int64) → Int32 → Option (Int32)) (hk23_ : ∀ (ad : Nat → Nat → Nat) (H : Heap) (locs : List Loc) (x : TG) (y : TM) (o : Nat → Int64) (l4 : Int32) (ls : Array Slot), k23_ x y o l4 = some 1 → lv_has ls 9 [(0, .ref b), (1, .ref (g 0)), (2, .ref (am 0)), (3, .ref qo), (4, .int l4)] → va_P E.1 vwCl ((cML E am y) ++ ((cOut E qo o) ++ (cGL E g ad x))) H → va_S (fun q : Nat => s.heap.size ≤ q) s.heap H locs → va_D (fun q : Nat => s.heap.size ≤ q) ((cML E am y) ++ ((cOut E qo o) ++ (cGL E g ad x))) → W p l e room_1 s m #[Value.ref b] below meth c H locs (cells + 16) (slots + 200) (lw_Z below #[Value.ref b] s) (F0 m 23 ls [])) : ∀ (ad : Nat → Nat → Nat) (H : Heap) (locs : List Loc) (x : TG) (y : TM) (o : Nat → Int64) (l4 : Int32) (ls : Array Slot), f_L_law_220 xs L k23_ x y o l4 = some 1 → lv_has ls 9 [(0, .ref b), (1, .ref (g 0)), (2, .ref (am 0)), (3, .ref qo), (4, .int l4)] → va_P E.1 vwCl ((cML E am y) ++ ((cOut E qo o) ++ (cGL E g ad x))) H → va_S (fun q : Nat => s.heap.size ≤ q) s.heap H locs → va_D (fun q : Nat => s.heap.size ≤ q) ((cML E am y) ++ ((cOut E qo o) ++ (cGL E g ad x))) → W p l e room_1 s m #[Value.ref b] below meth c H locs cells slots (lw_Z below #[Value.ref b] s) (F0 m 220 ls []) := by
  obtain ⟨hx, hb, hr, hml, hown, hts0, hX, hbl, hlocks, hgv⟩ := id C0
  have hts := gL_hts hts0
  have hbA : ¬ (fun q : Nat => s.heap.size ≤ q) b := Nat.not_le.mpr hbl
  have hA : ∀ q : Nat, s.heap.size ≤ q → (fun q : Nat => s.heap.size ≤ q) q := fun _ h => h
  intro ad H locs x y o l4 ls hf hl hP hS hD
  unfold f_L_law_220 at hf
  refine lv_aload_n hx hb dL_law_220 rfl (lv_at hl 1 rfl) ?_
  refine lv_aload_n hx hb dL_law_221 rfl (lv_at hl 0 rfl) ?_
  refine lv_iload hx hb dL_law_222 (lv_at hl 4 rfl) ?_
  refine lv_iconst (v := 1) hx hb dL_law_224 (by decide) ?_
  refine lv_iadd hx hb dL_law_225 ?_
  refine g_sld hx hb hX hbl hbA hS hf dL_law_226 (fun v12 hf => ?_)
  refine lv_aload_n hx hb dL_law_227 rfl (lv_at hl 0 rfl) ?_
  refine lv_iload hx hb dL_law_228 (lv_at hl 4 rfl) ?_
  refine lv_iconst (v := 2) hx hb dL_law_230 (by decide) ?_
  refine lv_iadd hx hb dL_law_231 ?_
  refine g_sld hx hb hX hbl hbA hS hf dL_law_232 (fun v13 hf => ?_)
  refine lv_aload_n hx hb dL_law_233 rfl (lv_at hl 0 rfl) ?_
  refine lv_iload hx hb dL_law_234 (lv_at hl 4 rfl) ?_
  refine lv_iconst (v := 3) hx hb dL_law_236 (by decide) ?_
  refine lv_iadd hx hb dL_law_237 ?_
  refine g_sld hx hb hX hbl hbA hS hf dL_law_238 (fun v14 hf => ?_)
  refine lv_aload_n hx hb dL_law_239 rfl (lv_at hl 3 rfl) ?_
  have hA1 : ∀ q : Nat, Array.size H ≤ q → (fun q : Nat => s.heap.size ≤ q) q := fun q h => Nat.le_trans hS.1 h
  have hPc : va_P E.1 vwCl ((cOut E qo o) ++ (cGL E g ad x)) H := hP.right
  have hDc : va_D (fun q : Nat => s.heap.size ≤ q) ((cOut E qo o) ++ (cGL E g ad x)) := hD.right
  refine g_callA2 (fun v15 => some (.int v15.1)) (fun v15 ad => ((cOut E qo v15.2.2.2.2.2) ++ (cG E g ad v15.2.1 v15.2.2.1 v15.2.2.2.1 x.2.2.2.1 x.2.2.2.2.1 x.2.2.2.2.2.1 v15.2.2.2.2.1))) hf (fun v15 hv => vx_runSW (As := [.ref (g 0), .int v12, .int v13, .int v14, .ref qo]) (rest := []) ⟨hx, hb, hml, hown, hts⟩ (c_L_putGear l E g ad qo x.1 x.2.1 x.2.2.1 x.2.2.2.1 x.2.2.2.2.1 x.2.2.2.2.2.1 x.2.2.2.2.2.2 o v12 v13 v14 hst _ v15 hv) (vx_cwSW 5 hts (gd_SH q250 q251 qRL q252) rfl rfl rfl (by decide +kernel) ⟨Nat.le_of_ble_eq_true rfl, Nat.le_of_ble_eq_true rfl⟩) (g_preSl hPc hDc hG hT hN hS (va_A.all hDc hA1)) rfl rfl hl.1 rfl (lv_room (Nat.le_of_ble_eq_true rfl)) dL_law_240 ⟨(gRc (by (try dsimp only); omega)), (gRs (by (try dsimp only); omega))⟩) hS (va_A.all hDc hA1) (va_A.all hDc hA1) (fun v15 ad H1 locs hf hP1 hD1 hkp hS => ?_)
  obtain ⟨hP2, hD2⟩ := join_end hP hD hA1 hkp hP1 hD1
  clear hP hD hPc hDc hP1 hD1 hkp hA1
  revert hS hP2 hD2; generalize H1 = H; intro hS hP hD
  have hP : va_P E.1 vwCl ((cML E am y) ++ ((cOut E qo v15.2.2.2.2.2) ++ (cG E g ad v15.2.1 v15.2.2.1 v15.2.2.2.1 x.2.2.2.1 x.2.2.2.2.1 x.2.2.2.2.2.1 v15.2.2.2.2.1))) H := hP
  have hD : va_D (fun q : Nat => s.heap.size ≤ q) ((cML E am y) ++ ((cOut E qo v15.2.2.2.2.2) ++ (cG E g ad v15.2.1 v15.2.2.1 v15.2.2.2.1 x.2.2.2.1 x.2.2.2.2.1 x.2.2.2.2.2.1 v15.2.2.2.2.1))) := hD
  refine W.widen (k := cells + 7) (n := slots + 76) (by (try dsimp only); omega) (by (try dsimp only); omega) ?_
  refine lv_istore (lv' := [(5, .int v15.1), (0, .ref b), (1, .ref (g 0)), (2, .ref (am 0)), (3, .ref qo), (4, .int l4)]) hx hb dL_law_243 hl (by decide) rfl (fun ls hl => ?_)
  refine lv_aload_n hx hb dL_law_245 rfl (lv_at hl 3 rfl) ?_
  refine lv_aload_n hx hb dL_law_246 rfl (lv_at hl 1 rfl) ?_
  refine lv_iload hx hb dL_law_247 (lv_at hl 5 rfl) ?_
  refine lv_iconst (v := 1) hx hb dL_law_249 (by decide) ?_
  refine lv_iadd hx hb dL_law_250 ?_
  refine g_sld hx hb hX hbl hbA hS hf dL_law_251 (fun v16 hf => ?_)
  refine lv_aload_n hx hb dL_law_252 rfl (lv_at hl 1 rfl) ?_
  refine lv_iload hx hb dL_law_253 (lv_at hl 5 rfl) ?_
  refine lv_iconst (v := 2) hx hb dL_law_255 (by decide) ?_
  refine lv_iadd hx hb dL_law_256 ?_
  refine g_sld hx hb hX hbl hbA hS hf dL_law_257 (fun v17 hf => ?_)
  refine lv_aload_n hx hb dL_law_258 rfl (lv_at hl 1 rfl) ?_
  refine lv_iload hx hb dL_law_259 (lv_at hl 5 rfl) ?_
  refine lv_iconst (v := 3) hx hb dL_law_261 (by decide) ?_
  refine lv_iadd hx hb dL_law_262 ?_
  refine g_sld hx hb hX hbl hbA hS hf dL_law_263 (fun v18 hf => ?_)
  have hPc : va_P E.1 vwCl (cML E am y) H := hP.left
  have hA1 : ∀ q : Nat, Array.size H ≤ q → (fun q : Nat => s.heap.size ≤ q) q := fun q h => Nat.le_trans hS.1 h
  have hDc : va_D (fun q : Nat => s.heap.size ≤ q) (cML E am y) := hD.left
  refine g_callMi (fun v19 => .int v19.1) (fun v19 => (cM E am 0 v19.2.1 v19.2.2.1 y.2.2.1 v19.2.2.2.1 v19.2.2.2.2 y.2.2.2.2.2.1 y.2.2.2.2.2.2.1 y.2.2.2.2.2.2.2.1 y.2.2.2.2.2.2.2.2.1 y.2.2.2.2.2.2.2.2.2.1 y.2.2.2.2.2.2.2.2.2.2.1 y.2.2.2.2.2.2.2.2.2.2.2.1 y.2.2.2.2.2.2.2.2.2.2.2.2.1 y.2.2.2.2.2.2.2.2.2.2.2.2.2.1 y.2.2.2.2.2.2.2.2.2.2.2.2.2.2.1 y.2.2.2.2.2.2.2.2.2.2.2.2.2.2.2.1 y.2.2.2.2.2.2.2.2.2.2.2.2.2.2.2.2.1 y.2.2.2.2.2.2.2.2.2.2.2.2.2.2.2.2.2.1 y.2.2.2.2.2.2.2.2.2.2.2.2.2.2.2.2.2.2.1 y.2.2.2.2.2.2.2.2.2.2.2.2.2.2.2.2.2.2.2.1 y.2.2.2.2.2.2.2.2.2.2.2.2.2.2.2.2.2.2.2.2)) hf (fun v19 hv => va_runV (As := [.int v16, .int v17, .int v18]) (rest := []) ⟨hx, hb, hml, hown, hts⟩ (c_X6_putGear l E am 0 y.1 y.2.1 y.2.2.1 y.2.2.2.1 y.2.2.2.2.1 y.2.2.2.2.2.1 y.2.2.2.2.2.2.1 y.2.2.2.2.2.2.2.1 y.2.2.2.2.2.2.2.2.1 y.2.2.2.2.2.2.2.2.2.1 y.2.2.2.2.2.2.2.2.2.2.1 y.2.2.2.2.2.2.2.2.2.2.2.1 y.2.2.2.2.2.2.2.2.2.2.2.2.1 y.2.2.2.2.2.2.2.2.2.2.2.2.2.1 y.2.2.2.2.2.2.2.2.2.2.2.2.2.2.1 y.2.2.2.2.2.2.2.2.2.2.2.2.2.2.2.1 y.2.2.2.2.2.2.2.2.2.2.2.2.2.2.2.2.1 y.2.2.2.2.2.2.2.2.2.2.2.2.2.2.2.2.2.1 y.2.2.2.2.2.2.2.2.2.2.2.2.2.2.2.2.2.2.1 y.2.2.2.2.2.2.2.2.2.2.2.2.2.2.2.2.2.2.2.1 y.2.2.2.2.2.2.2.2.2.2.2.2.2.2.2.2.2.2.2.2 v16 v17 v18 _ v19 hv) (cwV 3 hts (gd_V q293 q294 q295 q5 q296) rfl rfl rfl (by decide +kernel) ⟨Nat.le_of_ble_eq_true rfl, Nat.le_of_ble_eq_true rfl⟩) (g_preVm hPc hDc hG rfl rfl) rfl rfl hl.1 rfl (lv_room (Nat.le_of_ble_eq_true rfl)) dL_law_264 ⟨(gRc (by (try dsimp only); omega)), (gRs (by (try dsimp only); omega))⟩) hS (va_A.all hDc hA1) (va_A.all hDc hA1) (fun v19 H1 locs hf hP1 hsz hkp hS => ?_)
  have hP2 := put_mid (X := []) (C := (cML E am y)) (Y := ((cOut E qo v15.2.2.2.2.2) ++ (cG E g ad v15.2.1 v15.2.2.1 v15.2.2.2.1 x.2.2.2.1 x.2.2.2.2.1 x.2.2.2.2.2.1 v15.2.2.2.2.1))) hP hD hkp hP1
  have hD2 : va_D (fun q : Nat => s.heap.size ≤ q) ((cM E am 0 v19.2.1 v19.2.2.1 y.2.2.1 v19.2.2.2.1 v19.2.2.2.2 y.2.2.2.2.2.1 y.2.2.2.2.2.2.1 y.2.2.2.2.2.2.2.1 y.2.2.2.2.2.2.2.2.1 y.2.2.2.2.2.2.2.2.2.1 y.2.2.2.2.2.2.2.2.2.2.1 y.2.2.2.2.2.2.2.2.2.2.2.1 y.2.2.2.2.2.2.2.2.2.2.2.2.1 y.2.2.2.2.2.2.2.2.2.2.2.2.2.1 y.2.2.2.2.2.2.2.2.2.2.2.2.2.2.1 y.2.2.2.2.2.2.2.2.2.2.2.2.2.2.2.1 y.2.2.2.2.2.2.2.2.2.2.2.2.2.2.2.2.1 y.2.2.2.2.2.2.2.2.2.2.2.2.2.2.2.2.2.1 y.2.2.2.2.2.2.2.2.2.2.2.2.2.2.2.2.2.2.1 y.2.2.2.2.2.2.2.2.2.2.2.2.2.2.2.2.2.2.2.1 y.2.2.2.2.2.2.2.2.2.2.2.2.2.2.2.2.2.2.2.2) ++ ((cOut E qo v15.2.2.2.2.2) ++ (cG E g ad v15.2.1 v15.2.2.1 v15.2.2.2.1 x.2.2.2.1 x.2.2.2.2.1 x.2.2.2.2.2.1 v15.2.2.2.2.1))) := va_D.sameL hD rfl
  clear hP hD hPc hDc hP1 hsz hkp hA1
  revert hS hP2 hD2; generalize H1 = H; intro hS hP hD
  have hP : va_P E.1 vwCl ((cM E am 0 v19.2.1 v19.2.2.1 y.2.2.1 v19.2.2.2.1 v19.2.2.2.2 y.2.2.2.2.2.1 y.2.2.2.2.2.2.1 y.2.2.2.2.2.2.2.1 y.2.2.2.2.2.2.2.2.1 y.2.2.2.2.2.2.2.2.2.1 y.2.2.2.2.2.2.2.2.2.2.1 y.2.2.2.2.2.2.2.2.2.2.2.1 y.2.2.2.2.2.2.2.2.2.2.2.2.1 y.2.2.2.2.2.2.2.2.2.2.2.2.2.1 y.2.2.2.2.2.2.2.2.2.2.2.2.2.2.1 y.2.2.2.2.2.2.2.2.2.2.2.2.2.2.2.1 y.2.2.2.2.2.2.2.2.2.2.2.2.2.2.2.2.1 y.2.2.2.2.2.2.2.2.2.2.2.2.2.2.2.2.2.1 y.2.2.2.2.2.2.2.2.2.2.2.2.2.2.2.2.2.2.1 y.2.2.2.2.2.2.2.2.2.2.2.2.2.2.2.2.2.2.2.1 y.2.2.2.2.2.2.2.2.2.2.2.2.2.2.2.2.2.2.2.2) ++ ((cOut E qo v15.2.2.2.2.2) ++ (cG E g ad v15.2.1 v15.2.2.1 v15.2.2.2.1 x.2.2.2.1 x.2.2.2.2.1 x.2.2.2.2.2.1 v15.2.2.2.2.1))) H := hP
  refine lv_istore (lv' := [(6, .int v19.1), (5, .int v15.1), (0, .ref b), (1, .ref (g 0)), (2, .ref (am 0)), (3, .ref qo), (4, .int l4)]) hx hb dL_law_267 hl (by decide) rfl (fun ls hl => ?_)
  refine lv_aload_n hx hb dL_law_269 rfl (lv_at hl 4 rfl) ?_
  have hPc : va_P E.1 vwCl (cM E am 0 v19.2.1 v19.2.2.1 y.2.2.1 v19.2.2.2.1 v19.2.2.2.2 y.2.2.2.2.2.1 y.2.2.2.2.2.2.1 y.2.2.2.2.2.2.2.1 y.2.2.2.2.2.2.2.2.1 y.2.2.2.2.2.2.2.2.2.1 y.2.2.2.2.2.2.2.2.2.2.1 y.2.2.2.2.2.2.2.2.2.2.2.1 y.2.2.2.2.2.2.2.2.2.2.2.2.1 y.2.2.2.2.2.2.2.2.2.2.2.2.2.1 y.2.2.2.2.2.2.2.2.2.2.2.2.2.2.1 y.2.2.2.2.2.2.2.2.2.2.2.2.2.2.2.1 y.2.2.2.2.2.2.2.2.2.2.2.2.2.2.2.2.1 y.2.2.2.2.2.2.2.2.2.2.2.2.2.2.2.2.2.1 y.2.2.2.2.2.2.2.2.2.2.2.2.2.2.2.2.2.2.1 y.2.2.2.2.2.2.2.2.2.2.2.2.2.2.2.2.2.2.2.1 y.2.2.2.2.2.2.2.2.2.2.2.2.2.2.2.2.2.2.2.2) H := hP.left
  refine g_callR Value.int hf (fun v20 hv => va_runV (As := []) (rest := []) ⟨hx, hb, hml, hown, hts⟩ (c_X6_thrown l E am 0 v19.2.1 v19.2.2.1 y.2.2.1 v19.2.2.2.1 v19.2.2.2.2 y.2.2.2.2.2.1 y.2.2.2.2.2.2.1 y.2.2.2.2.2.2.2.1 y.2.2.2.2.2.2.2.2.1 y.2.2.2.2.2.2.2.2.2.1 y.2.2.2.2.2.2.2.2.2.2.1 y.2.2.2.2.2.2.2.2.2.2.2.1 y.2.2.2.2.2.2.2.2.2.2.2.2.1 y.2.2.2.2.2.2.2.2.2.2.2.2.2.1 y.2.2.2.2.2.2.2.2.2.2.2.2.2.2.1 y.2.2.2.2.2.2.2.2.2.2.2.2.2.2.2.1 y.2.2.2.2.2.2.2.2.2.2.2.2.2.2.2.2.1 y.2.2.2.2.2.2.2.2.2.2.2.2.2.2.2.2.2.1 y.2.2.2.2.2.2.2.2.2.2.2.2.2.2.2.2.2.2.1 y.2.2.2.2.2.2.2.2.2.2.2.2.2.2.2.2.2.2.2.1 y.2.2.2.2.2.2.2.2.2.2.2.2.2.2.2.2.2.2.2.2 v20 hv) (cwV 0 hts (gd_V q246 q247 q248 q5 q249) rfl rfl rfl (by decide +kernel) ⟨Nat.le_of_ble_eq_true rfl, Nat.le_of_ble_eq_true rfl⟩) (g_preV hPc hG rfl rfl) rfl rfl hl.1 rfl (lv_room (Nat.le_of_ble_eq_true rfl)) dL_law_270 ⟨(gRc (by (try dsimp only); omega)), (gRs (by (try dsimp only); omega))⟩) (fun v20 hf => ?_)
  clear hPc
  refine lv_iload hx hb dL_law_273 (lv_at hl 1 rfl) ?_
  refine g_icmp_eq (tgt := 280) hx hb hf dL_law_275 (by decide) (fun hf => ?_) (fun hf => ?_)
  · refine lv_iload hx hb dL_law_280 (lv_at hl 1 rfl) ?_
    refine g_if_ne (tgt := 297) hx hb hf dL_law_282 (by decide) (fun hf => ?_) (fun hf => ?_)
    · exact w_L_law_297 hL C0 hG hT hN hst cells slots hcs hss k23_ hk23_ ad _ _ (v15.2.1, v15.2.2.1, v15.2.2.2.1, x.2.2.2.1, x.2.2.2.2.1, x.2.2.2.2.2.1, v15.2.2.2.2.1) (v19.2.1, v19.2.2.1, y.2.2.1, v19.2.2.2.1, v19.2.2.2.2, y.2.2.2.2.2.1, y.2.2.2.2.2.2.1, y.2.2.2.2.2.2.2.1, y.2.2.2.2.2.2.2.2.1, y.2.2.2.2.2.2.2.2.2.1, y.2.2.2.2.2.2.2.2.2.2.1, y.2.2.2.2.2.2.2.2.2.2.2.1, y.2.2.2.2.2.2.2.2.2.2.2.2.1, y.2.2.2.2.2.2.2.2.2.2.2.2.2.1, y.2.2.2.2.2.2.2.2.2.2.2.2.2.2.1, y.2.2.2.2.2.2.2.2.2.2.2.2.2.2.2.1, y.2.2.2.2.2.2.2.2.2.2.2.2.2.2.2.2.1, y.2.2.2.2.2.2.2.2.2.2.2.2.2.2.2.2.2.1, y.2.2.2.2.2.2.2.2.2.2.2.2.2.2.2.2.2.2.1, y.2.2.2.2.2.2.2.2.2.2.2.2.2.2.2.2.2.2.2.1, y.2.2.2.2.2.2.2.2.2.2.2.2.2.2.2.2.2.2.2.2) v15.2.2.2.2.2 l4 _ hf (lv_sub hl [2, 3, 4, 5, 6] rfl) hP hS hD
    · refine lv_aload_n hx hb dL_law_285 rfl (lv_at hl 5 rfl) ?_
      refine lv_iconst (v := 0) hx hb dL_law_286 (by decide) ?_
      refine g_lald hx hb hG.1 hP 11 rfl hf dL_law_287 (fun v21 hf => ?_)
      refine lv_iload hx hb dL_law_288 (lv_at hl 0 rfl) ?_
      refine lv_i2l (v := (Int32.toInt64 v19.1)) hx hb dL_law_290 rfl ?_
      refine W.lcmp hx hb dL_law_291 ?_
      refine g_if_eq (tgt := 297) hx hb hf dL_law_292 (by decide) (fun hf => ?_) (fun hf => ?_)
      · exact w_L_law_297 hL C0 hG hT hN hst cells slots hcs hss k23_ hk23_ ad _ _ (v15.2.1, v15.2.2.1, v15.2.2.2.1, x.2.2.2.1, x.2.2.2.2.1, x.2.2.2.2.2.1, v15.2.2.2.2.1) (v19.2.1, v19.2.2.1, y.2.2.1, v19.2.2.2.1, v19.2.2.2.2, y.2.2.2.2.2.1, y.2.2.2.2.2.2.1, y.2.2.2.2.2.2.2.1, y.2.2.2.2.2.2.2.2.1, y.2.2.2.2.2.2.2.2.2.1, y.2.2.2.2.2.2.2.2.2.2.1, y.2.2.2.2.2.2.2.2.2.2.2.1, y.2.2.2.2.2.2.2.2.2.2.2.2.1, y.2.2.2.2.2.2.2.2.2.2.2.2.2.1, y.2.2.2.2.2.2.2.2.2.2.2.2.2.2.1, y.2.2.2.2.2.2.2.2.2.2.2.2.2.2.2.1, y.2.2.2.2.2.2.2.2.2.2.2.2.2.2.2.2.1, y.2.2.2.2.2.2.2.2.2.2.2.2.2.2.2.2.2.1, y.2.2.2.2.2.2.2.2.2.2.2.2.2.2.2.2.2.2.1, y.2.2.2.2.2.2.2.2.2.2.2.2.2.2.2.2.2.2.2.1, y.2.2.2.2.2.2.2.2.2.2.2.2.2.2.2.2.2.2.2.2) v15.2.2.2.2.2 l4 _ hf (lv_sub hl [2, 3, 4, 5, 6] rfl) hP hS hD
      · refine lv_iconst (v := 0) hx hb dL_law_295 (by decide) ?_
        cases hf
  · refine lv_iconst (v := 0) hx hb dL_law_278 (by decide) ?_
    cases hf
set_option maxHeartbeats 4000000 in
set_option maxRecDepth 100000 in
theorem w_L_law_377 {p : Program} {l : Launch} {e : Env} {s : State} {m : MethodId} {below : List Frame} {meth : Method} {c : Code} {b L : Nat} {xs : Nat → Int32} {E : gE} {g am : Nat → Nat} {qo : Nat} (hL : L ≤ 2560) (C0 : lw_At p s m meth c b L xs) (hG : gK E s) (hT : gTh (fun q : Nat => s.heap.size ≤ q) s s.heap) (hN : gNc s) (hst : l.stackTraces = false)  (cells slots : Nat) (hcs : cells + 16 ≤ 601000) (hss : slots + 200 ≤ 7293000) (k23_ : TG → TM → (Nat → Int64) → Int32 → Option (Int32)) (hk23_ : ∀ (ad : Nat → Nat → Nat) (H : Heap) (locs : List Loc) (x : TG) (y : TM) (o : Nat → Int64) (l4 : Int32) (ls : Array Slot), k23_ x y o l4 = some 1 → lv_has ls 9 [(0, .ref b), (1, .ref (g 0)), (2, .ref (am 0)), (3, .ref qo), (4, .int l4)] → va_P E.1 vwCl ((cML E am y) ++ ((cOut E qo o) ++ (cGL E g ad x))) H → va_S (fun q : Nat => s.heap.size ≤ q) s.heap H locs → va_D (fun q : Nat => s.heap.size ≤ q) ((cML E am y) ++ ((cOut E qo o) ++ (cGL E g ad x))) → W p l e room_1 s m #[Value.ref b] below meth c H locs (cells + 16) (slots + 200) (lw_Z below #[Value.ref b] s) (F0 m 23 ls [])) : ∀ (ad : Nat → Nat → Nat) (H : Heap) (locs : List Loc) (x : TG) (y : TM) (o : Nat → Int64) (l4 : Int32) (ls : Array Slot), f_L_law_377 xs L k23_ x y o l4 = some 1 → lv_has ls 9 [(0, .ref b), (1, .ref (g 0)), (2, .ref (am 0)), (3, .ref qo), (4, .int l4)] → va_P E.1 vwCl ((cML E am y) ++ ((cOut E qo o) ++ (cGL E g ad x))) H → va_S (fun q : Nat => s.heap.size ≤ q) s.heap H locs → va_D (fun q : Nat => s.heap.size ≤ q) ((cML E am y) ++ ((cOut E qo o) ++ (cGL E g ad x))) → W p l e room_1 s m #[Value.ref b] below meth c H locs (cells + 7) (slots + 76) (lw_Z below #[Value.ref b] s) (F0 m 377 ls []) := by
  obtain ⟨hx, hb, hr, hml, hown, hts0, hX, hbl, hlocks, hgv⟩ := id C0
  have hts := gL_hts hts0
  have hbA : ¬ (fun q : Nat => s.heap.size ≤ q) b := Nat.not_le.mpr hbl
  have hA : ∀ q : Nat, s.heap.size ≤ q → (fun q : Nat => s.heap.size ≤ q) q := fun _ h => h
  intro ad H locs x y o l4 ls hf hl hP hS hD
  unfold f_L_law_377 at hf
  refine lv_goto (tgt := 1526) hx hb dL_law_377 (by decide) ?_
  refine W.widen (k := (cells + 8)) (n := (slots + 82)) (by (try dsimp only); omega) (by (try dsimp only); omega) ?_
  exact w_L_law_1526 hL C0 hG hT hN hst cells slots hcs hss k23_ hk23_ ad _ _ x y o l4 _ hf hl hP hS hD
set_option maxHeartbeats 4000000 in
set_option maxRecDepth 100000 in
theorem w_L_law_300 {p : Program} {l : Launch} {e : Env} {s : State} {m : MethodId} {below : List Frame} {meth : Method} {c : Code} {b L : Nat} {xs : Nat → Int32} {E : gE} {g am : Nat → Nat} {qo : Nat} (hL : L ≤ 2560) (C0 : lw_At p s m meth c b L xs) (hG : gK E s) (hT : gTh (fun q : Nat => s.heap.size ≤ q) s s.heap) (hN : gNc s) (hst : l.stackTraces = false)  (cells slots : Nat) (hcs : cells + 16 ≤ 601000) (hss : slots + 200 ≤ 7293000) (k23_ : TG → TM → (Nat → Int64) → Int32 → Option (Int32)) (hk23_ : ∀ (ad : Nat → Nat → Nat) (H : Heap) (locs : List Loc) (x : TG) (y : TM) (o : Nat → Int64) (l4 : Int32) (ls : Array Slot), k23_ x y o l4 = some 1 → lv_has ls 9 [(0, .ref b), (1, .ref (g 0)), (2, .ref (am 0)), (3, .ref qo), (4, .int l4)] → va_P E.1 vwCl ((cML E am y) ++ ((cOut E qo o) ++ (cGL E g ad x))) H → va_S (fun q : Nat => s.heap.size ≤ q) s.heap H locs → va_D (fun q : Nat => s.heap.size ≤ q) ((cML E am y) ++ ((cOut E qo o) ++ (cGL E g ad x))) → W p l e room_1 s m #[Value.ref b] below meth c H locs (cells + 16) (slots + 200) (lw_Z below #[Value.ref b] s) (F0 m 23 ls [])) : ∀ (ad : Nat → Nat → Nat) (H : Heap) (locs : List Loc) (x : TG) (y : TM) (o : Nat → Int64) (l4 : Int32) (ls : Array Slot), f_L_law_300 xs L k23_ x y o l4 = some 1 → lv_has ls 9 [(0, .ref b), (1, .ref (g 0)), (2, .ref (am 0)), (3, .ref qo), (4, .int l4)] → va_P E.1 vwCl ((cML E am y) ++ ((cOut E qo o) ++ (cGL E g ad x))) H → va_S (fun q : Nat => s.heap.size ≤ q) s.heap H locs → va_D (fun q : Nat => s.heap.size ≤ q) ((cML E am y) ++ ((cOut E qo o) ++ (cGL E g ad x))) → W p l e room_1 s m #[Value.ref b] below meth c H locs cells slots (lw_Z below #[Value.ref b] s) (F0 m 300 ls []) := by
  obtain ⟨hx, hb, hr, hml, hown, hts0, hX, hbl, hlocks, hgv⟩ := id C0
  have hts := gL_hts hts0
  have hbA : ¬ (fun q : Nat => s.heap.size ≤ q) b := Nat.not_le.mpr hbl
  have hA : ∀ q : Nat, s.heap.size ≤ q → (fun q : Nat => s.heap.size ≤ q) q := fun _ h => h
  intro ad H locs x y o l4 ls hf hl hP hS hD
  unfold f_L_law_300 at hf
  refine lv_aload_n hx hb dL_law_300 rfl (lv_at hl 1 rfl) ?_
  refine lv_aload_n hx hb dL_law_301 rfl (lv_at hl 0 rfl) ?_
  refine lv_iload hx hb dL_law_302 (lv_at hl 4 rfl) ?_
  refine lv_iconst (v := 1) hx hb dL_law_304 (by decide) ?_
  refine lv_iadd hx hb dL_law_305 ?_
  refine g_sld hx hb hX hbl hbA hS hf dL_law_306 (fun v22 hf => ?_)
  refine lv_aload_n hx hb dL_law_307 rfl (lv_at hl 0 rfl) ?_
  refine lv_iload hx hb dL_law_308 (lv_at hl 4 rfl) ?_
  refine lv_iconst (v := 2) hx hb dL_law_310 (by decide) ?_
  refine lv_iadd hx hb dL_law_311 ?_
  refine g_sld hx hb hX hbl hbA hS hf dL_law_312 (fun v23 hf => ?_)
  refine lv_aload_n hx hb dL_law_313 rfl (lv_at hl 0 rfl) ?_
  refine lv_iload hx hb dL_law_314 (lv_at hl 4 rfl) ?_
  refine lv_iconst (v := 3) hx hb dL_law_316 (by decide) ?_
  refine lv_iadd hx hb dL_law_317 ?_
  refine g_sld hx hb hX hbl hbA hS hf dL_law_318 (fun v24 hf => ?_)
  refine lv_aload_n hx hb dL_law_319 rfl (lv_at hl 3 rfl) ?_
  have hA1 : ∀ q : Nat, Array.size H ≤ q → (fun q : Nat => s.heap.size ≤ q) q := fun q h => Nat.le_trans hS.1 h
  have hPc : va_P E.1 vwCl ((cOut E qo o) ++ (cGL E g ad x)) H := hP.right
  have hDc : va_D (fun q : Nat => s.heap.size ≤ q) ((cOut E qo o) ++ (cGL E g ad x)) := hD.right
  refine g_callA2 (fun v25 => some (.int v25.1)) (fun v25 ad => ((cOut E qo v25.2.2.2.2.2) ++ (cG E g ad v25.2.1 v25.2.2.1 v25.2.2.2.1 x.2.2.2.1 x.2.2.2.2.1 x.2.2.2.2.2.1 v25.2.2.2.2.1))) hf (fun v25 hv => vx_runSW (As := [.ref (g 0), .int v22, .int v23, .int v24, .ref qo]) (rest := []) ⟨hx, hb, hml, hown, hts⟩ (c_L_putRing l E g ad qo x.1 x.2.1 x.2.2.1 x.2.2.2.1 x.2.2.2.2.1 x.2.2.2.2.2.1 x.2.2.2.2.2.2 o v22 v23 v24 hst _ v25 hv) (vx_cwSW 5 hts (gd_SH q344 q345 qRL q346) rfl rfl rfl (by decide +kernel) ⟨Nat.le_of_ble_eq_true rfl, Nat.le_of_ble_eq_true rfl⟩) (g_preSl hPc hDc hG hT hN hS (va_A.all hDc hA1)) rfl rfl hl.1 rfl (lv_room (Nat.le_of_ble_eq_true rfl)) dL_law_320 ⟨(gRc (by (try dsimp only); omega)), (gRs (by (try dsimp only); omega))⟩) hS (va_A.all hDc hA1) (va_A.all hDc hA1) (fun v25 ad H1 locs hf hP1 hD1 hkp hS => ?_)
  obtain ⟨hP2, hD2⟩ := join_end hP hD hA1 hkp hP1 hD1
  clear hP hD hPc hDc hP1 hD1 hkp hA1
  revert hS hP2 hD2; generalize H1 = H; intro hS hP hD
  have hP : va_P E.1 vwCl ((cML E am y) ++ ((cOut E qo v25.2.2.2.2.2) ++ (cG E g ad v25.2.1 v25.2.2.1 v25.2.2.2.1 x.2.2.2.1 x.2.2.2.2.1 x.2.2.2.2.2.1 v25.2.2.2.2.1))) H := hP
  have hD : va_D (fun q : Nat => s.heap.size ≤ q) ((cML E am y) ++ ((cOut E qo v25.2.2.2.2.2) ++ (cG E g ad v25.2.1 v25.2.2.1 v25.2.2.2.1 x.2.2.2.1 x.2.2.2.2.1 x.2.2.2.2.2.1 v25.2.2.2.2.1))) := hD
  refine W.widen (k := cells + 7) (n := slots + 76) (by (try dsimp only); omega) (by (try dsimp only); omega) ?_
  refine lv_istore (lv' := [(5, .int v25.1), (0, .ref b), (1, .ref (g 0)), (2, .ref (am 0)), (3, .ref qo), (4, .int l4)]) hx hb dL_law_323 hl (by decide) rfl (fun ls hl => ?_)
  refine lv_aload_n hx hb dL_law_325 rfl (lv_at hl 3 rfl) ?_
  refine lv_aload_n hx hb dL_law_326 rfl (lv_at hl 1 rfl) ?_
  refine lv_iload hx hb dL_law_327 (lv_at hl 5 rfl) ?_
  refine lv_iconst (v := 1) hx hb dL_law_329 (by decide) ?_
  refine lv_iadd hx hb dL_law_330 ?_
  refine g_sld hx hb hX hbl hbA hS hf dL_law_331 (fun v26 hf => ?_)
  refine lv_aload_n hx hb dL_law_332 rfl (lv_at hl 1 rfl) ?_
  refine lv_iload hx hb dL_law_333 (lv_at hl 5 rfl) ?_
  refine lv_iconst (v := 2) hx hb dL_law_335 (by decide) ?_
  refine lv_iadd hx hb dL_law_336 ?_
  refine g_sld hx hb hX hbl hbA hS hf dL_law_337 (fun v27 hf => ?_)
  refine lv_aload_n hx hb dL_law_338 rfl (lv_at hl 1 rfl) ?_
  refine lv_iload hx hb dL_law_339 (lv_at hl 5 rfl) ?_
  refine lv_iconst (v := 3) hx hb dL_law_341 (by decide) ?_
  refine lv_iadd hx hb dL_law_342 ?_
  refine g_sld hx hb hX hbl hbA hS hf dL_law_343 (fun v28 hf => ?_)
  have hPc : va_P E.1 vwCl (cML E am y) H := hP.left
  have hA1 : ∀ q : Nat, Array.size H ≤ q → (fun q : Nat => s.heap.size ≤ q) q := fun q h => Nat.le_trans hS.1 h
  have hDc : va_D (fun q : Nat => s.heap.size ≤ q) (cML E am y) := hD.left
  refine g_callMi (fun v29 => .int v29.1) (fun v29 => (cM E am 0 v29.2.1 v29.2.2.1 y.2.2.1 v29.2.2.2.1 v29.2.2.2.2 y.2.2.2.2.2.1 y.2.2.2.2.2.2.1 y.2.2.2.2.2.2.2.1 y.2.2.2.2.2.2.2.2.1 y.2.2.2.2.2.2.2.2.2.1 y.2.2.2.2.2.2.2.2.2.2.1 y.2.2.2.2.2.2.2.2.2.2.2.1 y.2.2.2.2.2.2.2.2.2.2.2.2.1 y.2.2.2.2.2.2.2.2.2.2.2.2.2.1 y.2.2.2.2.2.2.2.2.2.2.2.2.2.2.1 y.2.2.2.2.2.2.2.2.2.2.2.2.2.2.2.1 y.2.2.2.2.2.2.2.2.2.2.2.2.2.2.2.2.1 y.2.2.2.2.2.2.2.2.2.2.2.2.2.2.2.2.2.1 y.2.2.2.2.2.2.2.2.2.2.2.2.2.2.2.2.2.2.1 y.2.2.2.2.2.2.2.2.2.2.2.2.2.2.2.2.2.2.2.1 y.2.2.2.2.2.2.2.2.2.2.2.2.2.2.2.2.2.2.2.2)) hf (fun v29 hv => va_runV (As := [.int v26, .int v27, .int v28]) (rest := []) ⟨hx, hb, hml, hown, hts⟩ (c_X6_putRing l E am 0 y.1 y.2.1 y.2.2.1 y.2.2.2.1 y.2.2.2.2.1 y.2.2.2.2.2.1 y.2.2.2.2.2.2.1 y.2.2.2.2.2.2.2.1 y.2.2.2.2.2.2.2.2.1 y.2.2.2.2.2.2.2.2.2.1 y.2.2.2.2.2.2.2.2.2.2.1 y.2.2.2.2.2.2.2.2.2.2.2.1 y.2.2.2.2.2.2.2.2.2.2.2.2.1 y.2.2.2.2.2.2.2.2.2.2.2.2.2.1 y.2.2.2.2.2.2.2.2.2.2.2.2.2.2.1 y.2.2.2.2.2.2.2.2.2.2.2.2.2.2.2.1 y.2.2.2.2.2.2.2.2.2.2.2.2.2.2.2.2.1 y.2.2.2.2.2.2.2.2.2.2.2.2.2.2.2.2.2.1 y.2.2.2.2.2.2.2.2.2.2.2.2.2.2.2.2.2.2.1 y.2.2.2.2.2.2.2.2.2.2.2.2.2.2.2.2.2.2.2.1 y.2.2.2.2.2.2.2.2.2.2.2.2.2.2.2.2.2.2.2.2 v26 v27 v28 _ v29 hv) (cwV 3 hts (gd_V q351 q352 q353 q5 q354) rfl rfl rfl (by decide +kernel) ⟨Nat.le_of_ble_eq_true rfl, Nat.le_of_ble_eq_true rfl⟩) (g_preVm hPc hDc hG rfl rfl) rfl rfl hl.1 rfl (lv_room (Nat.le_of_ble_eq_true rfl)) dL_law_344 ⟨(gRc (by (try dsimp only); omega)), (gRs (by (try dsimp only); omega))⟩) hS (va_A.all hDc hA1) (va_A.all hDc hA1) (fun v29 H1 locs hf hP1 hsz hkp hS => ?_)
  have hP2 := put_mid (X := []) (C := (cML E am y)) (Y := ((cOut E qo v25.2.2.2.2.2) ++ (cG E g ad v25.2.1 v25.2.2.1 v25.2.2.2.1 x.2.2.2.1 x.2.2.2.2.1 x.2.2.2.2.2.1 v25.2.2.2.2.1))) hP hD hkp hP1
  have hD2 : va_D (fun q : Nat => s.heap.size ≤ q) ((cM E am 0 v29.2.1 v29.2.2.1 y.2.2.1 v29.2.2.2.1 v29.2.2.2.2 y.2.2.2.2.2.1 y.2.2.2.2.2.2.1 y.2.2.2.2.2.2.2.1 y.2.2.2.2.2.2.2.2.1 y.2.2.2.2.2.2.2.2.2.1 y.2.2.2.2.2.2.2.2.2.2.1 y.2.2.2.2.2.2.2.2.2.2.2.1 y.2.2.2.2.2.2.2.2.2.2.2.2.1 y.2.2.2.2.2.2.2.2.2.2.2.2.2.1 y.2.2.2.2.2.2.2.2.2.2.2.2.2.2.1 y.2.2.2.2.2.2.2.2.2.2.2.2.2.2.2.1 y.2.2.2.2.2.2.2.2.2.2.2.2.2.2.2.2.1 y.2.2.2.2.2.2.2.2.2.2.2.2.2.2.2.2.2.1 y.2.2.2.2.2.2.2.2.2.2.2.2.2.2.2.2.2.2.1 y.2.2.2.2.2.2.2.2.2.2.2.2.2.2.2.2.2.2.2.1 y.2.2.2.2.2.2.2.2.2.2.2.2.2.2.2.2.2.2.2.2) ++ ((cOut E qo v25.2.2.2.2.2) ++ (cG E g ad v25.2.1 v25.2.2.1 v25.2.2.2.1 x.2.2.2.1 x.2.2.2.2.1 x.2.2.2.2.2.1 v25.2.2.2.2.1))) := va_D.sameL hD rfl
  clear hP hD hPc hDc hP1 hsz hkp hA1
  revert hS hP2 hD2; generalize H1 = H; intro hS hP hD
  have hP : va_P E.1 vwCl ((cM E am 0 v29.2.1 v29.2.2.1 y.2.2.1 v29.2.2.2.1 v29.2.2.2.2 y.2.2.2.2.2.1 y.2.2.2.2.2.2.1 y.2.2.2.2.2.2.2.1 y.2.2.2.2.2.2.2.2.1 y.2.2.2.2.2.2.2.2.2.1 y.2.2.2.2.2.2.2.2.2.2.1 y.2.2.2.2.2.2.2.2.2.2.2.1 y.2.2.2.2.2.2.2.2.2.2.2.2.1 y.2.2.2.2.2.2.2.2.2.2.2.2.2.1 y.2.2.2.2.2.2.2.2.2.2.2.2.2.2.1 y.2.2.2.2.2.2.2.2.2.2.2.2.2.2.2.1 y.2.2.2.2.2.2.2.2.2.2.2.2.2.2.2.2.1 y.2.2.2.2.2.2.2.2.2.2.2.2.2.2.2.2.2.1 y.2.2.2.2.2.2.2.2.2.2.2.2.2.2.2.2.2.2.1 y.2.2.2.2.2.2.2.2.2.2.2.2.2.2.2.2.2.2.2.1 y.2.2.2.2.2.2.2.2.2.2.2.2.2.2.2.2.2.2.2.2) ++ ((cOut E qo v25.2.2.2.2.2) ++ (cG E g ad v25.2.1 v25.2.2.1 v25.2.2.2.1 x.2.2.2.1 x.2.2.2.2.1 x.2.2.2.2.2.1 v25.2.2.2.2.1))) H := hP
  refine lv_istore (lv' := [(6, .int v29.1), (5, .int v25.1), (0, .ref b), (1, .ref (g 0)), (2, .ref (am 0)), (3, .ref qo), (4, .int l4)]) hx hb dL_law_347 hl (by decide) rfl (fun ls hl => ?_)
  refine lv_aload_n hx hb dL_law_349 rfl (lv_at hl 4 rfl) ?_
  have hPc : va_P E.1 vwCl (cM E am 0 v29.2.1 v29.2.2.1 y.2.2.1 v29.2.2.2.1 v29.2.2.2.2 y.2.2.2.2.2.1 y.2.2.2.2.2.2.1 y.2.2.2.2.2.2.2.1 y.2.2.2.2.2.2.2.2.1 y.2.2.2.2.2.2.2.2.2.1 y.2.2.2.2.2.2.2.2.2.2.1 y.2.2.2.2.2.2.2.2.2.2.2.1 y.2.2.2.2.2.2.2.2.2.2.2.2.1 y.2.2.2.2.2.2.2.2.2.2.2.2.2.1 y.2.2.2.2.2.2.2.2.2.2.2.2.2.2.1 y.2.2.2.2.2.2.2.2.2.2.2.2.2.2.2.1 y.2.2.2.2.2.2.2.2.2.2.2.2.2.2.2.2.1 y.2.2.2.2.2.2.2.2.2.2.2.2.2.2.2.2.2.1 y.2.2.2.2.2.2.2.2.2.2.2.2.2.2.2.2.2.2.1 y.2.2.2.2.2.2.2.2.2.2.2.2.2.2.2.2.2.2.2.1 y.2.2.2.2.2.2.2.2.2.2.2.2.2.2.2.2.2.2.2.2) H := hP.left
  refine g_callR Value.int hf (fun v30 hv => va_runV (As := []) (rest := []) ⟨hx, hb, hml, hown, hts⟩ (c_X6_thrown l E am 0 v29.2.1 v29.2.2.1 y.2.2.1 v29.2.2.2.1 v29.2.2.2.2 y.2.2.2.2.2.1 y.2.2.2.2.2.2.1 y.2.2.2.2.2.2.2.1 y.2.2.2.2.2.2.2.2.1 y.2.2.2.2.2.2.2.2.2.1 y.2.2.2.2.2.2.2.2.2.2.1 y.2.2.2.2.2.2.2.2.2.2.2.1 y.2.2.2.2.2.2.2.2.2.2.2.2.1 y.2.2.2.2.2.2.2.2.2.2.2.2.2.1 y.2.2.2.2.2.2.2.2.2.2.2.2.2.2.1 y.2.2.2.2.2.2.2.2.2.2.2.2.2.2.2.1 y.2.2.2.2.2.2.2.2.2.2.2.2.2.2.2.2.1 y.2.2.2.2.2.2.2.2.2.2.2.2.2.2.2.2.2.1 y.2.2.2.2.2.2.2.2.2.2.2.2.2.2.2.2.2.2.1 y.2.2.2.2.2.2.2.2.2.2.2.2.2.2.2.2.2.2.2.1 y.2.2.2.2.2.2.2.2.2.2.2.2.2.2.2.2.2.2.2.2 v30 hv) (cwV 0 hts (gd_V q246 q247 q248 q5 q249) rfl rfl rfl (by decide +kernel) ⟨Nat.le_of_ble_eq_true rfl, Nat.le_of_ble_eq_true rfl⟩) (g_preV hPc hG rfl rfl) rfl rfl hl.1 rfl (lv_room (Nat.le_of_ble_eq_true rfl)) dL_law_350 ⟨(gRc (by (try dsimp only); omega)), (gRs (by (try dsimp only); omega))⟩) (fun v30 hf => ?_)
  clear hPc
  refine lv_iload hx hb dL_law_353 (lv_at hl 1 rfl) ?_
  refine g_icmp_eq (tgt := 360) hx hb hf dL_law_355 (by decide) (fun hf => ?_) (fun hf => ?_)
  · refine lv_iload hx hb dL_law_360 (lv_at hl 1 rfl) ?_
    refine g_if_ne (tgt := 377) hx hb hf dL_law_362 (by decide) (fun hf => ?_) (fun hf => ?_)
    · exact w_L_law_377 hL C0 hG hT hN hst cells slots hcs hss k23_ hk23_ ad _ _ (v25.2.1, v25.2.2.1, v25.2.2.2.1, x.2.2.2.1, x.2.2.2.2.1, x.2.2.2.2.2.1, v25.2.2.2.2.1) (v29.2.1, v29.2.2.1, y.2.2.1, v29.2.2.2.1, v29.2.2.2.2, y.2.2.2.2.2.1, y.2.2.2.2.2.2.1, y.2.2.2.2.2.2.2.1, y.2.2.2.2.2.2.2.2.1, y.2.2.2.2.2.2.2.2.2.1, y.2.2.2.2.2.2.2.2.2.2.1, y.2.2.2.2.2.2.2.2.2.2.2.1, y.2.2.2.2.2.2.2.2.2.2.2.2.1, y.2.2.2.2.2.2.2.2.2.2.2.2.2.1, y.2.2.2.2.2.2.2.2.2.2.2.2.2.2.1, y.2.2.2.2.2.2.2.2.2.2.2.2.2.2.2.1, y.2.2.2.2.2.2.2.2.2.2.2.2.2.2.2.2.1, y.2.2.2.2.2.2.2.2.2.2.2.2.2.2.2.2.2.1, y.2.2.2.2.2.2.2.2.2.2.2.2.2.2.2.2.2.2.1, y.2.2.2.2.2.2.2.2.2.2.2.2.2.2.2.2.2.2.2.1, y.2.2.2.2.2.2.2.2.2.2.2.2.2.2.2.2.2.2.2.2) v25.2.2.2.2.2 l4 _ hf (lv_sub hl [2, 3, 4, 5, 6] rfl) hP hS hD
    · refine lv_aload_n hx hb dL_law_365 rfl (lv_at hl 5 rfl) ?_
      refine lv_iconst (v := 0) hx hb dL_law_366 (by decide) ?_
      refine g_lald hx hb hG.1 hP 11 rfl hf dL_law_367 (fun v31 hf => ?_)
      refine lv_iload hx hb dL_law_368 (lv_at hl 0 rfl) ?_
      refine lv_i2l (v := (Int32.toInt64 v29.1)) hx hb dL_law_370 rfl ?_
      refine W.lcmp hx hb dL_law_371 ?_
      refine g_if_eq (tgt := 377) hx hb hf dL_law_372 (by decide) (fun hf => ?_) (fun hf => ?_)
      · exact w_L_law_377 hL C0 hG hT hN hst cells slots hcs hss k23_ hk23_ ad _ _ (v25.2.1, v25.2.2.1, v25.2.2.2.1, x.2.2.2.1, x.2.2.2.2.1, x.2.2.2.2.2.1, v25.2.2.2.2.1) (v29.2.1, v29.2.2.1, y.2.2.1, v29.2.2.2.1, v29.2.2.2.2, y.2.2.2.2.2.1, y.2.2.2.2.2.2.1, y.2.2.2.2.2.2.2.1, y.2.2.2.2.2.2.2.2.1, y.2.2.2.2.2.2.2.2.2.1, y.2.2.2.2.2.2.2.2.2.2.1, y.2.2.2.2.2.2.2.2.2.2.2.1, y.2.2.2.2.2.2.2.2.2.2.2.2.1, y.2.2.2.2.2.2.2.2.2.2.2.2.2.1, y.2.2.2.2.2.2.2.2.2.2.2.2.2.2.1, y.2.2.2.2.2.2.2.2.2.2.2.2.2.2.2.1, y.2.2.2.2.2.2.2.2.2.2.2.2.2.2.2.2.1, y.2.2.2.2.2.2.2.2.2.2.2.2.2.2.2.2.2.1, y.2.2.2.2.2.2.2.2.2.2.2.2.2.2.2.2.2.2.1, y.2.2.2.2.2.2.2.2.2.2.2.2.2.2.2.2.2.2.2.1, y.2.2.2.2.2.2.2.2.2.2.2.2.2.2.2.2.2.2.2.2) v25.2.2.2.2.2 l4 _ hf (lv_sub hl [2, 3, 4, 5, 6] rfl) hP hS hD
      · refine lv_iconst (v := 0) hx hb dL_law_375 (by decide) ?_
        cases hf
  · refine lv_iconst (v := 0) hx hb dL_law_358 (by decide) ?_
    cases hf
set_option maxHeartbeats 4000000 in
set_option maxRecDepth 100000 in
theorem w_L_law_457 {p : Program} {l : Launch} {e : Env} {s : State} {m : MethodId} {below : List Frame} {meth : Method} {c : Code} {b L : Nat} {xs : Nat → Int32} {E : gE} {g am : Nat → Nat} {qo : Nat} (hL : L ≤ 2560) (C0 : lw_At p s m meth c b L xs) (hG : gK E s) (hT : gTh (fun q : Nat => s.heap.size ≤ q) s s.heap) (hN : gNc s) (hst : l.stackTraces = false)  (cells slots : Nat) (hcs : cells + 16 ≤ 601000) (hss : slots + 200 ≤ 7293000) (k23_ : TG → TM → (Nat → Int64) → Int32 → Option (Int32)) (hk23_ : ∀ (ad : Nat → Nat → Nat) (H : Heap) (locs : List Loc) (x : TG) (y : TM) (o : Nat → Int64) (l4 : Int32) (ls : Array Slot), k23_ x y o l4 = some 1 → lv_has ls 9 [(0, .ref b), (1, .ref (g 0)), (2, .ref (am 0)), (3, .ref qo), (4, .int l4)] → va_P E.1 vwCl ((cML E am y) ++ ((cOut E qo o) ++ (cGL E g ad x))) H → va_S (fun q : Nat => s.heap.size ≤ q) s.heap H locs → va_D (fun q : Nat => s.heap.size ≤ q) ((cML E am y) ++ ((cOut E qo o) ++ (cGL E g ad x))) → W p l e room_1 s m #[Value.ref b] below meth c H locs (cells + 16) (slots + 200) (lw_Z below #[Value.ref b] s) (F0 m 23 ls [])) : ∀ (ad : Nat → Nat → Nat) (H : Heap) (locs : List Loc) (x : TG) (y : TM) (o : Nat → Int64) (l4 : Int32) (ls : Array Slot), f_L_law_457 xs L k23_ x y o l4 = some 1 → lv_has ls 9 [(0, .ref b), (1, .ref (g 0)), (2, .ref (am 0)), (3, .ref qo), (4, .int l4)] → va_P E.1 vwCl ((cML E am y) ++ ((cOut E qo o) ++ (cGL E g ad x))) H → va_S (fun q : Nat => s.heap.size ≤ q) s.heap H locs → va_D (fun q : Nat => s.heap.size ≤ q) ((cML E am y) ++ ((cOut E qo o) ++ (cGL E g ad x))) → W p l e room_1 s m #[Value.ref b] below meth c H locs (cells + 7) (slots + 76) (lw_Z below #[Value.ref b] s) (F0 m 457 ls []) := by
  obtain ⟨hx, hb, hr, hml, hown, hts0, hX, hbl, hlocks, hgv⟩ := id C0
  have hts := gL_hts hts0
  have hbA : ¬ (fun q : Nat => s.heap.size ≤ q) b := Nat.not_le.mpr hbl
  have hA : ∀ q : Nat, s.heap.size ≤ q → (fun q : Nat => s.heap.size ≤ q) q := fun _ h => h
  intro ad H locs x y o l4 ls hf hl hP hS hD
  unfold f_L_law_457 at hf
  refine lv_goto (tgt := 1526) hx hb dL_law_457 (by decide) ?_
  refine W.widen (k := (cells + 8)) (n := (slots + 82)) (by (try dsimp only); omega) (by (try dsimp only); omega) ?_
  exact w_L_law_1526 hL C0 hG hT hN hst cells slots hcs hss k23_ hk23_ ad _ _ x y o l4 _ hf hl hP hS hD
set_option maxHeartbeats 4000000 in
set_option maxRecDepth 100000 in
theorem w_L_law_380 {p : Program} {l : Launch} {e : Env} {s : State} {m : MethodId} {below : List Frame} {meth : Method} {c : Code} {b L : Nat} {xs : Nat → Int32} {E : gE} {g am : Nat → Nat} {qo : Nat} (hL : L ≤ 2560) (C0 : lw_At p s m meth c b L xs) (hG : gK E s) (hT : gTh (fun q : Nat => s.heap.size ≤ q) s s.heap) (hN : gNc s) (hst : l.stackTraces = false)  (cells slots : Nat) (hcs : cells + 16 ≤ 601000) (hss : slots + 200 ≤ 7293000) (k23_ : TG → TM → (Nat → Int64) → Int32 → Option (Int32)) (hk23_ : ∀ (ad : Nat → Nat → Nat) (H : Heap) (locs : List Loc) (x : TG) (y : TM) (o : Nat → Int64) (l4 : Int32) (ls : Array Slot), k23_ x y o l4 = some 1 → lv_has ls 9 [(0, .ref b), (1, .ref (g 0)), (2, .ref (am 0)), (3, .ref qo), (4, .int l4)] → va_P E.1 vwCl ((cML E am y) ++ ((cOut E qo o) ++ (cGL E g ad x))) H → va_S (fun q : Nat => s.heap.size ≤ q) s.heap H locs → va_D (fun q : Nat => s.heap.size ≤ q) ((cML E am y) ++ ((cOut E qo o) ++ (cGL E g ad x))) → W p l e room_1 s m #[Value.ref b] below meth c H locs (cells + 16) (slots + 200) (lw_Z below #[Value.ref b] s) (F0 m 23 ls [])) : ∀ (ad : Nat → Nat → Nat) (H : Heap) (locs : List Loc) (x : TG) (y : TM) (o : Nat → Int64) (l4 : Int32) (ls : Array Slot), f_L_law_380 xs L k23_ x y o l4 = some 1 → lv_has ls 9 [(0, .ref b), (1, .ref (g 0)), (2, .ref (am 0)), (3, .ref qo), (4, .int l4)] → va_P E.1 vwCl ((cML E am y) ++ ((cOut E qo o) ++ (cGL E g ad x))) H → va_S (fun q : Nat => s.heap.size ≤ q) s.heap H locs → va_D (fun q : Nat => s.heap.size ≤ q) ((cML E am y) ++ ((cOut E qo o) ++ (cGL E g ad x))) → W p l e room_1 s m #[Value.ref b] below meth c H locs cells slots (lw_Z below #[Value.ref b] s) (F0 m 380 ls []) := by
  obtain ⟨hx, hb, hr, hml, hown, hts0, hX, hbl, hlocks, hgv⟩ := id C0
  have hts := gL_hts hts0
  have hbA : ¬ (fun q : Nat => s.heap.size ≤ q) b := Nat.not_le.mpr hbl
  have hA : ∀ q : Nat, s.heap.size ≤ q → (fun q : Nat => s.heap.size ≤ q) q := fun _ h => h
  intro ad H locs x y o l4 ls hf hl hP hS hD
  unfold f_L_law_380 at hf
  refine lv_aload_n hx hb dL_law_380 rfl (lv_at hl 1 rfl) ?_
  refine lv_aload_n hx hb dL_law_381 rfl (lv_at hl 0 rfl) ?_
  refine lv_iload hx hb dL_law_382 (lv_at hl 4 rfl) ?_
  refine lv_iconst (v := 1) hx hb dL_law_384 (by decide) ?_
  refine lv_iadd hx hb dL_law_385 ?_
  refine g_sld hx hb hX hbl hbA hS hf dL_law_386 (fun v32 hf => ?_)
  refine lv_aload_n hx hb dL_law_387 rfl (lv_at hl 0 rfl) ?_
  refine lv_iload hx hb dL_law_388 (lv_at hl 4 rfl) ?_
  refine lv_iconst (v := 2) hx hb dL_law_390 (by decide) ?_
  refine lv_iadd hx hb dL_law_391 ?_
  refine g_sld hx hb hX hbl hbA hS hf dL_law_392 (fun v33 hf => ?_)
  refine lv_aload_n hx hb dL_law_393 rfl (lv_at hl 0 rfl) ?_
  refine lv_iload hx hb dL_law_394 (lv_at hl 4 rfl) ?_
  refine lv_iconst (v := 3) hx hb dL_law_396 (by decide) ?_
  refine lv_iadd hx hb dL_law_397 ?_
  refine g_sld hx hb hX hbl hbA hS hf dL_law_398 (fun v34 hf => ?_)
  refine lv_aload_n hx hb dL_law_399 rfl (lv_at hl 3 rfl) ?_
  have hA1 : ∀ q : Nat, Array.size H ≤ q → (fun q : Nat => s.heap.size ≤ q) q := fun q h => Nat.le_trans hS.1 h
  have hPc : va_P E.1 vwCl ((cOut E qo o) ++ (cGL E g ad x)) H := hP.right
  have hDc : va_D (fun q : Nat => s.heap.size ≤ q) ((cOut E qo o) ++ (cGL E g ad x)) := hD.right
  refine g_callA2 (fun v35 => some (.int v35.1)) (fun v35 ad => ((cOut E qo v35.2.2.2.2.2) ++ (cG E g ad v35.2.1 v35.2.2.1 v35.2.2.2.1 x.2.2.2.1 x.2.2.2.2.1 x.2.2.2.2.2.1 v35.2.2.2.2.1))) hf (fun v35 hv => vx_runSW (As := [.ref (g 0), .int v32, .int v33, .int v34, .ref qo]) (rest := []) ⟨hx, hb, hml, hown, hts⟩ (c_L_move l E g ad qo x.1 x.2.1 x.2.2.1 x.2.2.2.1 x.2.2.2.2.1 x.2.2.2.2.2.1 x.2.2.2.2.2.2 o v32 v33 v34 hst _ v35 hv) (vx_cwSW 5 hts (gd_SH q355 q356 qRL q357) rfl rfl rfl (by decide +kernel) ⟨Nat.le_of_ble_eq_true rfl, Nat.le_of_ble_eq_true rfl⟩) (g_preSl hPc hDc hG hT hN hS (va_A.all hDc hA1)) rfl rfl hl.1 rfl (lv_room (Nat.le_of_ble_eq_true rfl)) dL_law_400 ⟨(gRc (by (try dsimp only); omega)), (gRs (by (try dsimp only); omega))⟩) hS (va_A.all hDc hA1) (va_A.all hDc hA1) (fun v35 ad H1 locs hf hP1 hD1 hkp hS => ?_)
  obtain ⟨hP2, hD2⟩ := join_end hP hD hA1 hkp hP1 hD1
  clear hP hD hPc hDc hP1 hD1 hkp hA1
  revert hS hP2 hD2; generalize H1 = H; intro hS hP hD
  have hP : va_P E.1 vwCl ((cML E am y) ++ ((cOut E qo v35.2.2.2.2.2) ++ (cG E g ad v35.2.1 v35.2.2.1 v35.2.2.2.1 x.2.2.2.1 x.2.2.2.2.1 x.2.2.2.2.2.1 v35.2.2.2.2.1))) H := hP
  have hD : va_D (fun q : Nat => s.heap.size ≤ q) ((cML E am y) ++ ((cOut E qo v35.2.2.2.2.2) ++ (cG E g ad v35.2.1 v35.2.2.1 v35.2.2.2.1 x.2.2.2.1 x.2.2.2.2.1 x.2.2.2.2.2.1 v35.2.2.2.2.1))) := hD
  refine W.widen (k := cells + 7) (n := slots + 76) (by (try dsimp only); omega) (by (try dsimp only); omega) ?_
  refine lv_istore (lv' := [(5, .int v35.1), (0, .ref b), (1, .ref (g 0)), (2, .ref (am 0)), (3, .ref qo), (4, .int l4)]) hx hb dL_law_403 hl (by decide) rfl (fun ls hl => ?_)
  refine lv_aload_n hx hb dL_law_405 rfl (lv_at hl 3 rfl) ?_
  refine lv_aload_n hx hb dL_law_406 rfl (lv_at hl 1 rfl) ?_
  refine lv_iload hx hb dL_law_407 (lv_at hl 5 rfl) ?_
  refine lv_iconst (v := 1) hx hb dL_law_409 (by decide) ?_
  refine lv_iadd hx hb dL_law_410 ?_
  refine g_sld hx hb hX hbl hbA hS hf dL_law_411 (fun v36 hf => ?_)
  refine lv_aload_n hx hb dL_law_412 rfl (lv_at hl 1 rfl) ?_
  refine lv_iload hx hb dL_law_413 (lv_at hl 5 rfl) ?_
  refine lv_iconst (v := 2) hx hb dL_law_415 (by decide) ?_
  refine lv_iadd hx hb dL_law_416 ?_
  refine g_sld hx hb hX hbl hbA hS hf dL_law_417 (fun v37 hf => ?_)
  refine lv_aload_n hx hb dL_law_418 rfl (lv_at hl 1 rfl) ?_
  refine lv_iload hx hb dL_law_419 (lv_at hl 5 rfl) ?_
  refine lv_iconst (v := 3) hx hb dL_law_421 (by decide) ?_
  refine lv_iadd hx hb dL_law_422 ?_
  refine g_sld hx hb hX hbl hbA hS hf dL_law_423 (fun v38 hf => ?_)
  have hPc : va_P E.1 vwCl (cML E am y) H := hP.left
  have hA1 : ∀ q : Nat, Array.size H ≤ q → (fun q : Nat => s.heap.size ≤ q) q := fun q h => Nat.le_trans hS.1 h
  have hDc : va_D (fun q : Nat => s.heap.size ≤ q) (cML E am y) := hD.left
  refine g_callMi (fun v39 => .int v39.1) (fun v39 => (cM E am 0 v39.2.1 v39.2.2.1 y.2.2.1 v39.2.2.2.1 v39.2.2.2.2 y.2.2.2.2.2.1 y.2.2.2.2.2.2.1 y.2.2.2.2.2.2.2.1 y.2.2.2.2.2.2.2.2.1 y.2.2.2.2.2.2.2.2.2.1 y.2.2.2.2.2.2.2.2.2.2.1 y.2.2.2.2.2.2.2.2.2.2.2.1 y.2.2.2.2.2.2.2.2.2.2.2.2.1 y.2.2.2.2.2.2.2.2.2.2.2.2.2.1 y.2.2.2.2.2.2.2.2.2.2.2.2.2.2.1 y.2.2.2.2.2.2.2.2.2.2.2.2.2.2.2.1 y.2.2.2.2.2.2.2.2.2.2.2.2.2.2.2.2.1 y.2.2.2.2.2.2.2.2.2.2.2.2.2.2.2.2.2.1 y.2.2.2.2.2.2.2.2.2.2.2.2.2.2.2.2.2.2.1 y.2.2.2.2.2.2.2.2.2.2.2.2.2.2.2.2.2.2.2.1 y.2.2.2.2.2.2.2.2.2.2.2.2.2.2.2.2.2.2.2.2)) hf (fun v39 hv => va_runV (As := [.int v36, .int v37, .int v38]) (rest := []) ⟨hx, hb, hml, hown, hts⟩ (c_X6_move l E am 0 y.1 y.2.1 y.2.2.1 y.2.2.2.1 y.2.2.2.2.1 y.2.2.2.2.2.1 y.2.2.2.2.2.2.1 y.2.2.2.2.2.2.2.1 y.2.2.2.2.2.2.2.2.1 y.2.2.2.2.2.2.2.2.2.1 y.2.2.2.2.2.2.2.2.2.2.1 y.2.2.2.2.2.2.2.2.2.2.2.1 y.2.2.2.2.2.2.2.2.2.2.2.2.1 y.2.2.2.2.2.2.2.2.2.2.2.2.2.1 y.2.2.2.2.2.2.2.2.2.2.2.2.2.2.1 y.2.2.2.2.2.2.2.2.2.2.2.2.2.2.2.1 y.2.2.2.2.2.2.2.2.2.2.2.2.2.2.2.2.1 y.2.2.2.2.2.2.2.2.2.2.2.2.2.2.2.2.2.1 y.2.2.2.2.2.2.2.2.2.2.2.2.2.2.2.2.2.2.1 y.2.2.2.2.2.2.2.2.2.2.2.2.2.2.2.2.2.2.2.1 y.2.2.2.2.2.2.2.2.2.2.2.2.2.2.2.2.2.2.2.2 v36 v37 v38 _ v39 hv) (cwV 3 hts (gd_V q368 q369 q370 q5 q371) rfl rfl rfl (by decide +kernel) ⟨Nat.le_of_ble_eq_true rfl, Nat.le_of_ble_eq_true rfl⟩) (g_preVm hPc hDc hG rfl rfl) rfl rfl hl.1 rfl (lv_room (Nat.le_of_ble_eq_true rfl)) dL_law_424 ⟨(gRc (by (try dsimp only); omega)), (gRs (by (try dsimp only); omega))⟩) hS (va_A.all hDc hA1) (va_A.all hDc hA1) (fun v39 H1 locs hf hP1 hsz hkp hS => ?_)
  have hP2 := put_mid (X := []) (C := (cML E am y)) (Y := ((cOut E qo v35.2.2.2.2.2) ++ (cG E g ad v35.2.1 v35.2.2.1 v35.2.2.2.1 x.2.2.2.1 x.2.2.2.2.1 x.2.2.2.2.2.1 v35.2.2.2.2.1))) hP hD hkp hP1
  have hD2 : va_D (fun q : Nat => s.heap.size ≤ q) ((cM E am 0 v39.2.1 v39.2.2.1 y.2.2.1 v39.2.2.2.1 v39.2.2.2.2 y.2.2.2.2.2.1 y.2.2.2.2.2.2.1 y.2.2.2.2.2.2.2.1 y.2.2.2.2.2.2.2.2.1 y.2.2.2.2.2.2.2.2.2.1 y.2.2.2.2.2.2.2.2.2.2.1 y.2.2.2.2.2.2.2.2.2.2.2.1 y.2.2.2.2.2.2.2.2.2.2.2.2.1 y.2.2.2.2.2.2.2.2.2.2.2.2.2.1 y.2.2.2.2.2.2.2.2.2.2.2.2.2.2.1 y.2.2.2.2.2.2.2.2.2.2.2.2.2.2.2.1 y.2.2.2.2.2.2.2.2.2.2.2.2.2.2.2.2.1 y.2.2.2.2.2.2.2.2.2.2.2.2.2.2.2.2.2.1 y.2.2.2.2.2.2.2.2.2.2.2.2.2.2.2.2.2.2.1 y.2.2.2.2.2.2.2.2.2.2.2.2.2.2.2.2.2.2.2.1 y.2.2.2.2.2.2.2.2.2.2.2.2.2.2.2.2.2.2.2.2) ++ ((cOut E qo v35.2.2.2.2.2) ++ (cG E g ad v35.2.1 v35.2.2.1 v35.2.2.2.1 x.2.2.2.1 x.2.2.2.2.1 x.2.2.2.2.2.1 v35.2.2.2.2.1))) := va_D.sameL hD rfl
  clear hP hD hPc hDc hP1 hsz hkp hA1
  revert hS hP2 hD2; generalize H1 = H; intro hS hP hD
  have hP : va_P E.1 vwCl ((cM E am 0 v39.2.1 v39.2.2.1 y.2.2.1 v39.2.2.2.1 v39.2.2.2.2 y.2.2.2.2.2.1 y.2.2.2.2.2.2.1 y.2.2.2.2.2.2.2.1 y.2.2.2.2.2.2.2.2.1 y.2.2.2.2.2.2.2.2.2.1 y.2.2.2.2.2.2.2.2.2.2.1 y.2.2.2.2.2.2.2.2.2.2.2.1 y.2.2.2.2.2.2.2.2.2.2.2.2.1 y.2.2.2.2.2.2.2.2.2.2.2.2.2.1 y.2.2.2.2.2.2.2.2.2.2.2.2.2.2.1 y.2.2.2.2.2.2.2.2.2.2.2.2.2.2.2.1 y.2.2.2.2.2.2.2.2.2.2.2.2.2.2.2.2.1 y.2.2.2.2.2.2.2.2.2.2.2.2.2.2.2.2.2.1 y.2.2.2.2.2.2.2.2.2.2.2.2.2.2.2.2.2.2.1 y.2.2.2.2.2.2.2.2.2.2.2.2.2.2.2.2.2.2.2.1 y.2.2.2.2.2.2.2.2.2.2.2.2.2.2.2.2.2.2.2.2) ++ ((cOut E qo v35.2.2.2.2.2) ++ (cG E g ad v35.2.1 v35.2.2.1 v35.2.2.2.1 x.2.2.2.1 x.2.2.2.2.1 x.2.2.2.2.2.1 v35.2.2.2.2.1))) H := hP
  refine lv_istore (lv' := [(6, .int v39.1), (5, .int v35.1), (0, .ref b), (1, .ref (g 0)), (2, .ref (am 0)), (3, .ref qo), (4, .int l4)]) hx hb dL_law_427 hl (by decide) rfl (fun ls hl => ?_)
  refine lv_aload_n hx hb dL_law_429 rfl (lv_at hl 4 rfl) ?_
  have hPc : va_P E.1 vwCl (cM E am 0 v39.2.1 v39.2.2.1 y.2.2.1 v39.2.2.2.1 v39.2.2.2.2 y.2.2.2.2.2.1 y.2.2.2.2.2.2.1 y.2.2.2.2.2.2.2.1 y.2.2.2.2.2.2.2.2.1 y.2.2.2.2.2.2.2.2.2.1 y.2.2.2.2.2.2.2.2.2.2.1 y.2.2.2.2.2.2.2.2.2.2.2.1 y.2.2.2.2.2.2.2.2.2.2.2.2.1 y.2.2.2.2.2.2.2.2.2.2.2.2.2.1 y.2.2.2.2.2.2.2.2.2.2.2.2.2.2.1 y.2.2.2.2.2.2.2.2.2.2.2.2.2.2.2.1 y.2.2.2.2.2.2.2.2.2.2.2.2.2.2.2.2.1 y.2.2.2.2.2.2.2.2.2.2.2.2.2.2.2.2.2.1 y.2.2.2.2.2.2.2.2.2.2.2.2.2.2.2.2.2.2.1 y.2.2.2.2.2.2.2.2.2.2.2.2.2.2.2.2.2.2.2.1 y.2.2.2.2.2.2.2.2.2.2.2.2.2.2.2.2.2.2.2.2) H := hP.left
  refine g_callR Value.int hf (fun v40 hv => va_runV (As := []) (rest := []) ⟨hx, hb, hml, hown, hts⟩ (c_X6_thrown l E am 0 v39.2.1 v39.2.2.1 y.2.2.1 v39.2.2.2.1 v39.2.2.2.2 y.2.2.2.2.2.1 y.2.2.2.2.2.2.1 y.2.2.2.2.2.2.2.1 y.2.2.2.2.2.2.2.2.1 y.2.2.2.2.2.2.2.2.2.1 y.2.2.2.2.2.2.2.2.2.2.1 y.2.2.2.2.2.2.2.2.2.2.2.1 y.2.2.2.2.2.2.2.2.2.2.2.2.1 y.2.2.2.2.2.2.2.2.2.2.2.2.2.1 y.2.2.2.2.2.2.2.2.2.2.2.2.2.2.1 y.2.2.2.2.2.2.2.2.2.2.2.2.2.2.2.1 y.2.2.2.2.2.2.2.2.2.2.2.2.2.2.2.2.1 y.2.2.2.2.2.2.2.2.2.2.2.2.2.2.2.2.2.1 y.2.2.2.2.2.2.2.2.2.2.2.2.2.2.2.2.2.2.1 y.2.2.2.2.2.2.2.2.2.2.2.2.2.2.2.2.2.2.2.1 y.2.2.2.2.2.2.2.2.2.2.2.2.2.2.2.2.2.2.2.2 v40 hv) (cwV 0 hts (gd_V q246 q247 q248 q5 q249) rfl rfl rfl (by decide +kernel) ⟨Nat.le_of_ble_eq_true rfl, Nat.le_of_ble_eq_true rfl⟩) (g_preV hPc hG rfl rfl) rfl rfl hl.1 rfl (lv_room (Nat.le_of_ble_eq_true rfl)) dL_law_430 ⟨(gRc (by (try dsimp only); omega)), (gRs (by (try dsimp only); omega))⟩) (fun v40 hf => ?_)
  clear hPc
  refine lv_iload hx hb dL_law_433 (lv_at hl 1 rfl) ?_
  refine g_icmp_eq (tgt := 440) hx hb hf dL_law_435 (by decide) (fun hf => ?_) (fun hf => ?_)
  · refine lv_iload hx hb dL_law_440 (lv_at hl 1 rfl) ?_
    refine g_if_ne (tgt := 457) hx hb hf dL_law_442 (by decide) (fun hf => ?_) (fun hf => ?_)
    · exact w_L_law_457 hL C0 hG hT hN hst cells slots hcs hss k23_ hk23_ ad _ _ (v35.2.1, v35.2.2.1, v35.2.2.2.1, x.2.2.2.1, x.2.2.2.2.1, x.2.2.2.2.2.1, v35.2.2.2.2.1) (v39.2.1, v39.2.2.1, y.2.2.1, v39.2.2.2.1, v39.2.2.2.2, y.2.2.2.2.2.1, y.2.2.2.2.2.2.1, y.2.2.2.2.2.2.2.1, y.2.2.2.2.2.2.2.2.1, y.2.2.2.2.2.2.2.2.2.1, y.2.2.2.2.2.2.2.2.2.2.1, y.2.2.2.2.2.2.2.2.2.2.2.1, y.2.2.2.2.2.2.2.2.2.2.2.2.1, y.2.2.2.2.2.2.2.2.2.2.2.2.2.1, y.2.2.2.2.2.2.2.2.2.2.2.2.2.2.1, y.2.2.2.2.2.2.2.2.2.2.2.2.2.2.2.1, y.2.2.2.2.2.2.2.2.2.2.2.2.2.2.2.2.1, y.2.2.2.2.2.2.2.2.2.2.2.2.2.2.2.2.2.1, y.2.2.2.2.2.2.2.2.2.2.2.2.2.2.2.2.2.2.1, y.2.2.2.2.2.2.2.2.2.2.2.2.2.2.2.2.2.2.2.1, y.2.2.2.2.2.2.2.2.2.2.2.2.2.2.2.2.2.2.2.2) v35.2.2.2.2.2 l4 _ hf (lv_sub hl [2, 3, 4, 5, 6] rfl) hP hS hD
    · refine lv_aload_n hx hb dL_law_445 rfl (lv_at hl 5 rfl) ?_
      refine lv_iconst (v := 0) hx hb dL_law_446 (by decide) ?_
      refine g_lald hx hb hG.1 hP 11 rfl hf dL_law_447 (fun v41 hf => ?_)
      refine lv_iload hx hb dL_law_448 (lv_at hl 0 rfl) ?_
      refine lv_i2l (v := (Int32.toInt64 v39.1)) hx hb dL_law_450 rfl ?_
      refine W.lcmp hx hb dL_law_451 ?_
      refine g_if_eq (tgt := 457) hx hb hf dL_law_452 (by decide) (fun hf => ?_) (fun hf => ?_)
      · exact w_L_law_457 hL C0 hG hT hN hst cells slots hcs hss k23_ hk23_ ad _ _ (v35.2.1, v35.2.2.1, v35.2.2.2.1, x.2.2.2.1, x.2.2.2.2.1, x.2.2.2.2.2.1, v35.2.2.2.2.1) (v39.2.1, v39.2.2.1, y.2.2.1, v39.2.2.2.1, v39.2.2.2.2, y.2.2.2.2.2.1, y.2.2.2.2.2.2.1, y.2.2.2.2.2.2.2.1, y.2.2.2.2.2.2.2.2.1, y.2.2.2.2.2.2.2.2.2.1, y.2.2.2.2.2.2.2.2.2.2.1, y.2.2.2.2.2.2.2.2.2.2.2.1, y.2.2.2.2.2.2.2.2.2.2.2.2.1, y.2.2.2.2.2.2.2.2.2.2.2.2.2.1, y.2.2.2.2.2.2.2.2.2.2.2.2.2.2.1, y.2.2.2.2.2.2.2.2.2.2.2.2.2.2.2.1, y.2.2.2.2.2.2.2.2.2.2.2.2.2.2.2.2.1, y.2.2.2.2.2.2.2.2.2.2.2.2.2.2.2.2.2.1, y.2.2.2.2.2.2.2.2.2.2.2.2.2.2.2.2.2.2.1, y.2.2.2.2.2.2.2.2.2.2.2.2.2.2.2.2.2.2.2.1, y.2.2.2.2.2.2.2.2.2.2.2.2.2.2.2.2.2.2.2.2) v35.2.2.2.2.2 l4 _ hf (lv_sub hl [2, 3, 4, 5, 6] rfl) hP hS hD
      · refine lv_iconst (v := 0) hx hb dL_law_455 (by decide) ?_
        cases hf
  · refine lv_iconst (v := 0) hx hb dL_law_438 (by decide) ?_
    cases hf
set_option maxHeartbeats 4000000 in
set_option maxRecDepth 100000 in
theorem w_L_law_513 {p : Program} {l : Launch} {e : Env} {s : State} {m : MethodId} {below : List Frame} {meth : Method} {c : Code} {b L : Nat} {xs : Nat → Int32} {E : gE} {g am : Nat → Nat} {qo : Nat} (hL : L ≤ 2560) (C0 : lw_At p s m meth c b L xs) (hG : gK E s) (hT : gTh (fun q : Nat => s.heap.size ≤ q) s s.heap) (hN : gNc s) (hst : l.stackTraces = false)  (cells slots : Nat) (hcs : cells + 16 ≤ 601000) (hss : slots + 200 ≤ 7293000) (k23_ : TG → TM → (Nat → Int64) → Int32 → Option (Int32)) (hk23_ : ∀ (ad : Nat → Nat → Nat) (H : Heap) (locs : List Loc) (x : TG) (y : TM) (o : Nat → Int64) (l4 : Int32) (ls : Array Slot), k23_ x y o l4 = some 1 → lv_has ls 9 [(0, .ref b), (1, .ref (g 0)), (2, .ref (am 0)), (3, .ref qo), (4, .int l4)] → va_P E.1 vwCl ((cML E am y) ++ ((cOut E qo o) ++ (cGL E g ad x))) H → va_S (fun q : Nat => s.heap.size ≤ q) s.heap H locs → va_D (fun q : Nat => s.heap.size ≤ q) ((cML E am y) ++ ((cOut E qo o) ++ (cGL E g ad x))) → W p l e room_1 s m #[Value.ref b] below meth c H locs (cells + 16) (slots + 200) (lw_Z below #[Value.ref b] s) (F0 m 23 ls [])) : ∀ (ad : Nat → Nat → Nat) (H : Heap) (locs : List Loc) (x : TG) (y : TM) (o : Nat → Int64) (l4 : Int32) (ls : Array Slot), f_L_law_513 xs L k23_ x y o l4 = some 1 → lv_has ls 9 [(0, .ref b), (1, .ref (g 0)), (2, .ref (am 0)), (3, .ref qo), (4, .int l4)] → va_P E.1 vwCl ((cML E am y) ++ ((cOut E qo o) ++ (cGL E g ad x))) H → va_S (fun q : Nat => s.heap.size ≤ q) s.heap H locs → va_D (fun q : Nat => s.heap.size ≤ q) ((cML E am y) ++ ((cOut E qo o) ++ (cGL E g ad x))) → W p l e room_1 s m #[Value.ref b] below meth c H locs (cells + 6) (slots + 70) (lw_Z below #[Value.ref b] s) (F0 m 513 ls []) := by
  obtain ⟨hx, hb, hr, hml, hown, hts0, hX, hbl, hlocks, hgv⟩ := id C0
  have hts := gL_hts hts0
  have hbA : ¬ (fun q : Nat => s.heap.size ≤ q) b := Nat.not_le.mpr hbl
  have hA : ∀ q : Nat, s.heap.size ≤ q → (fun q : Nat => s.heap.size ≤ q) q := fun _ h => h
  intro ad H locs x y o l4 ls hf hl hP hS hD
  unfold f_L_law_513 at hf
  refine lv_goto (tgt := 1526) hx hb dL_law_513 (by decide) ?_
  refine W.widen (k := (cells + 8)) (n := (slots + 82)) (by (try dsimp only); omega) (by (try dsimp only); omega) ?_
  exact w_L_law_1526 hL C0 hG hT hN hst cells slots hcs hss k23_ hk23_ ad _ _ x y o l4 _ hf hl hP hS hD
set_option maxHeartbeats 4000000 in
set_option maxRecDepth 100000 in
theorem w_L_law_460 {p : Program} {l : Launch} {e : Env} {s : State} {m : MethodId} {below : List Frame} {meth : Method} {c : Code} {b L : Nat} {xs : Nat → Int32} {E : gE} {g am : Nat → Nat} {qo : Nat} (hL : L ≤ 2560) (C0 : lw_At p s m meth c b L xs) (hG : gK E s) (hT : gTh (fun q : Nat => s.heap.size ≤ q) s s.heap) (hN : gNc s) (hst : l.stackTraces = false)  (cells slots : Nat) (hcs : cells + 16 ≤ 601000) (hss : slots + 200 ≤ 7293000) (k23_ : TG → TM → (Nat → Int64) → Int32 → Option (Int32)) (hk23_ : ∀ (ad : Nat → Nat → Nat) (H : Heap) (locs : List Loc) (x : TG) (y : TM) (o : Nat → Int64) (l4 : Int32) (ls : Array Slot), k23_ x y o l4 = some 1 → lv_has ls 9 [(0, .ref b), (1, .ref (g 0)), (2, .ref (am 0)), (3, .ref qo), (4, .int l4)] → va_P E.1 vwCl ((cML E am y) ++ ((cOut E qo o) ++ (cGL E g ad x))) H → va_S (fun q : Nat => s.heap.size ≤ q) s.heap H locs → va_D (fun q : Nat => s.heap.size ≤ q) ((cML E am y) ++ ((cOut E qo o) ++ (cGL E g ad x))) → W p l e room_1 s m #[Value.ref b] below meth c H locs (cells + 16) (slots + 200) (lw_Z below #[Value.ref b] s) (F0 m 23 ls [])) : ∀ (ad : Nat → Nat → Nat) (H : Heap) (locs : List Loc) (x : TG) (y : TM) (o : Nat → Int64) (l4 : Int32) (ls : Array Slot), f_L_law_460 xs L k23_ x y o l4 = some 1 → lv_has ls 9 [(0, .ref b), (1, .ref (g 0)), (2, .ref (am 0)), (3, .ref qo), (4, .int l4)] → va_P E.1 vwCl ((cML E am y) ++ ((cOut E qo o) ++ (cGL E g ad x))) H → va_S (fun q : Nat => s.heap.size ≤ q) s.heap H locs → va_D (fun q : Nat => s.heap.size ≤ q) ((cML E am y) ++ ((cOut E qo o) ++ (cGL E g ad x))) → W p l e room_1 s m #[Value.ref b] below meth c H locs cells slots (lw_Z below #[Value.ref b] s) (F0 m 460 ls []) := by
  obtain ⟨hx, hb, hr, hml, hown, hts0, hX, hbl, hlocks, hgv⟩ := id C0
  have hts := gL_hts hts0
  have hbA : ¬ (fun q : Nat => s.heap.size ≤ q) b := Nat.not_le.mpr hbl
  have hA : ∀ q : Nat, s.heap.size ≤ q → (fun q : Nat => s.heap.size ≤ q) q := fun _ h => h
  intro ad H locs x y o l4 ls hf hl hP hS hD
  unfold f_L_law_460 at hf
  refine lv_aload_n hx hb dL_law_460 rfl (lv_at hl 1 rfl) ?_
  refine lv_aload_n hx hb dL_law_461 rfl (lv_at hl 0 rfl) ?_
  refine lv_iload hx hb dL_law_462 (lv_at hl 4 rfl) ?_
  refine lv_iconst (v := 1) hx hb dL_law_464 (by decide) ?_
  refine lv_iadd hx hb dL_law_465 ?_
  refine g_sld hx hb hX hbl hbA hS hf dL_law_466 (fun v42 hf => ?_)
  refine lv_aload_n hx hb dL_law_467 rfl (lv_at hl 3 rfl) ?_
  have hA1 : ∀ q : Nat, Array.size H ≤ q → (fun q : Nat => s.heap.size ≤ q) q := fun q h => Nat.le_trans hS.1 h
  have hPc : va_P E.1 vwCl ((cOut E qo o) ++ (cGL E g ad x)) H := hP.right
  have hDc : va_D (fun q : Nat => s.heap.size ≤ q) ((cOut E qo o) ++ (cGL E g ad x)) := hD.right
  refine g_callA2 (fun v43 => some (.int v43.1)) (fun v43 ad => ((cOut E qo v43.2.2.2.2.2) ++ (cG E g ad v43.2.1 v43.2.2.1 v43.2.2.2.1 x.2.2.2.1 x.2.2.2.2.1 x.2.2.2.2.2.1 v43.2.2.2.2.1))) hf (fun v43 hv => vx_runSW (As := [.ref (g 0), .int v42, .ref qo]) (rest := []) ⟨hx, hb, hml, hown, hts⟩ (c_L_flip l E g ad qo x.1 x.2.1 x.2.2.1 x.2.2.2.1 x.2.2.2.2.1 x.2.2.2.2.2.1 x.2.2.2.2.2.2 o v42 hst _ v43 hv) (vx_cwSW 3 hts (gd_SH q380 q381 qRL q382) rfl rfl rfl (by decide +kernel) ⟨Nat.le_of_ble_eq_true rfl, Nat.le_of_ble_eq_true rfl⟩) (g_preSl hPc hDc hG hT hN hS (va_A.all hDc hA1)) rfl rfl hl.1 rfl (lv_room (Nat.le_of_ble_eq_true rfl)) dL_law_468 ⟨(gRc (by (try dsimp only); omega)), (gRs (by (try dsimp only); omega))⟩) hS (va_A.all hDc hA1) (va_A.all hDc hA1) (fun v43 ad H1 locs hf hP1 hD1 hkp hS => ?_)
  obtain ⟨hP2, hD2⟩ := join_end hP hD hA1 hkp hP1 hD1
  clear hP hD hPc hDc hP1 hD1 hkp hA1
  revert hS hP2 hD2; generalize H1 = H; intro hS hP hD
  have hP : va_P E.1 vwCl ((cML E am y) ++ ((cOut E qo v43.2.2.2.2.2) ++ (cG E g ad v43.2.1 v43.2.2.1 v43.2.2.2.1 x.2.2.2.1 x.2.2.2.2.1 x.2.2.2.2.2.1 v43.2.2.2.2.1))) H := hP
  have hD : va_D (fun q : Nat => s.heap.size ≤ q) ((cML E am y) ++ ((cOut E qo v43.2.2.2.2.2) ++ (cG E g ad v43.2.1 v43.2.2.1 v43.2.2.2.1 x.2.2.2.1 x.2.2.2.2.1 x.2.2.2.2.2.1 v43.2.2.2.2.1))) := hD
  refine W.widen (k := cells + 6) (n := slots + 70) (by (try dsimp only); omega) (by (try dsimp only); omega) ?_
  refine lv_istore (lv' := [(5, .int v43.1), (0, .ref b), (1, .ref (g 0)), (2, .ref (am 0)), (3, .ref qo), (4, .int l4)]) hx hb dL_law_471 hl (by decide) rfl (fun ls hl => ?_)
  refine lv_aload_n hx hb dL_law_473 rfl (lv_at hl 3 rfl) ?_
  refine lv_aload_n hx hb dL_law_474 rfl (lv_at hl 1 rfl) ?_
  refine lv_iload hx hb dL_law_475 (lv_at hl 5 rfl) ?_
  refine lv_iconst (v := 1) hx hb dL_law_477 (by decide) ?_
  refine lv_iadd hx hb dL_law_478 ?_
  refine g_sld hx hb hX hbl hbA hS hf dL_law_479 (fun v44 hf => ?_)
  have hPc : va_P E.1 vwCl (cML E am y) H := hP.left
  have hA1 : ∀ q : Nat, Array.size H ≤ q → (fun q : Nat => s.heap.size ≤ q) q := fun q h => Nat.le_trans hS.1 h
  have hDc : va_D (fun q : Nat => s.heap.size ≤ q) (cML E am y) := hD.left
  refine g_callMi (fun v45 => .int v45.1) (fun v45 => (cM E am 0 v45.2.1 v45.2.2.1 y.2.2.1 v45.2.2.2.1 v45.2.2.2.2 y.2.2.2.2.2.1 y.2.2.2.2.2.2.1 y.2.2.2.2.2.2.2.1 y.2.2.2.2.2.2.2.2.1 y.2.2.2.2.2.2.2.2.2.1 y.2.2.2.2.2.2.2.2.2.2.1 y.2.2.2.2.2.2.2.2.2.2.2.1 y.2.2.2.2.2.2.2.2.2.2.2.2.1 y.2.2.2.2.2.2.2.2.2.2.2.2.2.1 y.2.2.2.2.2.2.2.2.2.2.2.2.2.2.1 y.2.2.2.2.2.2.2.2.2.2.2.2.2.2.2.1 y.2.2.2.2.2.2.2.2.2.2.2.2.2.2.2.2.1 y.2.2.2.2.2.2.2.2.2.2.2.2.2.2.2.2.2.1 y.2.2.2.2.2.2.2.2.2.2.2.2.2.2.2.2.2.2.1 y.2.2.2.2.2.2.2.2.2.2.2.2.2.2.2.2.2.2.2.1 y.2.2.2.2.2.2.2.2.2.2.2.2.2.2.2.2.2.2.2.2)) hf (fun v45 hv => va_runV (As := [.int v44]) (rest := []) ⟨hx, hb, hml, hown, hts⟩ (c_X6_flip l E am 0 y.1 y.2.1 y.2.2.1 y.2.2.2.1 y.2.2.2.2.1 y.2.2.2.2.2.1 y.2.2.2.2.2.2.1 y.2.2.2.2.2.2.2.1 y.2.2.2.2.2.2.2.2.1 y.2.2.2.2.2.2.2.2.2.1 y.2.2.2.2.2.2.2.2.2.2.1 y.2.2.2.2.2.2.2.2.2.2.2.1 y.2.2.2.2.2.2.2.2.2.2.2.2.1 y.2.2.2.2.2.2.2.2.2.2.2.2.2.1 y.2.2.2.2.2.2.2.2.2.2.2.2.2.2.1 y.2.2.2.2.2.2.2.2.2.2.2.2.2.2.2.1 y.2.2.2.2.2.2.2.2.2.2.2.2.2.2.2.2.1 y.2.2.2.2.2.2.2.2.2.2.2.2.2.2.2.2.2.1 y.2.2.2.2.2.2.2.2.2.2.2.2.2.2.2.2.2.2.1 y.2.2.2.2.2.2.2.2.2.2.2.2.2.2.2.2.2.2.2.1 y.2.2.2.2.2.2.2.2.2.2.2.2.2.2.2.2.2.2.2.2 v44 _ v45 hv) (cwV 1 hts (gd_V q390 q391 q392 q5 q393) rfl rfl rfl (by decide +kernel) ⟨Nat.le_of_ble_eq_true rfl, Nat.le_of_ble_eq_true rfl⟩) (g_preVm hPc hDc hG rfl rfl) rfl rfl hl.1 rfl (lv_room (Nat.le_of_ble_eq_true rfl)) dL_law_480 ⟨(gRc (by (try dsimp only); omega)), (gRs (by (try dsimp only); omega))⟩) hS (va_A.all hDc hA1) (va_A.all hDc hA1) (fun v45 H1 locs hf hP1 hsz hkp hS => ?_)
  have hP2 := put_mid (X := []) (C := (cML E am y)) (Y := ((cOut E qo v43.2.2.2.2.2) ++ (cG E g ad v43.2.1 v43.2.2.1 v43.2.2.2.1 x.2.2.2.1 x.2.2.2.2.1 x.2.2.2.2.2.1 v43.2.2.2.2.1))) hP hD hkp hP1
  have hD2 : va_D (fun q : Nat => s.heap.size ≤ q) ((cM E am 0 v45.2.1 v45.2.2.1 y.2.2.1 v45.2.2.2.1 v45.2.2.2.2 y.2.2.2.2.2.1 y.2.2.2.2.2.2.1 y.2.2.2.2.2.2.2.1 y.2.2.2.2.2.2.2.2.1 y.2.2.2.2.2.2.2.2.2.1 y.2.2.2.2.2.2.2.2.2.2.1 y.2.2.2.2.2.2.2.2.2.2.2.1 y.2.2.2.2.2.2.2.2.2.2.2.2.1 y.2.2.2.2.2.2.2.2.2.2.2.2.2.1 y.2.2.2.2.2.2.2.2.2.2.2.2.2.2.1 y.2.2.2.2.2.2.2.2.2.2.2.2.2.2.2.1 y.2.2.2.2.2.2.2.2.2.2.2.2.2.2.2.2.1 y.2.2.2.2.2.2.2.2.2.2.2.2.2.2.2.2.2.1 y.2.2.2.2.2.2.2.2.2.2.2.2.2.2.2.2.2.2.1 y.2.2.2.2.2.2.2.2.2.2.2.2.2.2.2.2.2.2.2.1 y.2.2.2.2.2.2.2.2.2.2.2.2.2.2.2.2.2.2.2.2) ++ ((cOut E qo v43.2.2.2.2.2) ++ (cG E g ad v43.2.1 v43.2.2.1 v43.2.2.2.1 x.2.2.2.1 x.2.2.2.2.1 x.2.2.2.2.2.1 v43.2.2.2.2.1))) := va_D.sameL hD rfl
  clear hP hD hPc hDc hP1 hsz hkp hA1
  revert hS hP2 hD2; generalize H1 = H; intro hS hP hD
  have hP : va_P E.1 vwCl ((cM E am 0 v45.2.1 v45.2.2.1 y.2.2.1 v45.2.2.2.1 v45.2.2.2.2 y.2.2.2.2.2.1 y.2.2.2.2.2.2.1 y.2.2.2.2.2.2.2.1 y.2.2.2.2.2.2.2.2.1 y.2.2.2.2.2.2.2.2.2.1 y.2.2.2.2.2.2.2.2.2.2.1 y.2.2.2.2.2.2.2.2.2.2.2.1 y.2.2.2.2.2.2.2.2.2.2.2.2.1 y.2.2.2.2.2.2.2.2.2.2.2.2.2.1 y.2.2.2.2.2.2.2.2.2.2.2.2.2.2.1 y.2.2.2.2.2.2.2.2.2.2.2.2.2.2.2.1 y.2.2.2.2.2.2.2.2.2.2.2.2.2.2.2.2.1 y.2.2.2.2.2.2.2.2.2.2.2.2.2.2.2.2.2.1 y.2.2.2.2.2.2.2.2.2.2.2.2.2.2.2.2.2.2.1 y.2.2.2.2.2.2.2.2.2.2.2.2.2.2.2.2.2.2.2.1 y.2.2.2.2.2.2.2.2.2.2.2.2.2.2.2.2.2.2.2.2) ++ ((cOut E qo v43.2.2.2.2.2) ++ (cG E g ad v43.2.1 v43.2.2.1 v43.2.2.2.1 x.2.2.2.1 x.2.2.2.2.1 x.2.2.2.2.2.1 v43.2.2.2.2.1))) H := hP
  refine lv_istore (lv' := [(6, .int v45.1), (5, .int v43.1), (0, .ref b), (1, .ref (g 0)), (2, .ref (am 0)), (3, .ref qo), (4, .int l4)]) hx hb dL_law_483 hl (by decide) rfl (fun ls hl => ?_)
  refine lv_aload_n hx hb dL_law_485 rfl (lv_at hl 4 rfl) ?_
  have hPc : va_P E.1 vwCl (cM E am 0 v45.2.1 v45.2.2.1 y.2.2.1 v45.2.2.2.1 v45.2.2.2.2 y.2.2.2.2.2.1 y.2.2.2.2.2.2.1 y.2.2.2.2.2.2.2.1 y.2.2.2.2.2.2.2.2.1 y.2.2.2.2.2.2.2.2.2.1 y.2.2.2.2.2.2.2.2.2.2.1 y.2.2.2.2.2.2.2.2.2.2.2.1 y.2.2.2.2.2.2.2.2.2.2.2.2.1 y.2.2.2.2.2.2.2.2.2.2.2.2.2.1 y.2.2.2.2.2.2.2.2.2.2.2.2.2.2.1 y.2.2.2.2.2.2.2.2.2.2.2.2.2.2.2.1 y.2.2.2.2.2.2.2.2.2.2.2.2.2.2.2.2.1 y.2.2.2.2.2.2.2.2.2.2.2.2.2.2.2.2.2.1 y.2.2.2.2.2.2.2.2.2.2.2.2.2.2.2.2.2.2.1 y.2.2.2.2.2.2.2.2.2.2.2.2.2.2.2.2.2.2.2.1 y.2.2.2.2.2.2.2.2.2.2.2.2.2.2.2.2.2.2.2.2) H := hP.left
  refine g_callR Value.int hf (fun v46 hv => va_runV (As := []) (rest := []) ⟨hx, hb, hml, hown, hts⟩ (c_X6_thrown l E am 0 v45.2.1 v45.2.2.1 y.2.2.1 v45.2.2.2.1 v45.2.2.2.2 y.2.2.2.2.2.1 y.2.2.2.2.2.2.1 y.2.2.2.2.2.2.2.1 y.2.2.2.2.2.2.2.2.1 y.2.2.2.2.2.2.2.2.2.1 y.2.2.2.2.2.2.2.2.2.2.1 y.2.2.2.2.2.2.2.2.2.2.2.1 y.2.2.2.2.2.2.2.2.2.2.2.2.1 y.2.2.2.2.2.2.2.2.2.2.2.2.2.1 y.2.2.2.2.2.2.2.2.2.2.2.2.2.2.1 y.2.2.2.2.2.2.2.2.2.2.2.2.2.2.2.1 y.2.2.2.2.2.2.2.2.2.2.2.2.2.2.2.2.1 y.2.2.2.2.2.2.2.2.2.2.2.2.2.2.2.2.2.1 y.2.2.2.2.2.2.2.2.2.2.2.2.2.2.2.2.2.2.1 y.2.2.2.2.2.2.2.2.2.2.2.2.2.2.2.2.2.2.2.1 y.2.2.2.2.2.2.2.2.2.2.2.2.2.2.2.2.2.2.2.2 v46 hv) (cwV 0 hts (gd_V q246 q247 q248 q5 q249) rfl rfl rfl (by decide +kernel) ⟨Nat.le_of_ble_eq_true rfl, Nat.le_of_ble_eq_true rfl⟩) (g_preV hPc hG rfl rfl) rfl rfl hl.1 rfl (lv_room (Nat.le_of_ble_eq_true rfl)) dL_law_486 ⟨(gRc (by (try dsimp only); omega)), (gRs (by (try dsimp only); omega))⟩) (fun v46 hf => ?_)
  clear hPc
  refine lv_iload hx hb dL_law_489 (lv_at hl 1 rfl) ?_
  refine g_icmp_eq (tgt := 496) hx hb hf dL_law_491 (by decide) (fun hf => ?_) (fun hf => ?_)
  · refine lv_iload hx hb dL_law_496 (lv_at hl 1 rfl) ?_
    refine g_if_ne (tgt := 513) hx hb hf dL_law_498 (by decide) (fun hf => ?_) (fun hf => ?_)
    · exact w_L_law_513 hL C0 hG hT hN hst cells slots hcs hss k23_ hk23_ ad _ _ (v43.2.1, v43.2.2.1, v43.2.2.2.1, x.2.2.2.1, x.2.2.2.2.1, x.2.2.2.2.2.1, v43.2.2.2.2.1) (v45.2.1, v45.2.2.1, y.2.2.1, v45.2.2.2.1, v45.2.2.2.2, y.2.2.2.2.2.1, y.2.2.2.2.2.2.1, y.2.2.2.2.2.2.2.1, y.2.2.2.2.2.2.2.2.1, y.2.2.2.2.2.2.2.2.2.1, y.2.2.2.2.2.2.2.2.2.2.1, y.2.2.2.2.2.2.2.2.2.2.2.1, y.2.2.2.2.2.2.2.2.2.2.2.2.1, y.2.2.2.2.2.2.2.2.2.2.2.2.2.1, y.2.2.2.2.2.2.2.2.2.2.2.2.2.2.1, y.2.2.2.2.2.2.2.2.2.2.2.2.2.2.2.1, y.2.2.2.2.2.2.2.2.2.2.2.2.2.2.2.2.1, y.2.2.2.2.2.2.2.2.2.2.2.2.2.2.2.2.2.1, y.2.2.2.2.2.2.2.2.2.2.2.2.2.2.2.2.2.2.1, y.2.2.2.2.2.2.2.2.2.2.2.2.2.2.2.2.2.2.2.1, y.2.2.2.2.2.2.2.2.2.2.2.2.2.2.2.2.2.2.2.2) v43.2.2.2.2.2 l4 _ hf (lv_sub hl [2, 3, 4, 5, 6] rfl) hP hS hD
    · refine lv_aload_n hx hb dL_law_501 rfl (lv_at hl 5 rfl) ?_
      refine lv_iconst (v := 0) hx hb dL_law_502 (by decide) ?_
      refine g_lald hx hb hG.1 hP 11 rfl hf dL_law_503 (fun v47 hf => ?_)
      refine lv_iload hx hb dL_law_504 (lv_at hl 0 rfl) ?_
      refine lv_i2l (v := (Int32.toInt64 v45.1)) hx hb dL_law_506 rfl ?_
      refine W.lcmp hx hb dL_law_507 ?_
      refine g_if_eq (tgt := 513) hx hb hf dL_law_508 (by decide) (fun hf => ?_) (fun hf => ?_)
      · exact w_L_law_513 hL C0 hG hT hN hst cells slots hcs hss k23_ hk23_ ad _ _ (v43.2.1, v43.2.2.1, v43.2.2.2.1, x.2.2.2.1, x.2.2.2.2.1, x.2.2.2.2.2.1, v43.2.2.2.2.1) (v45.2.1, v45.2.2.1, y.2.2.1, v45.2.2.2.1, v45.2.2.2.2, y.2.2.2.2.2.1, y.2.2.2.2.2.2.1, y.2.2.2.2.2.2.2.1, y.2.2.2.2.2.2.2.2.1, y.2.2.2.2.2.2.2.2.2.1, y.2.2.2.2.2.2.2.2.2.2.1, y.2.2.2.2.2.2.2.2.2.2.2.1, y.2.2.2.2.2.2.2.2.2.2.2.2.1, y.2.2.2.2.2.2.2.2.2.2.2.2.2.1, y.2.2.2.2.2.2.2.2.2.2.2.2.2.2.1, y.2.2.2.2.2.2.2.2.2.2.2.2.2.2.2.1, y.2.2.2.2.2.2.2.2.2.2.2.2.2.2.2.2.1, y.2.2.2.2.2.2.2.2.2.2.2.2.2.2.2.2.2.1, y.2.2.2.2.2.2.2.2.2.2.2.2.2.2.2.2.2.2.1, y.2.2.2.2.2.2.2.2.2.2.2.2.2.2.2.2.2.2.2.1, y.2.2.2.2.2.2.2.2.2.2.2.2.2.2.2.2.2.2.2.2) v43.2.2.2.2.2 l4 _ hf (lv_sub hl [2, 3, 4, 5, 6] rfl) hP hS hD
      · refine lv_iconst (v := 0) hx hb dL_law_511 (by decide) ?_
        cases hf
  · refine lv_iconst (v := 0) hx hb dL_law_494 (by decide) ?_
    cases hf
set_option maxHeartbeats 4000000 in
set_option maxRecDepth 100000 in
theorem w_L_law_569 {p : Program} {l : Launch} {e : Env} {s : State} {m : MethodId} {below : List Frame} {meth : Method} {c : Code} {b L : Nat} {xs : Nat → Int32} {E : gE} {g am : Nat → Nat} {qo : Nat} (hL : L ≤ 2560) (C0 : lw_At p s m meth c b L xs) (hG : gK E s) (hT : gTh (fun q : Nat => s.heap.size ≤ q) s s.heap) (hN : gNc s) (hst : l.stackTraces = false)  (cells slots : Nat) (hcs : cells + 16 ≤ 601000) (hss : slots + 200 ≤ 7293000) (k23_ : TG → TM → (Nat → Int64) → Int32 → Option (Int32)) (hk23_ : ∀ (ad : Nat → Nat → Nat) (H : Heap) (locs : List Loc) (x : TG) (y : TM) (o : Nat → Int64) (l4 : Int32) (ls : Array Slot), k23_ x y o l4 = some 1 → lv_has ls 9 [(0, .ref b), (1, .ref (g 0)), (2, .ref (am 0)), (3, .ref qo), (4, .int l4)] → va_P E.1 vwCl ((cML E am y) ++ ((cOut E qo o) ++ (cGL E g ad x))) H → va_S (fun q : Nat => s.heap.size ≤ q) s.heap H locs → va_D (fun q : Nat => s.heap.size ≤ q) ((cML E am y) ++ ((cOut E qo o) ++ (cGL E g ad x))) → W p l e room_1 s m #[Value.ref b] below meth c H locs (cells + 16) (slots + 200) (lw_Z below #[Value.ref b] s) (F0 m 23 ls [])) : ∀ (ad : Nat → Nat → Nat) (H : Heap) (locs : List Loc) (x : TG) (y : TM) (o : Nat → Int64) (l4 : Int32) (ls : Array Slot), f_L_law_569 xs L k23_ x y o l4 = some 1 → lv_has ls 9 [(0, .ref b), (1, .ref (g 0)), (2, .ref (am 0)), (3, .ref qo), (4, .int l4)] → va_P E.1 vwCl ((cML E am y) ++ ((cOut E qo o) ++ (cGL E g ad x))) H → va_S (fun q : Nat => s.heap.size ≤ q) s.heap H locs → va_D (fun q : Nat => s.heap.size ≤ q) ((cML E am y) ++ ((cOut E qo o) ++ (cGL E g ad x))) → W p l e room_1 s m #[Value.ref b] below meth c H locs (cells + 6) (slots + 70) (lw_Z below #[Value.ref b] s) (F0 m 569 ls []) := by
  obtain ⟨hx, hb, hr, hml, hown, hts0, hX, hbl, hlocks, hgv⟩ := id C0
  have hts := gL_hts hts0
  have hbA : ¬ (fun q : Nat => s.heap.size ≤ q) b := Nat.not_le.mpr hbl
  have hA : ∀ q : Nat, s.heap.size ≤ q → (fun q : Nat => s.heap.size ≤ q) q := fun _ h => h
  intro ad H locs x y o l4 ls hf hl hP hS hD
  unfold f_L_law_569 at hf
  refine lv_goto (tgt := 1526) hx hb dL_law_569 (by decide) ?_
  refine W.widen (k := (cells + 8)) (n := (slots + 82)) (by (try dsimp only); omega) (by (try dsimp only); omega) ?_
  exact w_L_law_1526 hL C0 hG hT hN hst cells slots hcs hss k23_ hk23_ ad _ _ x y o l4 _ hf hl hP hS hD
set_option maxHeartbeats 4000000 in
set_option maxRecDepth 100000 in
theorem w_L_law_516 {p : Program} {l : Launch} {e : Env} {s : State} {m : MethodId} {below : List Frame} {meth : Method} {c : Code} {b L : Nat} {xs : Nat → Int32} {E : gE} {g am : Nat → Nat} {qo : Nat} (hL : L ≤ 2560) (C0 : lw_At p s m meth c b L xs) (hG : gK E s) (hT : gTh (fun q : Nat => s.heap.size ≤ q) s s.heap) (hN : gNc s) (hst : l.stackTraces = false)  (cells slots : Nat) (hcs : cells + 16 ≤ 601000) (hss : slots + 200 ≤ 7293000) (k23_ : TG → TM → (Nat → Int64) → Int32 → Option (Int32)) (hk23_ : ∀ (ad : Nat → Nat → Nat) (H : Heap) (locs : List Loc) (x : TG) (y : TM) (o : Nat → Int64) (l4 : Int32) (ls : Array Slot), k23_ x y o l4 = some 1 → lv_has ls 9 [(0, .ref b), (1, .ref (g 0)), (2, .ref (am 0)), (3, .ref qo), (4, .int l4)] → va_P E.1 vwCl ((cML E am y) ++ ((cOut E qo o) ++ (cGL E g ad x))) H → va_S (fun q : Nat => s.heap.size ≤ q) s.heap H locs → va_D (fun q : Nat => s.heap.size ≤ q) ((cML E am y) ++ ((cOut E qo o) ++ (cGL E g ad x))) → W p l e room_1 s m #[Value.ref b] below meth c H locs (cells + 16) (slots + 200) (lw_Z below #[Value.ref b] s) (F0 m 23 ls [])) : ∀ (ad : Nat → Nat → Nat) (H : Heap) (locs : List Loc) (x : TG) (y : TM) (o : Nat → Int64) (l4 : Int32) (ls : Array Slot), f_L_law_516 xs L k23_ x y o l4 = some 1 → lv_has ls 9 [(0, .ref b), (1, .ref (g 0)), (2, .ref (am 0)), (3, .ref qo), (4, .int l4)] → va_P E.1 vwCl ((cML E am y) ++ ((cOut E qo o) ++ (cGL E g ad x))) H → va_S (fun q : Nat => s.heap.size ≤ q) s.heap H locs → va_D (fun q : Nat => s.heap.size ≤ q) ((cML E am y) ++ ((cOut E qo o) ++ (cGL E g ad x))) → W p l e room_1 s m #[Value.ref b] below meth c H locs cells slots (lw_Z below #[Value.ref b] s) (F0 m 516 ls []) := by
  obtain ⟨hx, hb, hr, hml, hown, hts0, hX, hbl, hlocks, hgv⟩ := id C0
  have hts := gL_hts hts0
  have hbA : ¬ (fun q : Nat => s.heap.size ≤ q) b := Nat.not_le.mpr hbl
  have hA : ∀ q : Nat, s.heap.size ≤ q → (fun q : Nat => s.heap.size ≤ q) q := fun _ h => h
  intro ad H locs x y o l4 ls hf hl hP hS hD
  unfold f_L_law_516 at hf
  refine lv_aload_n hx hb dL_law_516 rfl (lv_at hl 1 rfl) ?_
  refine lv_aload_n hx hb dL_law_517 rfl (lv_at hl 0 rfl) ?_
  refine lv_iload hx hb dL_law_518 (lv_at hl 4 rfl) ?_
  refine lv_iconst (v := 1) hx hb dL_law_520 (by decide) ?_
  refine lv_iadd hx hb dL_law_521 ?_
  refine g_sld hx hb hX hbl hbA hS hf dL_law_522 (fun v48 hf => ?_)
  refine lv_aload_n hx hb dL_law_523 rfl (lv_at hl 3 rfl) ?_
  have hA1 : ∀ q : Nat, Array.size H ≤ q → (fun q : Nat => s.heap.size ≤ q) q := fun q h => Nat.le_trans hS.1 h
  have hPc : va_P E.1 vwCl ((cOut E qo o) ++ (cGL E g ad x)) H := hP.right
  have hDc : va_D (fun q : Nat => s.heap.size ≤ q) ((cOut E qo o) ++ (cGL E g ad x)) := hD.right
  refine g_callA2 (fun v49 => some (.int v49.1)) (fun v49 ad => ((cOut E qo v49.2.2.2.2.2) ++ (cG E g ad v49.2.1 v49.2.2.1 v49.2.2.2.1 x.2.2.2.1 x.2.2.2.2.1 x.2.2.2.2.2.1 v49.2.2.2.2.1))) hf (fun v49 hv => vx_runSW (As := [.ref (g 0), .int v48, .ref qo]) (rest := []) ⟨hx, hb, hml, hown, hts⟩ (c_L_drive l E g ad qo x.1 x.2.1 x.2.2.1 x.2.2.2.1 x.2.2.2.2.1 x.2.2.2.2.2.1 x.2.2.2.2.2.2 o v48 hst _ v49 hv) (vx_cwSW 3 hts (gd_SH q402 q403 qRL q404) rfl rfl rfl (by decide +kernel) ⟨Nat.le_of_ble_eq_true rfl, Nat.le_of_ble_eq_true rfl⟩) (g_preSl hPc hDc hG hT hN hS (va_A.all hDc hA1)) rfl rfl hl.1 rfl (lv_room (Nat.le_of_ble_eq_true rfl)) dL_law_524 ⟨(gRc (by (try dsimp only); omega)), (gRs (by (try dsimp only); omega))⟩) hS (va_A.all hDc hA1) (va_A.all hDc hA1) (fun v49 ad H1 locs hf hP1 hD1 hkp hS => ?_)
  obtain ⟨hP2, hD2⟩ := join_end hP hD hA1 hkp hP1 hD1
  clear hP hD hPc hDc hP1 hD1 hkp hA1
  revert hS hP2 hD2; generalize H1 = H; intro hS hP hD
  have hP : va_P E.1 vwCl ((cML E am y) ++ ((cOut E qo v49.2.2.2.2.2) ++ (cG E g ad v49.2.1 v49.2.2.1 v49.2.2.2.1 x.2.2.2.1 x.2.2.2.2.1 x.2.2.2.2.2.1 v49.2.2.2.2.1))) H := hP
  have hD : va_D (fun q : Nat => s.heap.size ≤ q) ((cML E am y) ++ ((cOut E qo v49.2.2.2.2.2) ++ (cG E g ad v49.2.1 v49.2.2.1 v49.2.2.2.1 x.2.2.2.1 x.2.2.2.2.1 x.2.2.2.2.2.1 v49.2.2.2.2.1))) := hD
  refine W.widen (k := cells + 6) (n := slots + 70) (by (try dsimp only); omega) (by (try dsimp only); omega) ?_
  refine lv_istore (lv' := [(5, .int v49.1), (0, .ref b), (1, .ref (g 0)), (2, .ref (am 0)), (3, .ref qo), (4, .int l4)]) hx hb dL_law_527 hl (by decide) rfl (fun ls hl => ?_)
  refine lv_aload_n hx hb dL_law_529 rfl (lv_at hl 3 rfl) ?_
  refine lv_aload_n hx hb dL_law_530 rfl (lv_at hl 1 rfl) ?_
  refine lv_iload hx hb dL_law_531 (lv_at hl 5 rfl) ?_
  refine lv_iconst (v := 1) hx hb dL_law_533 (by decide) ?_
  refine lv_iadd hx hb dL_law_534 ?_
  refine g_sld hx hb hX hbl hbA hS hf dL_law_535 (fun v50 hf => ?_)
  have hPc : va_P E.1 vwCl (cML E am y) H := hP.left
  have hA1 : ∀ q : Nat, Array.size H ≤ q → (fun q : Nat => s.heap.size ≤ q) q := fun q h => Nat.le_trans hS.1 h
  have hDc : va_D (fun q : Nat => s.heap.size ≤ q) (cML E am y) := hD.left
  refine g_callMi (fun v51 => .int v51.1) (fun v51 => (cM E am 0 v51.2.1 v51.2.2.1 y.2.2.1 v51.2.2.2.1 v51.2.2.2.2 y.2.2.2.2.2.1 y.2.2.2.2.2.2.1 y.2.2.2.2.2.2.2.1 y.2.2.2.2.2.2.2.2.1 y.2.2.2.2.2.2.2.2.2.1 y.2.2.2.2.2.2.2.2.2.2.1 y.2.2.2.2.2.2.2.2.2.2.2.1 y.2.2.2.2.2.2.2.2.2.2.2.2.1 y.2.2.2.2.2.2.2.2.2.2.2.2.2.1 y.2.2.2.2.2.2.2.2.2.2.2.2.2.2.1 y.2.2.2.2.2.2.2.2.2.2.2.2.2.2.2.1 y.2.2.2.2.2.2.2.2.2.2.2.2.2.2.2.2.1 y.2.2.2.2.2.2.2.2.2.2.2.2.2.2.2.2.2.1 y.2.2.2.2.2.2.2.2.2.2.2.2.2.2.2.2.2.2.1 y.2.2.2.2.2.2.2.2.2.2.2.2.2.2.2.2.2.2.2.1 y.2.2.2.2.2.2.2.2.2.2.2.2.2.2.2.2.2.2.2.2)) hf (fun v51 hv => va_runV (As := [.int v50]) (rest := []) ⟨hx, hb, hml, hown, hts⟩ (c_X6_drive l E am 0 y.1 y.2.1 y.2.2.1 y.2.2.2.1 y.2.2.2.2.1 y.2.2.2.2.2.1 y.2.2.2.2.2.2.1 y.2.2.2.2.2.2.2.1 y.2.2.2.2.2.2.2.2.1 y.2.2.2.2.2.2.2.2.2.1 y.2.2.2.2.2.2.2.2.2.2.1 y.2.2.2.2.2.2.2.2.2.2.2.1 y.2.2.2.2.2.2.2.2.2.2.2.2.1 y.2.2.2.2.2.2.2.2.2.2.2.2.2.1 y.2.2.2.2.2.2.2.2.2.2.2.2.2.2.1 y.2.2.2.2.2.2.2.2.2.2.2.2.2.2.2.1 y.2.2.2.2.2.2.2.2.2.2.2.2.2.2.2.2.1 y.2.2.2.2.2.2.2.2.2.2.2.2.2.2.2.2.2.1 y.2.2.2.2.2.2.2.2.2.2.2.2.2.2.2.2.2.2.1 y.2.2.2.2.2.2.2.2.2.2.2.2.2.2.2.2.2.2.2.1 y.2.2.2.2.2.2.2.2.2.2.2.2.2.2.2.2.2.2.2.2 v50 _ v51 hv) (cwV 1 hts (gd_V q409 q410 q411 q5 q412) rfl rfl rfl (by decide +kernel) ⟨Nat.le_of_ble_eq_true rfl, Nat.le_of_ble_eq_true rfl⟩) (g_preVm hPc hDc hG rfl rfl) rfl rfl hl.1 rfl (lv_room (Nat.le_of_ble_eq_true rfl)) dL_law_536 ⟨(gRc (by (try dsimp only); omega)), (gRs (by (try dsimp only); omega))⟩) hS (va_A.all hDc hA1) (va_A.all hDc hA1) (fun v51 H1 locs hf hP1 hsz hkp hS => ?_)
  have hP2 := put_mid (X := []) (C := (cML E am y)) (Y := ((cOut E qo v49.2.2.2.2.2) ++ (cG E g ad v49.2.1 v49.2.2.1 v49.2.2.2.1 x.2.2.2.1 x.2.2.2.2.1 x.2.2.2.2.2.1 v49.2.2.2.2.1))) hP hD hkp hP1
  have hD2 : va_D (fun q : Nat => s.heap.size ≤ q) ((cM E am 0 v51.2.1 v51.2.2.1 y.2.2.1 v51.2.2.2.1 v51.2.2.2.2 y.2.2.2.2.2.1 y.2.2.2.2.2.2.1 y.2.2.2.2.2.2.2.1 y.2.2.2.2.2.2.2.2.1 y.2.2.2.2.2.2.2.2.2.1 y.2.2.2.2.2.2.2.2.2.2.1 y.2.2.2.2.2.2.2.2.2.2.2.1 y.2.2.2.2.2.2.2.2.2.2.2.2.1 y.2.2.2.2.2.2.2.2.2.2.2.2.2.1 y.2.2.2.2.2.2.2.2.2.2.2.2.2.2.1 y.2.2.2.2.2.2.2.2.2.2.2.2.2.2.2.1 y.2.2.2.2.2.2.2.2.2.2.2.2.2.2.2.2.1 y.2.2.2.2.2.2.2.2.2.2.2.2.2.2.2.2.2.1 y.2.2.2.2.2.2.2.2.2.2.2.2.2.2.2.2.2.2.1 y.2.2.2.2.2.2.2.2.2.2.2.2.2.2.2.2.2.2.2.1 y.2.2.2.2.2.2.2.2.2.2.2.2.2.2.2.2.2.2.2.2) ++ ((cOut E qo v49.2.2.2.2.2) ++ (cG E g ad v49.2.1 v49.2.2.1 v49.2.2.2.1 x.2.2.2.1 x.2.2.2.2.1 x.2.2.2.2.2.1 v49.2.2.2.2.1))) := va_D.sameL hD rfl
  clear hP hD hPc hDc hP1 hsz hkp hA1
  revert hS hP2 hD2; generalize H1 = H; intro hS hP hD
  have hP : va_P E.1 vwCl ((cM E am 0 v51.2.1 v51.2.2.1 y.2.2.1 v51.2.2.2.1 v51.2.2.2.2 y.2.2.2.2.2.1 y.2.2.2.2.2.2.1 y.2.2.2.2.2.2.2.1 y.2.2.2.2.2.2.2.2.1 y.2.2.2.2.2.2.2.2.2.1 y.2.2.2.2.2.2.2.2.2.2.1 y.2.2.2.2.2.2.2.2.2.2.2.1 y.2.2.2.2.2.2.2.2.2.2.2.2.1 y.2.2.2.2.2.2.2.2.2.2.2.2.2.1 y.2.2.2.2.2.2.2.2.2.2.2.2.2.2.1 y.2.2.2.2.2.2.2.2.2.2.2.2.2.2.2.1 y.2.2.2.2.2.2.2.2.2.2.2.2.2.2.2.2.1 y.2.2.2.2.2.2.2.2.2.2.2.2.2.2.2.2.2.1 y.2.2.2.2.2.2.2.2.2.2.2.2.2.2.2.2.2.2.1 y.2.2.2.2.2.2.2.2.2.2.2.2.2.2.2.2.2.2.2.1 y.2.2.2.2.2.2.2.2.2.2.2.2.2.2.2.2.2.2.2.2) ++ ((cOut E qo v49.2.2.2.2.2) ++ (cG E g ad v49.2.1 v49.2.2.1 v49.2.2.2.1 x.2.2.2.1 x.2.2.2.2.1 x.2.2.2.2.2.1 v49.2.2.2.2.1))) H := hP
  refine lv_istore (lv' := [(6, .int v51.1), (5, .int v49.1), (0, .ref b), (1, .ref (g 0)), (2, .ref (am 0)), (3, .ref qo), (4, .int l4)]) hx hb dL_law_539 hl (by decide) rfl (fun ls hl => ?_)
  refine lv_aload_n hx hb dL_law_541 rfl (lv_at hl 4 rfl) ?_
  have hPc : va_P E.1 vwCl (cM E am 0 v51.2.1 v51.2.2.1 y.2.2.1 v51.2.2.2.1 v51.2.2.2.2 y.2.2.2.2.2.1 y.2.2.2.2.2.2.1 y.2.2.2.2.2.2.2.1 y.2.2.2.2.2.2.2.2.1 y.2.2.2.2.2.2.2.2.2.1 y.2.2.2.2.2.2.2.2.2.2.1 y.2.2.2.2.2.2.2.2.2.2.2.1 y.2.2.2.2.2.2.2.2.2.2.2.2.1 y.2.2.2.2.2.2.2.2.2.2.2.2.2.1 y.2.2.2.2.2.2.2.2.2.2.2.2.2.2.1 y.2.2.2.2.2.2.2.2.2.2.2.2.2.2.2.1 y.2.2.2.2.2.2.2.2.2.2.2.2.2.2.2.2.1 y.2.2.2.2.2.2.2.2.2.2.2.2.2.2.2.2.2.1 y.2.2.2.2.2.2.2.2.2.2.2.2.2.2.2.2.2.2.1 y.2.2.2.2.2.2.2.2.2.2.2.2.2.2.2.2.2.2.2.1 y.2.2.2.2.2.2.2.2.2.2.2.2.2.2.2.2.2.2.2.2) H := hP.left
  refine g_callR Value.int hf (fun v52 hv => va_runV (As := []) (rest := []) ⟨hx, hb, hml, hown, hts⟩ (c_X6_thrown l E am 0 v51.2.1 v51.2.2.1 y.2.2.1 v51.2.2.2.1 v51.2.2.2.2 y.2.2.2.2.2.1 y.2.2.2.2.2.2.1 y.2.2.2.2.2.2.2.1 y.2.2.2.2.2.2.2.2.1 y.2.2.2.2.2.2.2.2.2.1 y.2.2.2.2.2.2.2.2.2.2.1 y.2.2.2.2.2.2.2.2.2.2.2.1 y.2.2.2.2.2.2.2.2.2.2.2.2.1 y.2.2.2.2.2.2.2.2.2.2.2.2.2.1 y.2.2.2.2.2.2.2.2.2.2.2.2.2.2.1 y.2.2.2.2.2.2.2.2.2.2.2.2.2.2.2.1 y.2.2.2.2.2.2.2.2.2.2.2.2.2.2.2.2.1 y.2.2.2.2.2.2.2.2.2.2.2.2.2.2.2.2.2.1 y.2.2.2.2.2.2.2.2.2.2.2.2.2.2.2.2.2.2.1 y.2.2.2.2.2.2.2.2.2.2.2.2.2.2.2.2.2.2.2.1 y.2.2.2.2.2.2.2.2.2.2.2.2.2.2.2.2.2.2.2.2 v52 hv) (cwV 0 hts (gd_V q246 q247 q248 q5 q249) rfl rfl rfl (by decide +kernel) ⟨Nat.le_of_ble_eq_true rfl, Nat.le_of_ble_eq_true rfl⟩) (g_preV hPc hG rfl rfl) rfl rfl hl.1 rfl (lv_room (Nat.le_of_ble_eq_true rfl)) dL_law_542 ⟨(gRc (by (try dsimp only); omega)), (gRs (by (try dsimp only); omega))⟩) (fun v52 hf => ?_)
  clear hPc
  refine lv_iload hx hb dL_law_545 (lv_at hl 1 rfl) ?_
  refine g_icmp_eq (tgt := 552) hx hb hf dL_law_547 (by decide) (fun hf => ?_) (fun hf => ?_)
  · refine lv_iload hx hb dL_law_552 (lv_at hl 1 rfl) ?_
    refine g_if_ne (tgt := 569) hx hb hf dL_law_554 (by decide) (fun hf => ?_) (fun hf => ?_)
    · exact w_L_law_569 hL C0 hG hT hN hst cells slots hcs hss k23_ hk23_ ad _ _ (v49.2.1, v49.2.2.1, v49.2.2.2.1, x.2.2.2.1, x.2.2.2.2.1, x.2.2.2.2.2.1, v49.2.2.2.2.1) (v51.2.1, v51.2.2.1, y.2.2.1, v51.2.2.2.1, v51.2.2.2.2, y.2.2.2.2.2.1, y.2.2.2.2.2.2.1, y.2.2.2.2.2.2.2.1, y.2.2.2.2.2.2.2.2.1, y.2.2.2.2.2.2.2.2.2.1, y.2.2.2.2.2.2.2.2.2.2.1, y.2.2.2.2.2.2.2.2.2.2.2.1, y.2.2.2.2.2.2.2.2.2.2.2.2.1, y.2.2.2.2.2.2.2.2.2.2.2.2.2.1, y.2.2.2.2.2.2.2.2.2.2.2.2.2.2.1, y.2.2.2.2.2.2.2.2.2.2.2.2.2.2.2.1, y.2.2.2.2.2.2.2.2.2.2.2.2.2.2.2.2.1, y.2.2.2.2.2.2.2.2.2.2.2.2.2.2.2.2.2.1, y.2.2.2.2.2.2.2.2.2.2.2.2.2.2.2.2.2.2.1, y.2.2.2.2.2.2.2.2.2.2.2.2.2.2.2.2.2.2.2.1, y.2.2.2.2.2.2.2.2.2.2.2.2.2.2.2.2.2.2.2.2) v49.2.2.2.2.2 l4 _ hf (lv_sub hl [2, 3, 4, 5, 6] rfl) hP hS hD
    · refine lv_aload_n hx hb dL_law_557 rfl (lv_at hl 5 rfl) ?_
      refine lv_iconst (v := 0) hx hb dL_law_558 (by decide) ?_
      refine g_lald hx hb hG.1 hP 11 rfl hf dL_law_559 (fun v53 hf => ?_)
      refine lv_iload hx hb dL_law_560 (lv_at hl 0 rfl) ?_
      refine lv_i2l (v := (Int32.toInt64 v51.1)) hx hb dL_law_562 rfl ?_
      refine W.lcmp hx hb dL_law_563 ?_
      refine g_if_eq (tgt := 569) hx hb hf dL_law_564 (by decide) (fun hf => ?_) (fun hf => ?_)
      · exact w_L_law_569 hL C0 hG hT hN hst cells slots hcs hss k23_ hk23_ ad _ _ (v49.2.1, v49.2.2.1, v49.2.2.2.1, x.2.2.2.1, x.2.2.2.2.1, x.2.2.2.2.2.1, v49.2.2.2.2.1) (v51.2.1, v51.2.2.1, y.2.2.1, v51.2.2.2.1, v51.2.2.2.2, y.2.2.2.2.2.1, y.2.2.2.2.2.2.1, y.2.2.2.2.2.2.2.1, y.2.2.2.2.2.2.2.2.1, y.2.2.2.2.2.2.2.2.2.1, y.2.2.2.2.2.2.2.2.2.2.1, y.2.2.2.2.2.2.2.2.2.2.2.1, y.2.2.2.2.2.2.2.2.2.2.2.2.1, y.2.2.2.2.2.2.2.2.2.2.2.2.2.1, y.2.2.2.2.2.2.2.2.2.2.2.2.2.2.1, y.2.2.2.2.2.2.2.2.2.2.2.2.2.2.2.1, y.2.2.2.2.2.2.2.2.2.2.2.2.2.2.2.2.1, y.2.2.2.2.2.2.2.2.2.2.2.2.2.2.2.2.2.1, y.2.2.2.2.2.2.2.2.2.2.2.2.2.2.2.2.2.2.1, y.2.2.2.2.2.2.2.2.2.2.2.2.2.2.2.2.2.2.2.1, y.2.2.2.2.2.2.2.2.2.2.2.2.2.2.2.2.2.2.2.2) v49.2.2.2.2.2 l4 _ hf (lv_sub hl [2, 3, 4, 5, 6] rfl) hP hS hD
      · refine lv_iconst (v := 0) hx hb dL_law_567 (by decide) ?_
        cases hf
  · refine lv_iconst (v := 0) hx hb dL_law_550 (by decide) ?_
    cases hf
set_option maxHeartbeats 4000000 in
set_option maxRecDepth 100000 in
theorem w_L_law_649 {p : Program} {l : Launch} {e : Env} {s : State} {m : MethodId} {below : List Frame} {meth : Method} {c : Code} {b L : Nat} {xs : Nat → Int32} {E : gE} {g am : Nat → Nat} {qo : Nat} (hL : L ≤ 2560) (C0 : lw_At p s m meth c b L xs) (hG : gK E s) (hT : gTh (fun q : Nat => s.heap.size ≤ q) s s.heap) (hN : gNc s) (hst : l.stackTraces = false)  (cells slots : Nat) (hcs : cells + 16 ≤ 601000) (hss : slots + 200 ≤ 7293000) (k23_ : TG → TM → (Nat → Int64) → Int32 → Option (Int32)) (hk23_ : ∀ (ad : Nat → Nat → Nat) (H : Heap) (locs : List Loc) (x : TG) (y : TM) (o : Nat → Int64) (l4 : Int32) (ls : Array Slot), k23_ x y o l4 = some 1 → lv_has ls 9 [(0, .ref b), (1, .ref (g 0)), (2, .ref (am 0)), (3, .ref qo), (4, .int l4)] → va_P E.1 vwCl ((cML E am y) ++ ((cOut E qo o) ++ (cGL E g ad x))) H → va_S (fun q : Nat => s.heap.size ≤ q) s.heap H locs → va_D (fun q : Nat => s.heap.size ≤ q) ((cML E am y) ++ ((cOut E qo o) ++ (cGL E g ad x))) → W p l e room_1 s m #[Value.ref b] below meth c H locs (cells + 16) (slots + 200) (lw_Z below #[Value.ref b] s) (F0 m 23 ls [])) : ∀ (ad : Nat → Nat → Nat) (H : Heap) (locs : List Loc) (x : TG) (y : TM) (o : Nat → Int64) (l4 : Int32) (ls : Array Slot), f_L_law_649 xs L k23_ x y o l4 = some 1 → lv_has ls 9 [(0, .ref b), (1, .ref (g 0)), (2, .ref (am 0)), (3, .ref qo), (4, .int l4)] → va_P E.1 vwCl ((cML E am y) ++ ((cOut E qo o) ++ (cGL E g ad x))) H → va_S (fun q : Nat => s.heap.size ≤ q) s.heap H locs → va_D (fun q : Nat => s.heap.size ≤ q) ((cML E am y) ++ ((cOut E qo o) ++ (cGL E g ad x))) → W p l e room_1 s m #[Value.ref b] below meth c H locs (cells + 8) (slots + 82) (lw_Z below #[Value.ref b] s) (F0 m 649 ls []) := by
  obtain ⟨hx, hb, hr, hml, hown, hts0, hX, hbl, hlocks, hgv⟩ := id C0
  have hts := gL_hts hts0
  have hbA : ¬ (fun q : Nat => s.heap.size ≤ q) b := Nat.not_le.mpr hbl
  have hA : ∀ q : Nat, s.heap.size ≤ q → (fun q : Nat => s.heap.size ≤ q) q := fun _ h => h
  intro ad H locs x y o l4 ls hf hl hP hS hD
  unfold f_L_law_649 at hf
  refine lv_goto (tgt := 1526) hx hb dL_law_649 (by decide) ?_
  exact w_L_law_1526 hL C0 hG hT hN hst cells slots hcs hss k23_ hk23_ ad _ _ x y o l4 _ hf hl hP hS hD
set_option maxHeartbeats 4000000 in
set_option maxRecDepth 100000 in
theorem w_L_law_572 {p : Program} {l : Launch} {e : Env} {s : State} {m : MethodId} {below : List Frame} {meth : Method} {c : Code} {b L : Nat} {xs : Nat → Int32} {E : gE} {g am : Nat → Nat} {qo : Nat} (hL : L ≤ 2560) (C0 : lw_At p s m meth c b L xs) (hG : gK E s) (hT : gTh (fun q : Nat => s.heap.size ≤ q) s s.heap) (hN : gNc s) (hst : l.stackTraces = false)  (cells slots : Nat) (hcs : cells + 16 ≤ 601000) (hss : slots + 200 ≤ 7293000) (k23_ : TG → TM → (Nat → Int64) → Int32 → Option (Int32)) (hk23_ : ∀ (ad : Nat → Nat → Nat) (H : Heap) (locs : List Loc) (x : TG) (y : TM) (o : Nat → Int64) (l4 : Int32) (ls : Array Slot), k23_ x y o l4 = some 1 → lv_has ls 9 [(0, .ref b), (1, .ref (g 0)), (2, .ref (am 0)), (3, .ref qo), (4, .int l4)] → va_P E.1 vwCl ((cML E am y) ++ ((cOut E qo o) ++ (cGL E g ad x))) H → va_S (fun q : Nat => s.heap.size ≤ q) s.heap H locs → va_D (fun q : Nat => s.heap.size ≤ q) ((cML E am y) ++ ((cOut E qo o) ++ (cGL E g ad x))) → W p l e room_1 s m #[Value.ref b] below meth c H locs (cells + 16) (slots + 200) (lw_Z below #[Value.ref b] s) (F0 m 23 ls [])) : ∀ (ad : Nat → Nat → Nat) (H : Heap) (locs : List Loc) (x : TG) (y : TM) (o : Nat → Int64) (l4 : Int32) (ls : Array Slot), f_L_law_572 xs L k23_ x y o l4 = some 1 → lv_has ls 9 [(0, .ref b), (1, .ref (g 0)), (2, .ref (am 0)), (3, .ref qo), (4, .int l4)] → va_P E.1 vwCl ((cML E am y) ++ ((cOut E qo o) ++ (cGL E g ad x))) H → va_S (fun q : Nat => s.heap.size ≤ q) s.heap H locs → va_D (fun q : Nat => s.heap.size ≤ q) ((cML E am y) ++ ((cOut E qo o) ++ (cGL E g ad x))) → W p l e room_1 s m #[Value.ref b] below meth c H locs cells slots (lw_Z below #[Value.ref b] s) (F0 m 572 ls []) := by
  obtain ⟨hx, hb, hr, hml, hown, hts0, hX, hbl, hlocks, hgv⟩ := id C0
  have hts := gL_hts hts0
  have hbA : ¬ (fun q : Nat => s.heap.size ≤ q) b := Nat.not_le.mpr hbl
  have hA : ∀ q : Nat, s.heap.size ≤ q → (fun q : Nat => s.heap.size ≤ q) q := fun _ h => h
  intro ad H locs x y o l4 ls hf hl hP hS hD
  unfold f_L_law_572 at hf
  refine lv_aload_n hx hb dL_law_572 rfl (lv_at hl 1 rfl) ?_
  refine lv_aload_n hx hb dL_law_573 rfl (lv_at hl 0 rfl) ?_
  refine lv_iload hx hb dL_law_574 (lv_at hl 4 rfl) ?_
  refine lv_iconst (v := 1) hx hb dL_law_576 (by decide) ?_
  refine lv_iadd hx hb dL_law_577 ?_
  refine g_sld hx hb hX hbl hbA hS hf dL_law_578 (fun v54 hf => ?_)
  refine lv_aload_n hx hb dL_law_579 rfl (lv_at hl 0 rfl) ?_
  refine lv_iload hx hb dL_law_580 (lv_at hl 4 rfl) ?_
  refine lv_iconst (v := 2) hx hb dL_law_582 (by decide) ?_
  refine lv_iadd hx hb dL_law_583 ?_
  refine g_sld hx hb hX hbl hbA hS hf dL_law_584 (fun v55 hf => ?_)
  refine lv_aload_n hx hb dL_law_585 rfl (lv_at hl 0 rfl) ?_
  refine lv_iload hx hb dL_law_586 (lv_at hl 4 rfl) ?_
  refine lv_iconst (v := 3) hx hb dL_law_588 (by decide) ?_
  refine lv_iadd hx hb dL_law_589 ?_
  refine g_sld hx hb hX hbl hbA hS hf dL_law_590 (fun v56 hf => ?_)
  refine lv_aload_n hx hb dL_law_591 rfl (lv_at hl 3 rfl) ?_
  have hA1 : ∀ q : Nat, Array.size H ≤ q → (fun q : Nat => s.heap.size ≤ q) q := fun q h => Nat.le_trans hS.1 h
  have hPc : va_P E.1 vwCl ((cOut E qo o) ++ (cGL E g ad x)) H := hP.right
  have hDc : va_D (fun q : Nat => s.heap.size ≤ q) ((cOut E qo o) ++ (cGL E g ad x)) := hD.right
  refine g_callA2 (fun v57 => some (.int v57.1)) (fun v57 ad => ((cOut E qo v57.2.2.2.2.2) ++ (cG E g ad v57.2.1 v57.2.2.1 v57.2.2.2.1 x.2.2.2.1 x.2.2.2.2.1 x.2.2.2.2.2.1 v57.2.2.2.2.1))) hf (fun v57 hv => vx_runSW (As := [.ref (g 0), .int v54, .int v55, .int v56, .ref qo]) (rest := []) ⟨hx, hb, hml, hown, hts⟩ (c_L_goal l E g ad qo x.1 x.2.1 x.2.2.1 x.2.2.2.1 x.2.2.2.2.1 x.2.2.2.2.2.1 x.2.2.2.2.2.2 o v54 v55 v56 hst _ v57 hv) (vx_cwSW 5 hts (gd_SH q417 q418 qRL q419) rfl rfl rfl (by decide +kernel) ⟨Nat.le_of_ble_eq_true rfl, Nat.le_of_ble_eq_true rfl⟩) (g_preSl hPc hDc hG hT hN hS (va_A.all hDc hA1)) rfl rfl hl.1 rfl (lv_room (Nat.le_of_ble_eq_true rfl)) dL_law_592 ⟨(gRc (by (try dsimp only); omega)), (gRs (by (try dsimp only); omega))⟩) hS (va_A.all hDc hA1) (va_A.all hDc hA1) (fun v57 ad H1 locs hf hP1 hD1 hkp hS => ?_)
  obtain ⟨hP2, hD2⟩ := join_end hP hD hA1 hkp hP1 hD1
  clear hP hD hPc hDc hP1 hD1 hkp hA1
  revert hS hP2 hD2; generalize H1 = H; intro hS hP hD
  have hP : va_P E.1 vwCl ((cML E am y) ++ ((cOut E qo v57.2.2.2.2.2) ++ (cG E g ad v57.2.1 v57.2.2.1 v57.2.2.2.1 x.2.2.2.1 x.2.2.2.2.1 x.2.2.2.2.2.1 v57.2.2.2.2.1))) H := hP
  have hD : va_D (fun q : Nat => s.heap.size ≤ q) ((cML E am y) ++ ((cOut E qo v57.2.2.2.2.2) ++ (cG E g ad v57.2.1 v57.2.2.1 v57.2.2.2.1 x.2.2.2.1 x.2.2.2.2.1 x.2.2.2.2.2.1 v57.2.2.2.2.1))) := hD
  refine W.widen (k := cells + 8) (n := slots + 82) (by (try dsimp only); omega) (by (try dsimp only); omega) ?_
  refine lv_istore (lv' := [(5, .int v57.1), (0, .ref b), (1, .ref (g 0)), (2, .ref (am 0)), (3, .ref qo), (4, .int l4)]) hx hb dL_law_595 hl (by decide) rfl (fun ls hl => ?_)
  refine lv_aload_n hx hb dL_law_597 rfl (lv_at hl 3 rfl) ?_
  refine lv_aload_n hx hb dL_law_598 rfl (lv_at hl 1 rfl) ?_
  refine lv_iload hx hb dL_law_599 (lv_at hl 5 rfl) ?_
  refine lv_iconst (v := 1) hx hb dL_law_601 (by decide) ?_
  refine lv_iadd hx hb dL_law_602 ?_
  refine g_sld hx hb hX hbl hbA hS hf dL_law_603 (fun v58 hf => ?_)
  refine lv_aload_n hx hb dL_law_604 rfl (lv_at hl 1 rfl) ?_
  refine lv_iload hx hb dL_law_605 (lv_at hl 5 rfl) ?_
  refine lv_iconst (v := 2) hx hb dL_law_607 (by decide) ?_
  refine lv_iadd hx hb dL_law_608 ?_
  refine g_sld hx hb hX hbl hbA hS hf dL_law_609 (fun v59 hf => ?_)
  refine lv_aload_n hx hb dL_law_610 rfl (lv_at hl 1 rfl) ?_
  refine lv_iload hx hb dL_law_611 (lv_at hl 5 rfl) ?_
  refine lv_iconst (v := 3) hx hb dL_law_613 (by decide) ?_
  refine lv_iadd hx hb dL_law_614 ?_
  refine g_sld hx hb hX hbl hbA hS hf dL_law_615 (fun v60 hf => ?_)
  have hPc : va_P E.1 vwCl (cML E am y) H := hP.left
  have hA1 : ∀ q : Nat, Array.size H ≤ q → (fun q : Nat => s.heap.size ≤ q) q := fun q h => Nat.le_trans hS.1 h
  have hDc : va_D (fun q : Nat => s.heap.size ≤ q) (cML E am y) := hD.left
  refine g_callMi (fun v61 => .int v61.1) (fun v61 => (cM E am 0 v61.2.1 v61.2.2.1 y.2.2.1 v61.2.2.2.1 v61.2.2.2.2.1 y.2.2.2.2.2.1 y.2.2.2.2.2.2.1 v61.2.2.2.2.2.1 v61.2.2.2.2.2.2.1 v61.2.2.2.2.2.2.2.1 v61.2.2.2.2.2.2.2.2.1 v61.2.2.2.2.2.2.2.2.2.1 v61.2.2.2.2.2.2.2.2.2.2 y.2.2.2.2.2.2.2.2.2.2.2.2.2.1 y.2.2.2.2.2.2.2.2.2.2.2.2.2.2.1 y.2.2.2.2.2.2.2.2.2.2.2.2.2.2.2.1 y.2.2.2.2.2.2.2.2.2.2.2.2.2.2.2.2.1 y.2.2.2.2.2.2.2.2.2.2.2.2.2.2.2.2.2.1 y.2.2.2.2.2.2.2.2.2.2.2.2.2.2.2.2.2.2.1 y.2.2.2.2.2.2.2.2.2.2.2.2.2.2.2.2.2.2.2.1 y.2.2.2.2.2.2.2.2.2.2.2.2.2.2.2.2.2.2.2.2)) hf (fun v61 hv => va_runV (As := [.int v58, .int v59, .int v60]) (rest := []) ⟨hx, hb, hml, hown, hts⟩ (c_X6_goal l E am 0 y.1 y.2.1 y.2.2.1 y.2.2.2.1 y.2.2.2.2.1 y.2.2.2.2.2.1 y.2.2.2.2.2.2.1 y.2.2.2.2.2.2.2.1 y.2.2.2.2.2.2.2.2.1 y.2.2.2.2.2.2.2.2.2.1 y.2.2.2.2.2.2.2.2.2.2.1 y.2.2.2.2.2.2.2.2.2.2.2.1 y.2.2.2.2.2.2.2.2.2.2.2.2.1 y.2.2.2.2.2.2.2.2.2.2.2.2.2.1 y.2.2.2.2.2.2.2.2.2.2.2.2.2.2.1 y.2.2.2.2.2.2.2.2.2.2.2.2.2.2.2.1 y.2.2.2.2.2.2.2.2.2.2.2.2.2.2.2.2.1 y.2.2.2.2.2.2.2.2.2.2.2.2.2.2.2.2.2.1 y.2.2.2.2.2.2.2.2.2.2.2.2.2.2.2.2.2.2.1 y.2.2.2.2.2.2.2.2.2.2.2.2.2.2.2.2.2.2.2.1 y.2.2.2.2.2.2.2.2.2.2.2.2.2.2.2.2.2.2.2.2 v58 v59 v60 _ v61 hv) (cwV 3 hts (gd_V q433 q434 q435 q5 q436) rfl rfl rfl (by decide +kernel) ⟨Nat.le_of_ble_eq_true rfl, Nat.le_of_ble_eq_true rfl⟩) (g_preVm hPc hDc hG rfl rfl) rfl rfl hl.1 rfl (lv_room (Nat.le_of_ble_eq_true rfl)) dL_law_616 ⟨(gRc (by (try dsimp only); omega)), (gRs (by (try dsimp only); omega))⟩) hS (va_A.all hDc hA1) (va_A.all hDc hA1) (fun v61 H1 locs hf hP1 hsz hkp hS => ?_)
  have hP2 := put_mid (X := []) (C := (cML E am y)) (Y := ((cOut E qo v57.2.2.2.2.2) ++ (cG E g ad v57.2.1 v57.2.2.1 v57.2.2.2.1 x.2.2.2.1 x.2.2.2.2.1 x.2.2.2.2.2.1 v57.2.2.2.2.1))) hP hD hkp hP1
  have hD2 : va_D (fun q : Nat => s.heap.size ≤ q) ((cM E am 0 v61.2.1 v61.2.2.1 y.2.2.1 v61.2.2.2.1 v61.2.2.2.2.1 y.2.2.2.2.2.1 y.2.2.2.2.2.2.1 v61.2.2.2.2.2.1 v61.2.2.2.2.2.2.1 v61.2.2.2.2.2.2.2.1 v61.2.2.2.2.2.2.2.2.1 v61.2.2.2.2.2.2.2.2.2.1 v61.2.2.2.2.2.2.2.2.2.2 y.2.2.2.2.2.2.2.2.2.2.2.2.2.1 y.2.2.2.2.2.2.2.2.2.2.2.2.2.2.1 y.2.2.2.2.2.2.2.2.2.2.2.2.2.2.2.1 y.2.2.2.2.2.2.2.2.2.2.2.2.2.2.2.2.1 y.2.2.2.2.2.2.2.2.2.2.2.2.2.2.2.2.2.1 y.2.2.2.2.2.2.2.2.2.2.2.2.2.2.2.2.2.2.1 y.2.2.2.2.2.2.2.2.2.2.2.2.2.2.2.2.2.2.2.1 y.2.2.2.2.2.2.2.2.2.2.2.2.2.2.2.2.2.2.2.2) ++ ((cOut E qo v57.2.2.2.2.2) ++ (cG E g ad v57.2.1 v57.2.2.1 v57.2.2.2.1 x.2.2.2.1 x.2.2.2.2.1 x.2.2.2.2.2.1 v57.2.2.2.2.1))) := va_D.sameL hD rfl
  clear hP hD hPc hDc hP1 hsz hkp hA1
  revert hS hP2 hD2; generalize H1 = H; intro hS hP hD
  have hP : va_P E.1 vwCl ((cM E am 0 v61.2.1 v61.2.2.1 y.2.2.1 v61.2.2.2.1 v61.2.2.2.2.1 y.2.2.2.2.2.1 y.2.2.2.2.2.2.1 v61.2.2.2.2.2.1 v61.2.2.2.2.2.2.1 v61.2.2.2.2.2.2.2.1 v61.2.2.2.2.2.2.2.2.1 v61.2.2.2.2.2.2.2.2.2.1 v61.2.2.2.2.2.2.2.2.2.2 y.2.2.2.2.2.2.2.2.2.2.2.2.2.1 y.2.2.2.2.2.2.2.2.2.2.2.2.2.2.1 y.2.2.2.2.2.2.2.2.2.2.2.2.2.2.2.1 y.2.2.2.2.2.2.2.2.2.2.2.2.2.2.2.2.1 y.2.2.2.2.2.2.2.2.2.2.2.2.2.2.2.2.2.1 y.2.2.2.2.2.2.2.2.2.2.2.2.2.2.2.2.2.2.1 y.2.2.2.2.2.2.2.2.2.2.2.2.2.2.2.2.2.2.2.1 y.2.2.2.2.2.2.2.2.2.2.2.2.2.2.2.2.2.2.2.2) ++ ((cOut E qo v57.2.2.2.2.2) ++ (cG E g ad v57.2.1 v57.2.2.1 v57.2.2.2.1 x.2.2.2.1 x.2.2.2.2.1 x.2.2.2.2.2.1 v57.2.2.2.2.1))) H := hP
  refine lv_istore (lv' := [(6, .int v61.1), (5, .int v57.1), (0, .ref b), (1, .ref (g 0)), (2, .ref (am 0)), (3, .ref qo), (4, .int l4)]) hx hb dL_law_619 hl (by decide) rfl (fun ls hl => ?_)
  refine lv_aload_n hx hb dL_law_621 rfl (lv_at hl 4 rfl) ?_
  have hPc : va_P E.1 vwCl (cM E am 0 v61.2.1 v61.2.2.1 y.2.2.1 v61.2.2.2.1 v61.2.2.2.2.1 y.2.2.2.2.2.1 y.2.2.2.2.2.2.1 v61.2.2.2.2.2.1 v61.2.2.2.2.2.2.1 v61.2.2.2.2.2.2.2.1 v61.2.2.2.2.2.2.2.2.1 v61.2.2.2.2.2.2.2.2.2.1 v61.2.2.2.2.2.2.2.2.2.2 y.2.2.2.2.2.2.2.2.2.2.2.2.2.1 y.2.2.2.2.2.2.2.2.2.2.2.2.2.2.1 y.2.2.2.2.2.2.2.2.2.2.2.2.2.2.2.1 y.2.2.2.2.2.2.2.2.2.2.2.2.2.2.2.2.1 y.2.2.2.2.2.2.2.2.2.2.2.2.2.2.2.2.2.1 y.2.2.2.2.2.2.2.2.2.2.2.2.2.2.2.2.2.2.1 y.2.2.2.2.2.2.2.2.2.2.2.2.2.2.2.2.2.2.2.1 y.2.2.2.2.2.2.2.2.2.2.2.2.2.2.2.2.2.2.2.2) H := hP.left
  refine g_callR Value.int hf (fun v62 hv => va_runV (As := []) (rest := []) ⟨hx, hb, hml, hown, hts⟩ (c_X6_thrown l E am 0 v61.2.1 v61.2.2.1 y.2.2.1 v61.2.2.2.1 v61.2.2.2.2.1 y.2.2.2.2.2.1 y.2.2.2.2.2.2.1 v61.2.2.2.2.2.1 v61.2.2.2.2.2.2.1 v61.2.2.2.2.2.2.2.1 v61.2.2.2.2.2.2.2.2.1 v61.2.2.2.2.2.2.2.2.2.1 v61.2.2.2.2.2.2.2.2.2.2 y.2.2.2.2.2.2.2.2.2.2.2.2.2.1 y.2.2.2.2.2.2.2.2.2.2.2.2.2.2.1 y.2.2.2.2.2.2.2.2.2.2.2.2.2.2.2.1 y.2.2.2.2.2.2.2.2.2.2.2.2.2.2.2.2.1 y.2.2.2.2.2.2.2.2.2.2.2.2.2.2.2.2.2.1 y.2.2.2.2.2.2.2.2.2.2.2.2.2.2.2.2.2.2.1 y.2.2.2.2.2.2.2.2.2.2.2.2.2.2.2.2.2.2.2.1 y.2.2.2.2.2.2.2.2.2.2.2.2.2.2.2.2.2.2.2.2 v62 hv) (cwV 0 hts (gd_V q246 q247 q248 q5 q249) rfl rfl rfl (by decide +kernel) ⟨Nat.le_of_ble_eq_true rfl, Nat.le_of_ble_eq_true rfl⟩) (g_preV hPc hG rfl rfl) rfl rfl hl.1 rfl (lv_room (Nat.le_of_ble_eq_true rfl)) dL_law_622 ⟨(gRc (by (try dsimp only); omega)), (gRs (by (try dsimp only); omega))⟩) (fun v62 hf => ?_)
  clear hPc
  refine lv_iload hx hb dL_law_625 (lv_at hl 1 rfl) ?_
  refine g_icmp_eq (tgt := 632) hx hb hf dL_law_627 (by decide) (fun hf => ?_) (fun hf => ?_)
  · refine lv_iload hx hb dL_law_632 (lv_at hl 1 rfl) ?_
    refine g_if_ne (tgt := 649) hx hb hf dL_law_634 (by decide) (fun hf => ?_) (fun hf => ?_)
    · exact w_L_law_649 hL C0 hG hT hN hst cells slots hcs hss k23_ hk23_ ad _ _ (v57.2.1, v57.2.2.1, v57.2.2.2.1, x.2.2.2.1, x.2.2.2.2.1, x.2.2.2.2.2.1, v57.2.2.2.2.1) (v61.2.1, v61.2.2.1, y.2.2.1, v61.2.2.2.1, v61.2.2.2.2.1, y.2.2.2.2.2.1, y.2.2.2.2.2.2.1, v61.2.2.2.2.2.1, v61.2.2.2.2.2.2.1, v61.2.2.2.2.2.2.2.1, v61.2.2.2.2.2.2.2.2.1, v61.2.2.2.2.2.2.2.2.2.1, v61.2.2.2.2.2.2.2.2.2.2, y.2.2.2.2.2.2.2.2.2.2.2.2.2.1, y.2.2.2.2.2.2.2.2.2.2.2.2.2.2.1, y.2.2.2.2.2.2.2.2.2.2.2.2.2.2.2.1, y.2.2.2.2.2.2.2.2.2.2.2.2.2.2.2.2.1, y.2.2.2.2.2.2.2.2.2.2.2.2.2.2.2.2.2.1, y.2.2.2.2.2.2.2.2.2.2.2.2.2.2.2.2.2.2.1, y.2.2.2.2.2.2.2.2.2.2.2.2.2.2.2.2.2.2.2.1, y.2.2.2.2.2.2.2.2.2.2.2.2.2.2.2.2.2.2.2.2) v57.2.2.2.2.2 l4 _ hf (lv_sub hl [2, 3, 4, 5, 6] rfl) hP hS hD
    · refine lv_aload_n hx hb dL_law_637 rfl (lv_at hl 5 rfl) ?_
      refine lv_iconst (v := 0) hx hb dL_law_638 (by decide) ?_
      refine g_lald hx hb hG.1 hP 11 rfl hf dL_law_639 (fun v63 hf => ?_)
      refine lv_iload hx hb dL_law_640 (lv_at hl 0 rfl) ?_
      refine lv_i2l (v := (Int32.toInt64 v61.1)) hx hb dL_law_642 rfl ?_
      refine W.lcmp hx hb dL_law_643 ?_
      refine g_if_eq (tgt := 649) hx hb hf dL_law_644 (by decide) (fun hf => ?_) (fun hf => ?_)
      · exact w_L_law_649 hL C0 hG hT hN hst cells slots hcs hss k23_ hk23_ ad _ _ (v57.2.1, v57.2.2.1, v57.2.2.2.1, x.2.2.2.1, x.2.2.2.2.1, x.2.2.2.2.2.1, v57.2.2.2.2.1) (v61.2.1, v61.2.2.1, y.2.2.1, v61.2.2.2.1, v61.2.2.2.2.1, y.2.2.2.2.2.1, y.2.2.2.2.2.2.1, v61.2.2.2.2.2.1, v61.2.2.2.2.2.2.1, v61.2.2.2.2.2.2.2.1, v61.2.2.2.2.2.2.2.2.1, v61.2.2.2.2.2.2.2.2.2.1, v61.2.2.2.2.2.2.2.2.2.2, y.2.2.2.2.2.2.2.2.2.2.2.2.2.1, y.2.2.2.2.2.2.2.2.2.2.2.2.2.2.1, y.2.2.2.2.2.2.2.2.2.2.2.2.2.2.2.1, y.2.2.2.2.2.2.2.2.2.2.2.2.2.2.2.2.1, y.2.2.2.2.2.2.2.2.2.2.2.2.2.2.2.2.2.1, y.2.2.2.2.2.2.2.2.2.2.2.2.2.2.2.2.2.2.1, y.2.2.2.2.2.2.2.2.2.2.2.2.2.2.2.2.2.2.2.1, y.2.2.2.2.2.2.2.2.2.2.2.2.2.2.2.2.2.2.2.2) v57.2.2.2.2.2 l4 _ hf (lv_sub hl [2, 3, 4, 5, 6] rfl) hP hS hD
      · refine lv_iconst (v := 0) hx hb dL_law_647 (by decide) ?_
        cases hf
  · refine lv_iconst (v := 0) hx hb dL_law_630 (by decide) ?_
    cases hf
set_option maxHeartbeats 4000000 in
set_option maxRecDepth 100000 in
theorem w_L_law_705 {p : Program} {l : Launch} {e : Env} {s : State} {m : MethodId} {below : List Frame} {meth : Method} {c : Code} {b L : Nat} {xs : Nat → Int32} {E : gE} {g am : Nat → Nat} {qo : Nat} (hL : L ≤ 2560) (C0 : lw_At p s m meth c b L xs) (hG : gK E s) (hT : gTh (fun q : Nat => s.heap.size ≤ q) s s.heap) (hN : gNc s) (hst : l.stackTraces = false)  (cells slots : Nat) (hcs : cells + 16 ≤ 601000) (hss : slots + 200 ≤ 7293000) (k23_ : TG → TM → (Nat → Int64) → Int32 → Option (Int32)) (hk23_ : ∀ (ad : Nat → Nat → Nat) (H : Heap) (locs : List Loc) (x : TG) (y : TM) (o : Nat → Int64) (l4 : Int32) (ls : Array Slot), k23_ x y o l4 = some 1 → lv_has ls 9 [(0, .ref b), (1, .ref (g 0)), (2, .ref (am 0)), (3, .ref qo), (4, .int l4)] → va_P E.1 vwCl ((cML E am y) ++ ((cOut E qo o) ++ (cGL E g ad x))) H → va_S (fun q : Nat => s.heap.size ≤ q) s.heap H locs → va_D (fun q : Nat => s.heap.size ≤ q) ((cML E am y) ++ ((cOut E qo o) ++ (cGL E g ad x))) → W p l e room_1 s m #[Value.ref b] below meth c H locs (cells + 16) (slots + 200) (lw_Z below #[Value.ref b] s) (F0 m 23 ls [])) : ∀ (ad : Nat → Nat → Nat) (H : Heap) (locs : List Loc) (x : TG) (y : TM) (o : Nat → Int64) (l4 : Int32) (ls : Array Slot), f_L_law_705 xs L k23_ x y o l4 = some 1 → lv_has ls 9 [(0, .ref b), (1, .ref (g 0)), (2, .ref (am 0)), (3, .ref qo), (4, .int l4)] → va_P E.1 vwCl ((cML E am y) ++ ((cOut E qo o) ++ (cGL E g ad x))) H → va_S (fun q : Nat => s.heap.size ≤ q) s.heap H locs → va_D (fun q : Nat => s.heap.size ≤ q) ((cML E am y) ++ ((cOut E qo o) ++ (cGL E g ad x))) → W p l e room_1 s m #[Value.ref b] below meth c H locs (cells + 6) (slots + 70) (lw_Z below #[Value.ref b] s) (F0 m 705 ls []) := by
  obtain ⟨hx, hb, hr, hml, hown, hts0, hX, hbl, hlocks, hgv⟩ := id C0
  have hts := gL_hts hts0
  have hbA : ¬ (fun q : Nat => s.heap.size ≤ q) b := Nat.not_le.mpr hbl
  have hA : ∀ q : Nat, s.heap.size ≤ q → (fun q : Nat => s.heap.size ≤ q) q := fun _ h => h
  intro ad H locs x y o l4 ls hf hl hP hS hD
  unfold f_L_law_705 at hf
  refine lv_goto (tgt := 1526) hx hb dL_law_705 (by decide) ?_
  refine W.widen (k := (cells + 8)) (n := (slots + 82)) (by (try dsimp only); omega) (by (try dsimp only); omega) ?_
  exact w_L_law_1526 hL C0 hG hT hN hst cells slots hcs hss k23_ hk23_ ad _ _ x y o l4 _ hf hl hP hS hD
set_option maxHeartbeats 4000000 in
set_option maxRecDepth 100000 in
theorem w_L_law_652 {p : Program} {l : Launch} {e : Env} {s : State} {m : MethodId} {below : List Frame} {meth : Method} {c : Code} {b L : Nat} {xs : Nat → Int32} {E : gE} {g am : Nat → Nat} {qo : Nat} (hL : L ≤ 2560) (C0 : lw_At p s m meth c b L xs) (hG : gK E s) (hT : gTh (fun q : Nat => s.heap.size ≤ q) s s.heap) (hN : gNc s) (hst : l.stackTraces = false)  (cells slots : Nat) (hcs : cells + 16 ≤ 601000) (hss : slots + 200 ≤ 7293000) (k23_ : TG → TM → (Nat → Int64) → Int32 → Option (Int32)) (hk23_ : ∀ (ad : Nat → Nat → Nat) (H : Heap) (locs : List Loc) (x : TG) (y : TM) (o : Nat → Int64) (l4 : Int32) (ls : Array Slot), k23_ x y o l4 = some 1 → lv_has ls 9 [(0, .ref b), (1, .ref (g 0)), (2, .ref (am 0)), (3, .ref qo), (4, .int l4)] → va_P E.1 vwCl ((cML E am y) ++ ((cOut E qo o) ++ (cGL E g ad x))) H → va_S (fun q : Nat => s.heap.size ≤ q) s.heap H locs → va_D (fun q : Nat => s.heap.size ≤ q) ((cML E am y) ++ ((cOut E qo o) ++ (cGL E g ad x))) → W p l e room_1 s m #[Value.ref b] below meth c H locs (cells + 16) (slots + 200) (lw_Z below #[Value.ref b] s) (F0 m 23 ls [])) : ∀ (ad : Nat → Nat → Nat) (H : Heap) (locs : List Loc) (x : TG) (y : TM) (o : Nat → Int64) (l4 : Int32) (ls : Array Slot), f_L_law_652 xs L k23_ x y o l4 = some 1 → lv_has ls 9 [(0, .ref b), (1, .ref (g 0)), (2, .ref (am 0)), (3, .ref qo), (4, .int l4)] → va_P E.1 vwCl ((cML E am y) ++ ((cOut E qo o) ++ (cGL E g ad x))) H → va_S (fun q : Nat => s.heap.size ≤ q) s.heap H locs → va_D (fun q : Nat => s.heap.size ≤ q) ((cML E am y) ++ ((cOut E qo o) ++ (cGL E g ad x))) → W p l e room_1 s m #[Value.ref b] below meth c H locs cells slots (lw_Z below #[Value.ref b] s) (F0 m 652 ls []) := by
  obtain ⟨hx, hb, hr, hml, hown, hts0, hX, hbl, hlocks, hgv⟩ := id C0
  have hts := gL_hts hts0
  have hbA : ¬ (fun q : Nat => s.heap.size ≤ q) b := Nat.not_le.mpr hbl
  have hA : ∀ q : Nat, s.heap.size ≤ q → (fun q : Nat => s.heap.size ≤ q) q := fun _ h => h
  intro ad H locs x y o l4 ls hf hl hP hS hD
  unfold f_L_law_652 at hf
  refine lv_aload_n hx hb dL_law_652 rfl (lv_at hl 1 rfl) ?_
  refine lv_aload_n hx hb dL_law_653 rfl (lv_at hl 0 rfl) ?_
  refine lv_iload hx hb dL_law_654 (lv_at hl 4 rfl) ?_
  refine lv_iconst (v := 1) hx hb dL_law_656 (by decide) ?_
  refine lv_iadd hx hb dL_law_657 ?_
  refine g_sld hx hb hX hbl hbA hS hf dL_law_658 (fun v64 hf => ?_)
  refine lv_aload_n hx hb dL_law_659 rfl (lv_at hl 3 rfl) ?_
  have hA1 : ∀ q : Nat, Array.size H ≤ q → (fun q : Nat => s.heap.size ≤ q) q := fun q h => Nat.le_trans hS.1 h
  have hPc : va_P E.1 vwCl ((cOut E qo o) ++ (cGL E g ad x)) H := hP.right
  have hDc : va_D (fun q : Nat => s.heap.size ≤ q) ((cOut E qo o) ++ (cGL E g ad x)) := hD.right
  refine g_callA2 (fun v65 => some (.int v65.1)) (fun v65 ad => ((cOut E qo v65.2.2.2.2.2) ++ (cG E g ad v65.2.1 v65.2.2.1 v65.2.2.2.1 x.2.2.2.1 x.2.2.2.2.1 x.2.2.2.2.2.1 v65.2.2.2.2.1))) hf (fun v65 hv => vx_runSW (As := [.ref (g 0), .int v64, .ref qo]) (rest := []) ⟨hx, hb, hml, hown, hts⟩ (c_L_set l E g ad qo x.1 x.2.1 x.2.2.1 x.2.2.2.1 x.2.2.2.2.1 x.2.2.2.2.2.1 x.2.2.2.2.2.2 o v64 hst _ v65 hv) (vx_cwSW 3 hts (gd_SH q456 q457 qRL q458) rfl rfl rfl (by decide +kernel) ⟨Nat.le_of_ble_eq_true rfl, Nat.le_of_ble_eq_true rfl⟩) (g_preSl hPc hDc hG hT hN hS (va_A.all hDc hA1)) rfl rfl hl.1 rfl (lv_room (Nat.le_of_ble_eq_true rfl)) dL_law_660 ⟨(gRc (by (try dsimp only); omega)), (gRs (by (try dsimp only); omega))⟩) hS (va_A.all hDc hA1) (va_A.all hDc hA1) (fun v65 ad H1 locs hf hP1 hD1 hkp hS => ?_)
  obtain ⟨hP2, hD2⟩ := join_end hP hD hA1 hkp hP1 hD1
  clear hP hD hPc hDc hP1 hD1 hkp hA1
  revert hS hP2 hD2; generalize H1 = H; intro hS hP hD
  have hP : va_P E.1 vwCl ((cML E am y) ++ ((cOut E qo v65.2.2.2.2.2) ++ (cG E g ad v65.2.1 v65.2.2.1 v65.2.2.2.1 x.2.2.2.1 x.2.2.2.2.1 x.2.2.2.2.2.1 v65.2.2.2.2.1))) H := hP
  have hD : va_D (fun q : Nat => s.heap.size ≤ q) ((cML E am y) ++ ((cOut E qo v65.2.2.2.2.2) ++ (cG E g ad v65.2.1 v65.2.2.1 v65.2.2.2.1 x.2.2.2.1 x.2.2.2.2.1 x.2.2.2.2.2.1 v65.2.2.2.2.1))) := hD
  refine W.widen (k := cells + 6) (n := slots + 70) (by (try dsimp only); omega) (by (try dsimp only); omega) ?_
  refine lv_istore (lv' := [(5, .int v65.1), (0, .ref b), (1, .ref (g 0)), (2, .ref (am 0)), (3, .ref qo), (4, .int l4)]) hx hb dL_law_663 hl (by decide) rfl (fun ls hl => ?_)
  refine lv_aload_n hx hb dL_law_665 rfl (lv_at hl 3 rfl) ?_
  refine lv_aload_n hx hb dL_law_666 rfl (lv_at hl 1 rfl) ?_
  refine lv_iload hx hb dL_law_667 (lv_at hl 5 rfl) ?_
  refine lv_iconst (v := 1) hx hb dL_law_669 (by decide) ?_
  refine lv_iadd hx hb dL_law_670 ?_
  refine g_sld hx hb hX hbl hbA hS hf dL_law_671 (fun v66 hf => ?_)
  have hPc : va_P E.1 vwCl (cML E am y) H := hP.left
  have hA1 : ∀ q : Nat, Array.size H ≤ q → (fun q : Nat => s.heap.size ≤ q) q := fun q h => Nat.le_trans hS.1 h
  have hDc : va_D (fun q : Nat => s.heap.size ≤ q) (cML E am y) := hD.left
  refine g_callMi (fun v67 => .int v67.1) (fun v67 => (cM E am 0 v67.2.1 v67.2.2.1 y.2.2.1 v67.2.2.2.1 v67.2.2.2.2 y.2.2.2.2.2.1 y.2.2.2.2.2.2.1 y.2.2.2.2.2.2.2.1 y.2.2.2.2.2.2.2.2.1 y.2.2.2.2.2.2.2.2.2.1 y.2.2.2.2.2.2.2.2.2.2.1 y.2.2.2.2.2.2.2.2.2.2.2.1 y.2.2.2.2.2.2.2.2.2.2.2.2.1 y.2.2.2.2.2.2.2.2.2.2.2.2.2.1 y.2.2.2.2.2.2.2.2.2.2.2.2.2.2.1 y.2.2.2.2.2.2.2.2.2.2.2.2.2.2.2.1 y.2.2.2.2.2.2.2.2.2.2.2.2.2.2.2.2.1 y.2.2.2.2.2.2.2.2.2.2.2.2.2.2.2.2.2.1 y.2.2.2.2.2.2.2.2.2.2.2.2.2.2.2.2.2.2.1 y.2.2.2.2.2.2.2.2.2.2.2.2.2.2.2.2.2.2.2.1 y.2.2.2.2.2.2.2.2.2.2.2.2.2.2.2.2.2.2.2.2)) hf (fun v67 hv => va_runV (As := [.int v66]) (rest := []) ⟨hx, hb, hml, hown, hts⟩ (c_X6_set l E am 0 y.1 y.2.1 y.2.2.1 y.2.2.2.1 y.2.2.2.2.1 y.2.2.2.2.2.1 y.2.2.2.2.2.2.1 y.2.2.2.2.2.2.2.1 y.2.2.2.2.2.2.2.2.1 y.2.2.2.2.2.2.2.2.2.1 y.2.2.2.2.2.2.2.2.2.2.1 y.2.2.2.2.2.2.2.2.2.2.2.1 y.2.2.2.2.2.2.2.2.2.2.2.2.1 y.2.2.2.2.2.2.2.2.2.2.2.2.2.1 y.2.2.2.2.2.2.2.2.2.2.2.2.2.2.1 y.2.2.2.2.2.2.2.2.2.2.2.2.2.2.2.1 y.2.2.2.2.2.2.2.2.2.2.2.2.2.2.2.2.1 y.2.2.2.2.2.2.2.2.2.2.2.2.2.2.2.2.2.1 y.2.2.2.2.2.2.2.2.2.2.2.2.2.2.2.2.2.2.1 y.2.2.2.2.2.2.2.2.2.2.2.2.2.2.2.2.2.2.2.1 y.2.2.2.2.2.2.2.2.2.2.2.2.2.2.2.2.2.2.2.2 v66 _ v67 hv) (cwV 1 hts (gd_V q463 q464 q465 q5 q466) rfl rfl rfl (by decide +kernel) ⟨Nat.le_of_ble_eq_true rfl, Nat.le_of_ble_eq_true rfl⟩) (g_preVm hPc hDc hG rfl rfl) rfl rfl hl.1 rfl (lv_room (Nat.le_of_ble_eq_true rfl)) dL_law_672 ⟨(gRc (by (try dsimp only); omega)), (gRs (by (try dsimp only); omega))⟩) hS (va_A.all hDc hA1) (va_A.all hDc hA1) (fun v67 H1 locs hf hP1 hsz hkp hS => ?_)
  have hP2 := put_mid (X := []) (C := (cML E am y)) (Y := ((cOut E qo v65.2.2.2.2.2) ++ (cG E g ad v65.2.1 v65.2.2.1 v65.2.2.2.1 x.2.2.2.1 x.2.2.2.2.1 x.2.2.2.2.2.1 v65.2.2.2.2.1))) hP hD hkp hP1
  have hD2 : va_D (fun q : Nat => s.heap.size ≤ q) ((cM E am 0 v67.2.1 v67.2.2.1 y.2.2.1 v67.2.2.2.1 v67.2.2.2.2 y.2.2.2.2.2.1 y.2.2.2.2.2.2.1 y.2.2.2.2.2.2.2.1 y.2.2.2.2.2.2.2.2.1 y.2.2.2.2.2.2.2.2.2.1 y.2.2.2.2.2.2.2.2.2.2.1 y.2.2.2.2.2.2.2.2.2.2.2.1 y.2.2.2.2.2.2.2.2.2.2.2.2.1 y.2.2.2.2.2.2.2.2.2.2.2.2.2.1 y.2.2.2.2.2.2.2.2.2.2.2.2.2.2.1 y.2.2.2.2.2.2.2.2.2.2.2.2.2.2.2.1 y.2.2.2.2.2.2.2.2.2.2.2.2.2.2.2.2.1 y.2.2.2.2.2.2.2.2.2.2.2.2.2.2.2.2.2.1 y.2.2.2.2.2.2.2.2.2.2.2.2.2.2.2.2.2.2.1 y.2.2.2.2.2.2.2.2.2.2.2.2.2.2.2.2.2.2.2.1 y.2.2.2.2.2.2.2.2.2.2.2.2.2.2.2.2.2.2.2.2) ++ ((cOut E qo v65.2.2.2.2.2) ++ (cG E g ad v65.2.1 v65.2.2.1 v65.2.2.2.1 x.2.2.2.1 x.2.2.2.2.1 x.2.2.2.2.2.1 v65.2.2.2.2.1))) := va_D.sameL hD rfl
  clear hP hD hPc hDc hP1 hsz hkp hA1
  revert hS hP2 hD2; generalize H1 = H; intro hS hP hD
  have hP : va_P E.1 vwCl ((cM E am 0 v67.2.1 v67.2.2.1 y.2.2.1 v67.2.2.2.1 v67.2.2.2.2 y.2.2.2.2.2.1 y.2.2.2.2.2.2.1 y.2.2.2.2.2.2.2.1 y.2.2.2.2.2.2.2.2.1 y.2.2.2.2.2.2.2.2.2.1 y.2.2.2.2.2.2.2.2.2.2.1 y.2.2.2.2.2.2.2.2.2.2.2.1 y.2.2.2.2.2.2.2.2.2.2.2.2.1 y.2.2.2.2.2.2.2.2.2.2.2.2.2.1 y.2.2.2.2.2.2.2.2.2.2.2.2.2.2.1 y.2.2.2.2.2.2.2.2.2.2.2.2.2.2.2.1 y.2.2.2.2.2.2.2.2.2.2.2.2.2.2.2.2.1 y.2.2.2.2.2.2.2.2.2.2.2.2.2.2.2.2.2.1 y.2.2.2.2.2.2.2.2.2.2.2.2.2.2.2.2.2.2.1 y.2.2.2.2.2.2.2.2.2.2.2.2.2.2.2.2.2.2.2.1 y.2.2.2.2.2.2.2.2.2.2.2.2.2.2.2.2.2.2.2.2) ++ ((cOut E qo v65.2.2.2.2.2) ++ (cG E g ad v65.2.1 v65.2.2.1 v65.2.2.2.1 x.2.2.2.1 x.2.2.2.2.1 x.2.2.2.2.2.1 v65.2.2.2.2.1))) H := hP
  refine lv_istore (lv' := [(6, .int v67.1), (5, .int v65.1), (0, .ref b), (1, .ref (g 0)), (2, .ref (am 0)), (3, .ref qo), (4, .int l4)]) hx hb dL_law_675 hl (by decide) rfl (fun ls hl => ?_)
  refine lv_aload_n hx hb dL_law_677 rfl (lv_at hl 4 rfl) ?_
  have hPc : va_P E.1 vwCl (cM E am 0 v67.2.1 v67.2.2.1 y.2.2.1 v67.2.2.2.1 v67.2.2.2.2 y.2.2.2.2.2.1 y.2.2.2.2.2.2.1 y.2.2.2.2.2.2.2.1 y.2.2.2.2.2.2.2.2.1 y.2.2.2.2.2.2.2.2.2.1 y.2.2.2.2.2.2.2.2.2.2.1 y.2.2.2.2.2.2.2.2.2.2.2.1 y.2.2.2.2.2.2.2.2.2.2.2.2.1 y.2.2.2.2.2.2.2.2.2.2.2.2.2.1 y.2.2.2.2.2.2.2.2.2.2.2.2.2.2.1 y.2.2.2.2.2.2.2.2.2.2.2.2.2.2.2.1 y.2.2.2.2.2.2.2.2.2.2.2.2.2.2.2.2.1 y.2.2.2.2.2.2.2.2.2.2.2.2.2.2.2.2.2.1 y.2.2.2.2.2.2.2.2.2.2.2.2.2.2.2.2.2.2.1 y.2.2.2.2.2.2.2.2.2.2.2.2.2.2.2.2.2.2.2.1 y.2.2.2.2.2.2.2.2.2.2.2.2.2.2.2.2.2.2.2.2) H := hP.left
  refine g_callR Value.int hf (fun v68 hv => va_runV (As := []) (rest := []) ⟨hx, hb, hml, hown, hts⟩ (c_X6_thrown l E am 0 v67.2.1 v67.2.2.1 y.2.2.1 v67.2.2.2.1 v67.2.2.2.2 y.2.2.2.2.2.1 y.2.2.2.2.2.2.1 y.2.2.2.2.2.2.2.1 y.2.2.2.2.2.2.2.2.1 y.2.2.2.2.2.2.2.2.2.1 y.2.2.2.2.2.2.2.2.2.2.1 y.2.2.2.2.2.2.2.2.2.2.2.1 y.2.2.2.2.2.2.2.2.2.2.2.2.1 y.2.2.2.2.2.2.2.2.2.2.2.2.2.1 y.2.2.2.2.2.2.2.2.2.2.2.2.2.2.1 y.2.2.2.2.2.2.2.2.2.2.2.2.2.2.2.1 y.2.2.2.2.2.2.2.2.2.2.2.2.2.2.2.2.1 y.2.2.2.2.2.2.2.2.2.2.2.2.2.2.2.2.2.1 y.2.2.2.2.2.2.2.2.2.2.2.2.2.2.2.2.2.2.1 y.2.2.2.2.2.2.2.2.2.2.2.2.2.2.2.2.2.2.2.1 y.2.2.2.2.2.2.2.2.2.2.2.2.2.2.2.2.2.2.2.2 v68 hv) (cwV 0 hts (gd_V q246 q247 q248 q5 q249) rfl rfl rfl (by decide +kernel) ⟨Nat.le_of_ble_eq_true rfl, Nat.le_of_ble_eq_true rfl⟩) (g_preV hPc hG rfl rfl) rfl rfl hl.1 rfl (lv_room (Nat.le_of_ble_eq_true rfl)) dL_law_678 ⟨(gRc (by (try dsimp only); omega)), (gRs (by (try dsimp only); omega))⟩) (fun v68 hf => ?_)
  clear hPc
  refine lv_iload hx hb dL_law_681 (lv_at hl 1 rfl) ?_
  refine g_icmp_eq (tgt := 688) hx hb hf dL_law_683 (by decide) (fun hf => ?_) (fun hf => ?_)
  · refine lv_iload hx hb dL_law_688 (lv_at hl 1 rfl) ?_
    refine g_if_ne (tgt := 705) hx hb hf dL_law_690 (by decide) (fun hf => ?_) (fun hf => ?_)
    · exact w_L_law_705 hL C0 hG hT hN hst cells slots hcs hss k23_ hk23_ ad _ _ (v65.2.1, v65.2.2.1, v65.2.2.2.1, x.2.2.2.1, x.2.2.2.2.1, x.2.2.2.2.2.1, v65.2.2.2.2.1) (v67.2.1, v67.2.2.1, y.2.2.1, v67.2.2.2.1, v67.2.2.2.2, y.2.2.2.2.2.1, y.2.2.2.2.2.2.1, y.2.2.2.2.2.2.2.1, y.2.2.2.2.2.2.2.2.1, y.2.2.2.2.2.2.2.2.2.1, y.2.2.2.2.2.2.2.2.2.2.1, y.2.2.2.2.2.2.2.2.2.2.2.1, y.2.2.2.2.2.2.2.2.2.2.2.2.1, y.2.2.2.2.2.2.2.2.2.2.2.2.2.1, y.2.2.2.2.2.2.2.2.2.2.2.2.2.2.1, y.2.2.2.2.2.2.2.2.2.2.2.2.2.2.2.1, y.2.2.2.2.2.2.2.2.2.2.2.2.2.2.2.2.1, y.2.2.2.2.2.2.2.2.2.2.2.2.2.2.2.2.2.1, y.2.2.2.2.2.2.2.2.2.2.2.2.2.2.2.2.2.2.1, y.2.2.2.2.2.2.2.2.2.2.2.2.2.2.2.2.2.2.2.1, y.2.2.2.2.2.2.2.2.2.2.2.2.2.2.2.2.2.2.2.2) v65.2.2.2.2.2 l4 _ hf (lv_sub hl [2, 3, 4, 5, 6] rfl) hP hS hD
    · refine lv_aload_n hx hb dL_law_693 rfl (lv_at hl 5 rfl) ?_
      refine lv_iconst (v := 0) hx hb dL_law_694 (by decide) ?_
      refine g_lald hx hb hG.1 hP 11 rfl hf dL_law_695 (fun v69 hf => ?_)
      refine lv_iload hx hb dL_law_696 (lv_at hl 0 rfl) ?_
      refine lv_i2l (v := (Int32.toInt64 v67.1)) hx hb dL_law_698 rfl ?_
      refine W.lcmp hx hb dL_law_699 ?_
      refine g_if_eq (tgt := 705) hx hb hf dL_law_700 (by decide) (fun hf => ?_) (fun hf => ?_)
      · exact w_L_law_705 hL C0 hG hT hN hst cells slots hcs hss k23_ hk23_ ad _ _ (v65.2.1, v65.2.2.1, v65.2.2.2.1, x.2.2.2.1, x.2.2.2.2.1, x.2.2.2.2.2.1, v65.2.2.2.2.1) (v67.2.1, v67.2.2.1, y.2.2.1, v67.2.2.2.1, v67.2.2.2.2, y.2.2.2.2.2.1, y.2.2.2.2.2.2.1, y.2.2.2.2.2.2.2.1, y.2.2.2.2.2.2.2.2.1, y.2.2.2.2.2.2.2.2.2.1, y.2.2.2.2.2.2.2.2.2.2.1, y.2.2.2.2.2.2.2.2.2.2.2.1, y.2.2.2.2.2.2.2.2.2.2.2.2.1, y.2.2.2.2.2.2.2.2.2.2.2.2.2.1, y.2.2.2.2.2.2.2.2.2.2.2.2.2.2.1, y.2.2.2.2.2.2.2.2.2.2.2.2.2.2.2.1, y.2.2.2.2.2.2.2.2.2.2.2.2.2.2.2.2.1, y.2.2.2.2.2.2.2.2.2.2.2.2.2.2.2.2.2.1, y.2.2.2.2.2.2.2.2.2.2.2.2.2.2.2.2.2.2.1, y.2.2.2.2.2.2.2.2.2.2.2.2.2.2.2.2.2.2.2.1, y.2.2.2.2.2.2.2.2.2.2.2.2.2.2.2.2.2.2.2.2) v65.2.2.2.2.2 l4 _ hf (lv_sub hl [2, 3, 4, 5, 6] rfl) hP hS hD
      · refine lv_iconst (v := 0) hx hb dL_law_703 (by decide) ?_
        cases hf
  · refine lv_iconst (v := 0) hx hb dL_law_686 (by decide) ?_
    cases hf
set_option maxHeartbeats 4000000 in
set_option maxRecDepth 100000 in
theorem w_L_law_761 {p : Program} {l : Launch} {e : Env} {s : State} {m : MethodId} {below : List Frame} {meth : Method} {c : Code} {b L : Nat} {xs : Nat → Int32} {E : gE} {g am : Nat → Nat} {qo : Nat} (hL : L ≤ 2560) (C0 : lw_At p s m meth c b L xs) (hG : gK E s) (hT : gTh (fun q : Nat => s.heap.size ≤ q) s s.heap) (hN : gNc s) (hst : l.stackTraces = false)  (cells slots : Nat) (hcs : cells + 16 ≤ 601000) (hss : slots + 200 ≤ 7293000) (k23_ : TG → TM → (Nat → Int64) → Int32 → Option (Int32)) (hk23_ : ∀ (ad : Nat → Nat → Nat) (H : Heap) (locs : List Loc) (x : TG) (y : TM) (o : Nat → Int64) (l4 : Int32) (ls : Array Slot), k23_ x y o l4 = some 1 → lv_has ls 9 [(0, .ref b), (1, .ref (g 0)), (2, .ref (am 0)), (3, .ref qo), (4, .int l4)] → va_P E.1 vwCl ((cML E am y) ++ ((cOut E qo o) ++ (cGL E g ad x))) H → va_S (fun q : Nat => s.heap.size ≤ q) s.heap H locs → va_D (fun q : Nat => s.heap.size ≤ q) ((cML E am y) ++ ((cOut E qo o) ++ (cGL E g ad x))) → W p l e room_1 s m #[Value.ref b] below meth c H locs (cells + 16) (slots + 200) (lw_Z below #[Value.ref b] s) (F0 m 23 ls [])) : ∀ (ad : Nat → Nat → Nat) (H : Heap) (locs : List Loc) (x : TG) (y : TM) (o : Nat → Int64) (l4 : Int32) (ls : Array Slot), f_L_law_761 xs L k23_ x y o l4 = some 1 → lv_has ls 9 [(0, .ref b), (1, .ref (g 0)), (2, .ref (am 0)), (3, .ref qo), (4, .int l4)] → va_P E.1 vwCl ((cML E am y) ++ ((cOut E qo o) ++ (cGL E g ad x))) H → va_S (fun q : Nat => s.heap.size ≤ q) s.heap H locs → va_D (fun q : Nat => s.heap.size ≤ q) ((cML E am y) ++ ((cOut E qo o) ++ (cGL E g ad x))) → W p l e room_1 s m #[Value.ref b] below meth c H locs (cells + 2) (slots + 12) (lw_Z below #[Value.ref b] s) (F0 m 761 ls []) := by
  obtain ⟨hx, hb, hr, hml, hown, hts0, hX, hbl, hlocks, hgv⟩ := id C0
  have hts := gL_hts hts0
  have hbA : ¬ (fun q : Nat => s.heap.size ≤ q) b := Nat.not_le.mpr hbl
  have hA : ∀ q : Nat, s.heap.size ≤ q → (fun q : Nat => s.heap.size ≤ q) q := fun _ h => h
  intro ad H locs x y o l4 ls hf hl hP hS hD
  unfold f_L_law_761 at hf
  refine lv_goto (tgt := 1526) hx hb dL_law_761 (by decide) ?_
  refine W.widen (k := (cells + 8)) (n := (slots + 82)) (by (try dsimp only); omega) (by (try dsimp only); omega) ?_
  exact w_L_law_1526 hL C0 hG hT hN hst cells slots hcs hss k23_ hk23_ ad _ _ x y o l4 _ hf hl hP hS hD
set_option maxHeartbeats 4000000 in
set_option maxRecDepth 100000 in
theorem w_L_law_708 {p : Program} {l : Launch} {e : Env} {s : State} {m : MethodId} {below : List Frame} {meth : Method} {c : Code} {b L : Nat} {xs : Nat → Int32} {E : gE} {g am : Nat → Nat} {qo : Nat} (hL : L ≤ 2560) (C0 : lw_At p s m meth c b L xs) (hG : gK E s) (hT : gTh (fun q : Nat => s.heap.size ≤ q) s s.heap) (hN : gNc s) (hst : l.stackTraces = false)  (cells slots : Nat) (hcs : cells + 16 ≤ 601000) (hss : slots + 200 ≤ 7293000) (k23_ : TG → TM → (Nat → Int64) → Int32 → Option (Int32)) (hk23_ : ∀ (ad : Nat → Nat → Nat) (H : Heap) (locs : List Loc) (x : TG) (y : TM) (o : Nat → Int64) (l4 : Int32) (ls : Array Slot), k23_ x y o l4 = some 1 → lv_has ls 9 [(0, .ref b), (1, .ref (g 0)), (2, .ref (am 0)), (3, .ref qo), (4, .int l4)] → va_P E.1 vwCl ((cML E am y) ++ ((cOut E qo o) ++ (cGL E g ad x))) H → va_S (fun q : Nat => s.heap.size ≤ q) s.heap H locs → va_D (fun q : Nat => s.heap.size ≤ q) ((cML E am y) ++ ((cOut E qo o) ++ (cGL E g ad x))) → W p l e room_1 s m #[Value.ref b] below meth c H locs (cells + 16) (slots + 200) (lw_Z below #[Value.ref b] s) (F0 m 23 ls [])) : ∀ (ad : Nat → Nat → Nat) (H : Heap) (locs : List Loc) (x : TG) (y : TM) (o : Nat → Int64) (l4 : Int32) (ls : Array Slot), f_L_law_708 xs L k23_ x y o l4 = some 1 → lv_has ls 9 [(0, .ref b), (1, .ref (g 0)), (2, .ref (am 0)), (3, .ref qo), (4, .int l4)] → va_P E.1 vwCl ((cML E am y) ++ ((cOut E qo o) ++ (cGL E g ad x))) H → va_S (fun q : Nat => s.heap.size ≤ q) s.heap H locs → va_D (fun q : Nat => s.heap.size ≤ q) ((cML E am y) ++ ((cOut E qo o) ++ (cGL E g ad x))) → W p l e room_1 s m #[Value.ref b] below meth c H locs cells slots (lw_Z below #[Value.ref b] s) (F0 m 708 ls []) := by
  obtain ⟨hx, hb, hr, hml, hown, hts0, hX, hbl, hlocks, hgv⟩ := id C0
  have hts := gL_hts hts0
  have hbA : ¬ (fun q : Nat => s.heap.size ≤ q) b := Nat.not_le.mpr hbl
  have hA : ∀ q : Nat, s.heap.size ≤ q → (fun q : Nat => s.heap.size ≤ q) q := fun _ h => h
  intro ad H locs x y o l4 ls hf hl hP hS hD
  unfold f_L_law_708 at hf
  refine lv_aload_n hx hb dL_law_708 rfl (lv_at hl 1 rfl) ?_
  refine lv_aload_n hx hb dL_law_709 rfl (lv_at hl 0 rfl) ?_
  refine lv_iload hx hb dL_law_710 (lv_at hl 4 rfl) ?_
  refine lv_iconst (v := 1) hx hb dL_law_712 (by decide) ?_
  refine lv_iadd hx hb dL_law_713 ?_
  refine g_sld hx hb hX hbl hbA hS hf dL_law_714 (fun v70 hf => ?_)
  refine lv_aload_n hx hb dL_law_715 rfl (lv_at hl 3 rfl) ?_
  have hA1 : ∀ q : Nat, Array.size H ≤ q → (fun q : Nat => s.heap.size ≤ q) q := fun q h => Nat.le_trans hS.1 h
  have hPc : va_P E.1 vwCl ((cOut E qo o) ++ (cGL E g ad x)) H := hP.right
  have hDc : va_D (fun q : Nat => s.heap.size ≤ q) ((cOut E qo o) ++ (cGL E g ad x)) := hD.right
  refine g_callA2 (fun v71 => some (.int v71.1)) (fun v71 ad => ((cOut E qo v71.2.2) ++ (cG E g ad x.1 x.2.1 x.2.2.1 x.2.2.2.1 x.2.2.2.2.1 v71.2.1 x.2.2.2.2.2.2))) hf (fun v71 hv => vx_runSW (As := [.ref (g 0), .int v70, .ref qo]) (rest := []) ⟨hx, hb, hml, hown, hts⟩ (c_L_append l E g ad qo x.1 x.2.1 x.2.2.1 x.2.2.2.1 x.2.2.2.2.1 x.2.2.2.2.2.1 x.2.2.2.2.2.2 o v70 hst _ v71 hv) (vx_cwSW 3 hts (gd_SH q467 q468 qRL q469) rfl rfl rfl (by decide +kernel) ⟨Nat.le_of_ble_eq_true rfl, Nat.le_of_ble_eq_true rfl⟩) (g_preSl hPc hDc hG hT hN hS (va_A.all hDc hA1)) rfl rfl hl.1 rfl (lv_room (Nat.le_of_ble_eq_true rfl)) dL_law_716 ⟨(gRc (by (try dsimp only); omega)), (gRs (by (try dsimp only); omega))⟩) hS (va_A.all hDc hA1) (va_A.all hDc hA1) (fun v71 ad H1 locs hf hP1 hD1 hkp hS => ?_)
  obtain ⟨hP2, hD2⟩ := join_end hP hD hA1 hkp hP1 hD1
  clear hP hD hPc hDc hP1 hD1 hkp hA1
  revert hS hP2 hD2; generalize H1 = H; intro hS hP hD
  have hP : va_P E.1 vwCl ((cML E am y) ++ ((cOut E qo v71.2.2) ++ (cG E g ad x.1 x.2.1 x.2.2.1 x.2.2.2.1 x.2.2.2.2.1 v71.2.1 x.2.2.2.2.2.2))) H := hP
  have hD : va_D (fun q : Nat => s.heap.size ≤ q) ((cML E am y) ++ ((cOut E qo v71.2.2) ++ (cG E g ad x.1 x.2.1 x.2.2.1 x.2.2.2.1 x.2.2.2.2.1 v71.2.1 x.2.2.2.2.2.2))) := hD
  refine W.widen (k := cells + 2) (n := slots + 12) (by (try dsimp only); omega) (by (try dsimp only); omega) ?_
  refine lv_istore (lv' := [(5, .int v71.1), (0, .ref b), (1, .ref (g 0)), (2, .ref (am 0)), (3, .ref qo), (4, .int l4)]) hx hb dL_law_719 hl (by decide) rfl (fun ls hl => ?_)
  refine lv_aload_n hx hb dL_law_721 rfl (lv_at hl 3 rfl) ?_
  refine lv_aload_n hx hb dL_law_722 rfl (lv_at hl 1 rfl) ?_
  refine lv_iload hx hb dL_law_723 (lv_at hl 5 rfl) ?_
  refine lv_iconst (v := 1) hx hb dL_law_725 (by decide) ?_
  refine lv_iadd hx hb dL_law_726 ?_
  refine g_sld hx hb hX hbl hbA hS hf dL_law_727 (fun v72 hf => ?_)
  have hPc : va_P E.1 vwCl (cML E am y) H := hP.left
  have hA1 : ∀ q : Nat, Array.size H ≤ q → (fun q : Nat => s.heap.size ≤ q) q := fun q h => Nat.le_trans hS.1 h
  have hDc : va_D (fun q : Nat => s.heap.size ≤ q) (cML E am y) := hD.left
  refine g_callMi (fun v73 => .int v73.1) (fun v73 => (cM E am 0 v73.2.1 y.2.1 y.2.2.1 y.2.2.2.1 y.2.2.2.2.1 v73.2.2.1 v73.2.2.2 y.2.2.2.2.2.2.2.1 y.2.2.2.2.2.2.2.2.1 y.2.2.2.2.2.2.2.2.2.1 y.2.2.2.2.2.2.2.2.2.2.1 y.2.2.2.2.2.2.2.2.2.2.2.1 y.2.2.2.2.2.2.2.2.2.2.2.2.1 y.2.2.2.2.2.2.2.2.2.2.2.2.2.1 y.2.2.2.2.2.2.2.2.2.2.2.2.2.2.1 y.2.2.2.2.2.2.2.2.2.2.2.2.2.2.2.1 y.2.2.2.2.2.2.2.2.2.2.2.2.2.2.2.2.1 y.2.2.2.2.2.2.2.2.2.2.2.2.2.2.2.2.2.1 y.2.2.2.2.2.2.2.2.2.2.2.2.2.2.2.2.2.2.1 y.2.2.2.2.2.2.2.2.2.2.2.2.2.2.2.2.2.2.2.1 y.2.2.2.2.2.2.2.2.2.2.2.2.2.2.2.2.2.2.2.2)) hf (fun v73 hv => va_runV (As := [.int v72]) (rest := []) ⟨hx, hb, hml, hown, hts⟩ (c_X6_append l E am 0 y.1 y.2.1 y.2.2.1 y.2.2.2.1 y.2.2.2.2.1 y.2.2.2.2.2.1 y.2.2.2.2.2.2.1 y.2.2.2.2.2.2.2.1 y.2.2.2.2.2.2.2.2.1 y.2.2.2.2.2.2.2.2.2.1 y.2.2.2.2.2.2.2.2.2.2.1 y.2.2.2.2.2.2.2.2.2.2.2.1 y.2.2.2.2.2.2.2.2.2.2.2.2.1 y.2.2.2.2.2.2.2.2.2.2.2.2.2.1 y.2.2.2.2.2.2.2.2.2.2.2.2.2.2.1 y.2.2.2.2.2.2.2.2.2.2.2.2.2.2.2.1 y.2.2.2.2.2.2.2.2.2.2.2.2.2.2.2.2.1 y.2.2.2.2.2.2.2.2.2.2.2.2.2.2.2.2.2.1 y.2.2.2.2.2.2.2.2.2.2.2.2.2.2.2.2.2.2.1 y.2.2.2.2.2.2.2.2.2.2.2.2.2.2.2.2.2.2.2.1 y.2.2.2.2.2.2.2.2.2.2.2.2.2.2.2.2.2.2.2.2 v72 _ v73 hv) (cwV 1 hts (gd_V q477 q478 q479 q5 q480) rfl rfl rfl (by decide +kernel) ⟨Nat.le_of_ble_eq_true rfl, Nat.le_of_ble_eq_true rfl⟩) (g_preVm hPc hDc hG rfl rfl) rfl rfl hl.1 rfl (lv_room (Nat.le_of_ble_eq_true rfl)) dL_law_728 ⟨(gRc (by (try dsimp only); omega)), (gRs (by (try dsimp only); omega))⟩) hS (va_A.all hDc hA1) (va_A.all hDc hA1) (fun v73 H1 locs hf hP1 hsz hkp hS => ?_)
  have hP2 := put_mid (X := []) (C := (cML E am y)) (Y := ((cOut E qo v71.2.2) ++ (cG E g ad x.1 x.2.1 x.2.2.1 x.2.2.2.1 x.2.2.2.2.1 v71.2.1 x.2.2.2.2.2.2))) hP hD hkp hP1
  have hD2 : va_D (fun q : Nat => s.heap.size ≤ q) ((cM E am 0 v73.2.1 y.2.1 y.2.2.1 y.2.2.2.1 y.2.2.2.2.1 v73.2.2.1 v73.2.2.2 y.2.2.2.2.2.2.2.1 y.2.2.2.2.2.2.2.2.1 y.2.2.2.2.2.2.2.2.2.1 y.2.2.2.2.2.2.2.2.2.2.1 y.2.2.2.2.2.2.2.2.2.2.2.1 y.2.2.2.2.2.2.2.2.2.2.2.2.1 y.2.2.2.2.2.2.2.2.2.2.2.2.2.1 y.2.2.2.2.2.2.2.2.2.2.2.2.2.2.1 y.2.2.2.2.2.2.2.2.2.2.2.2.2.2.2.1 y.2.2.2.2.2.2.2.2.2.2.2.2.2.2.2.2.1 y.2.2.2.2.2.2.2.2.2.2.2.2.2.2.2.2.2.1 y.2.2.2.2.2.2.2.2.2.2.2.2.2.2.2.2.2.2.1 y.2.2.2.2.2.2.2.2.2.2.2.2.2.2.2.2.2.2.2.1 y.2.2.2.2.2.2.2.2.2.2.2.2.2.2.2.2.2.2.2.2) ++ ((cOut E qo v71.2.2) ++ (cG E g ad x.1 x.2.1 x.2.2.1 x.2.2.2.1 x.2.2.2.2.1 v71.2.1 x.2.2.2.2.2.2))) := va_D.sameL hD rfl
  clear hP hD hPc hDc hP1 hsz hkp hA1
  revert hS hP2 hD2; generalize H1 = H; intro hS hP hD
  have hP : va_P E.1 vwCl ((cM E am 0 v73.2.1 y.2.1 y.2.2.1 y.2.2.2.1 y.2.2.2.2.1 v73.2.2.1 v73.2.2.2 y.2.2.2.2.2.2.2.1 y.2.2.2.2.2.2.2.2.1 y.2.2.2.2.2.2.2.2.2.1 y.2.2.2.2.2.2.2.2.2.2.1 y.2.2.2.2.2.2.2.2.2.2.2.1 y.2.2.2.2.2.2.2.2.2.2.2.2.1 y.2.2.2.2.2.2.2.2.2.2.2.2.2.1 y.2.2.2.2.2.2.2.2.2.2.2.2.2.2.1 y.2.2.2.2.2.2.2.2.2.2.2.2.2.2.2.1 y.2.2.2.2.2.2.2.2.2.2.2.2.2.2.2.2.1 y.2.2.2.2.2.2.2.2.2.2.2.2.2.2.2.2.2.1 y.2.2.2.2.2.2.2.2.2.2.2.2.2.2.2.2.2.2.1 y.2.2.2.2.2.2.2.2.2.2.2.2.2.2.2.2.2.2.2.1 y.2.2.2.2.2.2.2.2.2.2.2.2.2.2.2.2.2.2.2.2) ++ ((cOut E qo v71.2.2) ++ (cG E g ad x.1 x.2.1 x.2.2.1 x.2.2.2.1 x.2.2.2.2.1 v71.2.1 x.2.2.2.2.2.2))) H := hP
  refine lv_istore (lv' := [(6, .int v73.1), (5, .int v71.1), (0, .ref b), (1, .ref (g 0)), (2, .ref (am 0)), (3, .ref qo), (4, .int l4)]) hx hb dL_law_731 hl (by decide) rfl (fun ls hl => ?_)
  refine lv_aload_n hx hb dL_law_733 rfl (lv_at hl 4 rfl) ?_
  have hPc : va_P E.1 vwCl (cM E am 0 v73.2.1 y.2.1 y.2.2.1 y.2.2.2.1 y.2.2.2.2.1 v73.2.2.1 v73.2.2.2 y.2.2.2.2.2.2.2.1 y.2.2.2.2.2.2.2.2.1 y.2.2.2.2.2.2.2.2.2.1 y.2.2.2.2.2.2.2.2.2.2.1 y.2.2.2.2.2.2.2.2.2.2.2.1 y.2.2.2.2.2.2.2.2.2.2.2.2.1 y.2.2.2.2.2.2.2.2.2.2.2.2.2.1 y.2.2.2.2.2.2.2.2.2.2.2.2.2.2.1 y.2.2.2.2.2.2.2.2.2.2.2.2.2.2.2.1 y.2.2.2.2.2.2.2.2.2.2.2.2.2.2.2.2.1 y.2.2.2.2.2.2.2.2.2.2.2.2.2.2.2.2.2.1 y.2.2.2.2.2.2.2.2.2.2.2.2.2.2.2.2.2.2.1 y.2.2.2.2.2.2.2.2.2.2.2.2.2.2.2.2.2.2.2.1 y.2.2.2.2.2.2.2.2.2.2.2.2.2.2.2.2.2.2.2.2) H := hP.left
  refine g_callR Value.int hf (fun v74 hv => va_runV (As := []) (rest := []) ⟨hx, hb, hml, hown, hts⟩ (c_X6_thrown l E am 0 v73.2.1 y.2.1 y.2.2.1 y.2.2.2.1 y.2.2.2.2.1 v73.2.2.1 v73.2.2.2 y.2.2.2.2.2.2.2.1 y.2.2.2.2.2.2.2.2.1 y.2.2.2.2.2.2.2.2.2.1 y.2.2.2.2.2.2.2.2.2.2.1 y.2.2.2.2.2.2.2.2.2.2.2.1 y.2.2.2.2.2.2.2.2.2.2.2.2.1 y.2.2.2.2.2.2.2.2.2.2.2.2.2.1 y.2.2.2.2.2.2.2.2.2.2.2.2.2.2.1 y.2.2.2.2.2.2.2.2.2.2.2.2.2.2.2.1 y.2.2.2.2.2.2.2.2.2.2.2.2.2.2.2.2.1 y.2.2.2.2.2.2.2.2.2.2.2.2.2.2.2.2.2.1 y.2.2.2.2.2.2.2.2.2.2.2.2.2.2.2.2.2.2.1 y.2.2.2.2.2.2.2.2.2.2.2.2.2.2.2.2.2.2.2.1 y.2.2.2.2.2.2.2.2.2.2.2.2.2.2.2.2.2.2.2.2 v74 hv) (cwV 0 hts (gd_V q246 q247 q248 q5 q249) rfl rfl rfl (by decide +kernel) ⟨Nat.le_of_ble_eq_true rfl, Nat.le_of_ble_eq_true rfl⟩) (g_preV hPc hG rfl rfl) rfl rfl hl.1 rfl (lv_room (Nat.le_of_ble_eq_true rfl)) dL_law_734 ⟨(gRc (by (try dsimp only); omega)), (gRs (by (try dsimp only); omega))⟩) (fun v74 hf => ?_)
  clear hPc
  refine lv_iload hx hb dL_law_737 (lv_at hl 1 rfl) ?_
  refine g_icmp_eq (tgt := 744) hx hb hf dL_law_739 (by decide) (fun hf => ?_) (fun hf => ?_)
  · refine lv_iload hx hb dL_law_744 (lv_at hl 1 rfl) ?_
    refine g_if_ne (tgt := 761) hx hb hf dL_law_746 (by decide) (fun hf => ?_) (fun hf => ?_)
    · exact w_L_law_761 hL C0 hG hT hN hst cells slots hcs hss k23_ hk23_ ad _ _ (x.1, x.2.1, x.2.2.1, x.2.2.2.1, x.2.2.2.2.1, v71.2.1, x.2.2.2.2.2.2) (v73.2.1, y.2.1, y.2.2.1, y.2.2.2.1, y.2.2.2.2.1, v73.2.2.1, v73.2.2.2, y.2.2.2.2.2.2.2.1, y.2.2.2.2.2.2.2.2.1, y.2.2.2.2.2.2.2.2.2.1, y.2.2.2.2.2.2.2.2.2.2.1, y.2.2.2.2.2.2.2.2.2.2.2.1, y.2.2.2.2.2.2.2.2.2.2.2.2.1, y.2.2.2.2.2.2.2.2.2.2.2.2.2.1, y.2.2.2.2.2.2.2.2.2.2.2.2.2.2.1, y.2.2.2.2.2.2.2.2.2.2.2.2.2.2.2.1, y.2.2.2.2.2.2.2.2.2.2.2.2.2.2.2.2.1, y.2.2.2.2.2.2.2.2.2.2.2.2.2.2.2.2.2.1, y.2.2.2.2.2.2.2.2.2.2.2.2.2.2.2.2.2.2.1, y.2.2.2.2.2.2.2.2.2.2.2.2.2.2.2.2.2.2.2.1, y.2.2.2.2.2.2.2.2.2.2.2.2.2.2.2.2.2.2.2.2) v71.2.2 l4 _ hf (lv_sub hl [2, 3, 4, 5, 6] rfl) hP hS hD
    · refine lv_aload_n hx hb dL_law_749 rfl (lv_at hl 5 rfl) ?_
      refine lv_iconst (v := 0) hx hb dL_law_750 (by decide) ?_
      refine g_lald hx hb hG.1 hP 11 rfl hf dL_law_751 (fun v75 hf => ?_)
      refine lv_iload hx hb dL_law_752 (lv_at hl 0 rfl) ?_
      refine lv_i2l (v := (Int32.toInt64 v73.1)) hx hb dL_law_754 rfl ?_
      refine W.lcmp hx hb dL_law_755 ?_
      refine g_if_eq (tgt := 761) hx hb hf dL_law_756 (by decide) (fun hf => ?_) (fun hf => ?_)
      · exact w_L_law_761 hL C0 hG hT hN hst cells slots hcs hss k23_ hk23_ ad _ _ (x.1, x.2.1, x.2.2.1, x.2.2.2.1, x.2.2.2.2.1, v71.2.1, x.2.2.2.2.2.2) (v73.2.1, y.2.1, y.2.2.1, y.2.2.2.1, y.2.2.2.2.1, v73.2.2.1, v73.2.2.2, y.2.2.2.2.2.2.2.1, y.2.2.2.2.2.2.2.2.1, y.2.2.2.2.2.2.2.2.2.1, y.2.2.2.2.2.2.2.2.2.2.1, y.2.2.2.2.2.2.2.2.2.2.2.1, y.2.2.2.2.2.2.2.2.2.2.2.2.1, y.2.2.2.2.2.2.2.2.2.2.2.2.2.1, y.2.2.2.2.2.2.2.2.2.2.2.2.2.2.1, y.2.2.2.2.2.2.2.2.2.2.2.2.2.2.2.1, y.2.2.2.2.2.2.2.2.2.2.2.2.2.2.2.2.1, y.2.2.2.2.2.2.2.2.2.2.2.2.2.2.2.2.2.1, y.2.2.2.2.2.2.2.2.2.2.2.2.2.2.2.2.2.2.1, y.2.2.2.2.2.2.2.2.2.2.2.2.2.2.2.2.2.2.2.1, y.2.2.2.2.2.2.2.2.2.2.2.2.2.2.2.2.2.2.2.2) v71.2.2 l4 _ hf (lv_sub hl [2, 3, 4, 5, 6] rfl) hP hS hD
      · refine lv_iconst (v := 0) hx hb dL_law_759 (by decide) ?_
        cases hf
  · refine lv_iconst (v := 0) hx hb dL_law_742 (by decide) ?_
    cases hf
set_option maxHeartbeats 4000000 in
set_option maxRecDepth 100000 in
theorem w_L_law_764 {p : Program} {l : Launch} {e : Env} {s : State} {m : MethodId} {below : List Frame} {meth : Method} {c : Code} {b L : Nat} {xs : Nat → Int32} {E : gE} {g am : Nat → Nat} {qo : Nat} (hL : L ≤ 2560) (C0 : lw_At p s m meth c b L xs) (hG : gK E s) (hT : gTh (fun q : Nat => s.heap.size ≤ q) s s.heap) (hN : gNc s) (hst : l.stackTraces = false)  (cells slots : Nat) (hcs : cells + 16 ≤ 601000) (hss : slots + 200 ≤ 7293000) (k23_ : TG → TM → (Nat → Int64) → Int32 → Option (Int32)) (hk23_ : ∀ (ad : Nat → Nat → Nat) (H : Heap) (locs : List Loc) (x : TG) (y : TM) (o : Nat → Int64) (l4 : Int32) (ls : Array Slot), k23_ x y o l4 = some 1 → lv_has ls 9 [(0, .ref b), (1, .ref (g 0)), (2, .ref (am 0)), (3, .ref qo), (4, .int l4)] → va_P E.1 vwCl ((cML E am y) ++ ((cOut E qo o) ++ (cGL E g ad x))) H → va_S (fun q : Nat => s.heap.size ≤ q) s.heap H locs → va_D (fun q : Nat => s.heap.size ≤ q) ((cML E am y) ++ ((cOut E qo o) ++ (cGL E g ad x))) → W p l e room_1 s m #[Value.ref b] below meth c H locs (cells + 16) (slots + 200) (lw_Z below #[Value.ref b] s) (F0 m 23 ls [])) : ∀ (ad : Nat → Nat → Nat) (H : Heap) (locs : List Loc) (x : TG) (y : TM) (o : Nat → Int64) (l4 : Int32) (ls : Array Slot), f_L_law_764 xs L k23_ x y o l4 = some 1 → lv_has ls 9 [(0, .ref b), (1, .ref (g 0)), (2, .ref (am 0)), (3, .ref qo), (4, .int l4)] → va_P E.1 vwCl ((cML E am y) ++ ((cOut E qo o) ++ (cGL E g ad x))) H → va_S (fun q : Nat => s.heap.size ≤ q) s.heap H locs → va_D (fun q : Nat => s.heap.size ≤ q) ((cML E am y) ++ ((cOut E qo o) ++ (cGL E g ad x))) → W p l e room_1 s m #[Value.ref b] below meth c H locs cells slots (lw_Z below #[Value.ref b] s) (F0 m 764 ls []) := by
  obtain ⟨hx, hb, hr, hml, hown, hts0, hX, hbl, hlocks, hgv⟩ := id C0
  have hts := gL_hts hts0
  have hbA : ¬ (fun q : Nat => s.heap.size ≤ q) b := Nat.not_le.mpr hbl
  have hA : ∀ q : Nat, s.heap.size ≤ q → (fun q : Nat => s.heap.size ≤ q) q := fun _ h => h
  intro ad H locs x y o l4 ls hf hl hP hS hD
  unfold f_L_law_764 at hf
  refine lv_aload_n hx hb dL_law_764 rfl (lv_at hl 1 rfl) ?_
  have hPc : va_P E.1 vwCl (cGL E g ad x) H := hP.right.right
  have hA1 : ∀ q : Nat, Array.size H ≤ q → (fun q : Nat => s.heap.size ≤ q) q := fun q h => Nat.le_trans hS.1 h
  have hDc : va_D (fun q : Nat => s.heap.size ≤ q) (cGL E g ad x) := hD.right.right
  refine g_callA2 (fun v76 => some (.int v76.1)) (fun v76 ad => (cG E g ad x.1 x.2.1 x.2.2.1 x.2.2.2.1 x.2.2.2.2.1 v76.2 x.2.2.2.2.2.2)) hf (fun v76 hv => va_runV (As := []) (rest := []) ⟨hx, hb, hml, hown, hts⟩ (c_X5_clearBuffer l E g ad x.1 x.2.1 x.2.2.1 x.2.2.2.1 x.2.2.2.2.1 x.2.2.2.2.2.1 x.2.2.2.2.2.2 _ v76 hv) (cwV 0 hts (gd_V q482 q483 q484 q2 q485) rfl rfl rfl (by decide +kernel) ⟨Nat.le_of_ble_eq_true rfl, Nat.le_of_ble_eq_true rfl⟩) (g_preVm hPc hDc hG rfl rfl) rfl rfl hl.1 rfl (lv_room (Nat.le_of_ble_eq_true rfl)) dL_law_765 ⟨(gRc (by (try dsimp only); omega)), (gRs (by (try dsimp only); omega))⟩) hS (va_A.all hDc hA1) (va_A.all hDc hA1) (fun v76 ad H1 locs hf hP1 hD1 hkp hS => ?_)
  obtain ⟨hP2, hD2⟩ := join_end (X := (cML E am y) ++ (cOut E qo o)) (by rw [List.append_assoc]; exact hP) (by rw [List.append_assoc]; exact hD) hA1 hkp hP1 hD1
  rw [List.append_assoc] at hP2 hD2
  clear hP hD hPc hDc hP1 hD1 hkp hA1
  revert hS hP2 hD2; generalize H1 = H; intro hS hP hD
  have hP : va_P E.1 vwCl ((cML E am y) ++ ((cOut E qo o) ++ (cG E g ad x.1 x.2.1 x.2.2.1 x.2.2.2.1 x.2.2.2.2.1 v76.2 x.2.2.2.2.2.2))) H := hP
  have hD : va_D (fun q : Nat => s.heap.size ≤ q) ((cML E am y) ++ ((cOut E qo o) ++ (cG E g ad x.1 x.2.1 x.2.2.1 x.2.2.2.1 x.2.2.2.2.1 v76.2 x.2.2.2.2.2.2))) := hD
  refine W.widen (k := cells) (n := slots) (by (try dsimp only); omega) (by (try dsimp only); omega) ?_
  refine lv_aload_n hx hb dL_law_768 rfl (lv_at hl 2 rfl) ?_
  have hPc : va_P E.1 vwCl (cML E am y) H := hP.left
  have hA1 : ∀ q : Nat, Array.size H ≤ q → (fun q : Nat => s.heap.size ≤ q) q := fun q h => Nat.le_trans hS.1 h
  have hDc : va_D (fun q : Nat => s.heap.size ≤ q) (cML E am y) := hD.left
  refine g_callMi (fun v77 => .int v77.1) (fun v77 => (cM E am 0 v77.2.1 y.2.1 y.2.2.1 y.2.2.2.1 y.2.2.2.2.1 y.2.2.2.2.2.1 v77.2.2 y.2.2.2.2.2.2.2.1 y.2.2.2.2.2.2.2.2.1 y.2.2.2.2.2.2.2.2.2.1 y.2.2.2.2.2.2.2.2.2.2.1 y.2.2.2.2.2.2.2.2.2.2.2.1 y.2.2.2.2.2.2.2.2.2.2.2.2.1 y.2.2.2.2.2.2.2.2.2.2.2.2.2.1 y.2.2.2.2.2.2.2.2.2.2.2.2.2.2.1 y.2.2.2.2.2.2.2.2.2.2.2.2.2.2.2.1 y.2.2.2.2.2.2.2.2.2.2.2.2.2.2.2.2.1 y.2.2.2.2.2.2.2.2.2.2.2.2.2.2.2.2.2.1 y.2.2.2.2.2.2.2.2.2.2.2.2.2.2.2.2.2.2.1 y.2.2.2.2.2.2.2.2.2.2.2.2.2.2.2.2.2.2.2.1 y.2.2.2.2.2.2.2.2.2.2.2.2.2.2.2.2.2.2.2.2)) hf (fun v77 hv => va_runV (As := []) (rest := [.int v76.1]) ⟨hx, hb, hml, hown, hts⟩ (c_X6_clearBuffer l E am 0 y.1 y.2.1 y.2.2.1 y.2.2.2.1 y.2.2.2.2.1 y.2.2.2.2.2.1 y.2.2.2.2.2.2.1 y.2.2.2.2.2.2.2.1 y.2.2.2.2.2.2.2.2.1 y.2.2.2.2.2.2.2.2.2.1 y.2.2.2.2.2.2.2.2.2.2.1 y.2.2.2.2.2.2.2.2.2.2.2.1 y.2.2.2.2.2.2.2.2.2.2.2.2.1 y.2.2.2.2.2.2.2.2.2.2.2.2.2.1 y.2.2.2.2.2.2.2.2.2.2.2.2.2.2.1 y.2.2.2.2.2.2.2.2.2.2.2.2.2.2.2.1 y.2.2.2.2.2.2.2.2.2.2.2.2.2.2.2.2.1 y.2.2.2.2.2.2.2.2.2.2.2.2.2.2.2.2.2.1 y.2.2.2.2.2.2.2.2.2.2.2.2.2.2.2.2.2.2.1 y.2.2.2.2.2.2.2.2.2.2.2.2.2.2.2.2.2.2.2.1 y.2.2.2.2.2.2.2.2.2.2.2.2.2.2.2.2.2.2.2.2 _ v77 hv) (cwV 0 hts (gd_V q486 q487 q488 q5 q489) rfl rfl rfl (by decide +kernel) ⟨Nat.le_of_ble_eq_true rfl, Nat.le_of_ble_eq_true rfl⟩) (g_preVm hPc hDc hG rfl rfl) rfl rfl hl.1 rfl (lv_room (Nat.le_of_ble_eq_true rfl)) dL_law_769 ⟨(gRc (by (try dsimp only); omega)), (gRs (by (try dsimp only); omega))⟩) hS (va_A.all hDc hA1) (va_A.all hDc hA1) (fun v77 H1 locs hf hP1 hsz hkp hS => ?_)
  have hP2 := put_mid (X := []) (C := (cML E am y)) (Y := ((cOut E qo o) ++ (cG E g ad x.1 x.2.1 x.2.2.1 x.2.2.2.1 x.2.2.2.2.1 v76.2 x.2.2.2.2.2.2))) hP hD hkp hP1
  have hD2 : va_D (fun q : Nat => s.heap.size ≤ q) ((cM E am 0 v77.2.1 y.2.1 y.2.2.1 y.2.2.2.1 y.2.2.2.2.1 y.2.2.2.2.2.1 v77.2.2 y.2.2.2.2.2.2.2.1 y.2.2.2.2.2.2.2.2.1 y.2.2.2.2.2.2.2.2.2.1 y.2.2.2.2.2.2.2.2.2.2.1 y.2.2.2.2.2.2.2.2.2.2.2.1 y.2.2.2.2.2.2.2.2.2.2.2.2.1 y.2.2.2.2.2.2.2.2.2.2.2.2.2.1 y.2.2.2.2.2.2.2.2.2.2.2.2.2.2.1 y.2.2.2.2.2.2.2.2.2.2.2.2.2.2.2.1 y.2.2.2.2.2.2.2.2.2.2.2.2.2.2.2.2.1 y.2.2.2.2.2.2.2.2.2.2.2.2.2.2.2.2.2.1 y.2.2.2.2.2.2.2.2.2.2.2.2.2.2.2.2.2.2.1 y.2.2.2.2.2.2.2.2.2.2.2.2.2.2.2.2.2.2.2.1 y.2.2.2.2.2.2.2.2.2.2.2.2.2.2.2.2.2.2.2.2) ++ ((cOut E qo o) ++ (cG E g ad x.1 x.2.1 x.2.2.1 x.2.2.2.1 x.2.2.2.2.1 v76.2 x.2.2.2.2.2.2))) := va_D.sameL hD rfl
  clear hP hD hPc hDc hP1 hsz hkp hA1
  revert hS hP2 hD2; generalize H1 = H; intro hS hP hD
  have hP : va_P E.1 vwCl ((cM E am 0 v77.2.1 y.2.1 y.2.2.1 y.2.2.2.1 y.2.2.2.2.1 y.2.2.2.2.2.1 v77.2.2 y.2.2.2.2.2.2.2.1 y.2.2.2.2.2.2.2.2.1 y.2.2.2.2.2.2.2.2.2.1 y.2.2.2.2.2.2.2.2.2.2.1 y.2.2.2.2.2.2.2.2.2.2.2.1 y.2.2.2.2.2.2.2.2.2.2.2.2.1 y.2.2.2.2.2.2.2.2.2.2.2.2.2.1 y.2.2.2.2.2.2.2.2.2.2.2.2.2.2.1 y.2.2.2.2.2.2.2.2.2.2.2.2.2.2.2.1 y.2.2.2.2.2.2.2.2.2.2.2.2.2.2.2.2.1 y.2.2.2.2.2.2.2.2.2.2.2.2.2.2.2.2.2.1 y.2.2.2.2.2.2.2.2.2.2.2.2.2.2.2.2.2.2.1 y.2.2.2.2.2.2.2.2.2.2.2.2.2.2.2.2.2.2.2.1 y.2.2.2.2.2.2.2.2.2.2.2.2.2.2.2.2.2.2.2.2) ++ ((cOut E qo o) ++ (cG E g ad x.1 x.2.1 x.2.2.1 x.2.2.2.1 x.2.2.2.2.1 v76.2 x.2.2.2.2.2.2))) H := hP
  refine g_icmp_eq (tgt := 1526) hx hb hf dL_law_772 (by decide) (fun hf => ?_) (fun hf => ?_)
  · refine W.widen (k := (cells + 8)) (n := (slots + 82)) (by (try dsimp only); omega) (by (try dsimp only); omega) ?_
    exact w_L_law_1526 hL C0 hG hT hN hst cells slots hcs hss k23_ hk23_ ad _ _ (x.1, x.2.1, x.2.2.1, x.2.2.2.1, x.2.2.2.2.1, v76.2, x.2.2.2.2.2.2) (v77.2.1, y.2.1, y.2.2.1, y.2.2.2.1, y.2.2.2.2.1, y.2.2.2.2.2.1, v77.2.2, y.2.2.2.2.2.2.2.1, y.2.2.2.2.2.2.2.2.1, y.2.2.2.2.2.2.2.2.2.1, y.2.2.2.2.2.2.2.2.2.2.1, y.2.2.2.2.2.2.2.2.2.2.2.1, y.2.2.2.2.2.2.2.2.2.2.2.2.1, y.2.2.2.2.2.2.2.2.2.2.2.2.2.1, y.2.2.2.2.2.2.2.2.2.2.2.2.2.2.1, y.2.2.2.2.2.2.2.2.2.2.2.2.2.2.2.1, y.2.2.2.2.2.2.2.2.2.2.2.2.2.2.2.2.1, y.2.2.2.2.2.2.2.2.2.2.2.2.2.2.2.2.2.1, y.2.2.2.2.2.2.2.2.2.2.2.2.2.2.2.2.2.2.1, y.2.2.2.2.2.2.2.2.2.2.2.2.2.2.2.2.2.2.2.1, y.2.2.2.2.2.2.2.2.2.2.2.2.2.2.2.2.2.2.2.2) o l4 _ hf hl hP hS hD
  · refine lv_iconst (v := 0) hx hb dL_law_775 (by decide) ?_
    cases hf
set_option maxHeartbeats 4000000 in
set_option maxRecDepth 100000 in
theorem w_L_law_777 {p : Program} {l : Launch} {e : Env} {s : State} {m : MethodId} {below : List Frame} {meth : Method} {c : Code} {b L : Nat} {xs : Nat → Int32} {E : gE} {g am : Nat → Nat} {qo : Nat} (hL : L ≤ 2560) (C0 : lw_At p s m meth c b L xs) (hG : gK E s) (hT : gTh (fun q : Nat => s.heap.size ≤ q) s s.heap) (hN : gNc s) (hst : l.stackTraces = false)  (cells slots : Nat) (hcs : cells + 16 ≤ 601000) (hss : slots + 200 ≤ 7293000) (k23_ : TG → TM → (Nat → Int64) → Int32 → Option (Int32)) (hk23_ : ∀ (ad : Nat → Nat → Nat) (H : Heap) (locs : List Loc) (x : TG) (y : TM) (o : Nat → Int64) (l4 : Int32) (ls : Array Slot), k23_ x y o l4 = some 1 → lv_has ls 9 [(0, .ref b), (1, .ref (g 0)), (2, .ref (am 0)), (3, .ref qo), (4, .int l4)] → va_P E.1 vwCl ((cML E am y) ++ ((cOut E qo o) ++ (cGL E g ad x))) H → va_S (fun q : Nat => s.heap.size ≤ q) s.heap H locs → va_D (fun q : Nat => s.heap.size ≤ q) ((cML E am y) ++ ((cOut E qo o) ++ (cGL E g ad x))) → W p l e room_1 s m #[Value.ref b] below meth c H locs (cells + 16) (slots + 200) (lw_Z below #[Value.ref b] s) (F0 m 23 ls [])) : ∀ (ad : Nat → Nat → Nat) (H : Heap) (locs : List Loc) (x : TG) (y : TM) (o : Nat → Int64) (l4 : Int32) (ls : Array Slot), f_L_law_777 xs L k23_ x y o l4 = some 1 → lv_has ls 9 [(0, .ref b), (1, .ref (g 0)), (2, .ref (am 0)), (3, .ref qo), (4, .int l4)] → va_P E.1 vwCl ((cML E am y) ++ ((cOut E qo o) ++ (cGL E g ad x))) H → va_S (fun q : Nat => s.heap.size ≤ q) s.heap H locs → va_D (fun q : Nat => s.heap.size ≤ q) ((cML E am y) ++ ((cOut E qo o) ++ (cGL E g ad x))) → W p l e room_1 s m #[Value.ref b] below meth c H locs cells slots (lw_Z below #[Value.ref b] s) (F0 m 777 ls []) := by
  obtain ⟨hx, hb, hr, hml, hown, hts0, hX, hbl, hlocks, hgv⟩ := id C0
  have hts := gL_hts hts0
  have hbA : ¬ (fun q : Nat => s.heap.size ≤ q) b := Nat.not_le.mpr hbl
  have hA : ∀ q : Nat, s.heap.size ≤ q → (fun q : Nat => s.heap.size ≤ q) q := fun _ h => h
  intro ad H locs x y o l4 ls hf hl hP hS hD
  unfold f_L_law_777 at hf
  refine lv_aload_n hx hb dL_law_777 rfl (lv_at hl 1 rfl) ?_
  have hPc : va_P E.1 vwCl (cGL E g ad x) H := hP.right.right
  have hA1 : ∀ q : Nat, Array.size H ≤ q → (fun q : Nat => s.heap.size ≤ q) q := fun q h => Nat.le_trans hS.1 h
  have hDc : va_D (fun q : Nat => s.heap.size ≤ q) (cGL E g ad x) := hD.right.right
  refine g_callA2 (fun v78 => some (.int v78.1)) (fun v78 ad => (cG E g ad x.1 x.2.1 x.2.2.1 x.2.2.2.1 x.2.2.2.2.1 v78.2 x.2.2.2.2.2.2)) hf (fun v78 hv => va_runV (As := []) (rest := []) ⟨hx, hb, hml, hown, hts⟩ (c_X5_firstError l E g ad x.1 x.2.1 x.2.2.1 x.2.2.2.1 x.2.2.2.2.1 x.2.2.2.2.2.1 x.2.2.2.2.2.2 _ v78 hv) (cwV 0 hts (gd_V q490 q491 q492 q2 q493) rfl rfl rfl (by decide +kernel) ⟨Nat.le_of_ble_eq_true rfl, Nat.le_of_ble_eq_true rfl⟩) (g_preVm hPc hDc hG rfl rfl) rfl rfl hl.1 rfl (lv_room (Nat.le_of_ble_eq_true rfl)) dL_law_778 ⟨(gRc (by (try dsimp only); omega)), (gRs (by (try dsimp only); omega))⟩) hS (va_A.all hDc hA1) (va_A.all hDc hA1) (fun v78 ad H1 locs hf hP1 hD1 hkp hS => ?_)
  obtain ⟨hP2, hD2⟩ := join_end (X := (cML E am y) ++ (cOut E qo o)) (by rw [List.append_assoc]; exact hP) (by rw [List.append_assoc]; exact hD) hA1 hkp hP1 hD1
  rw [List.append_assoc] at hP2 hD2
  clear hP hD hPc hDc hP1 hD1 hkp hA1
  revert hS hP2 hD2; generalize H1 = H; intro hS hP hD
  have hP : va_P E.1 vwCl ((cML E am y) ++ ((cOut E qo o) ++ (cG E g ad x.1 x.2.1 x.2.2.1 x.2.2.2.1 x.2.2.2.2.1 v78.2 x.2.2.2.2.2.2))) H := hP
  have hD : va_D (fun q : Nat => s.heap.size ≤ q) ((cML E am y) ++ ((cOut E qo o) ++ (cG E g ad x.1 x.2.1 x.2.2.1 x.2.2.2.1 x.2.2.2.2.1 v78.2 x.2.2.2.2.2.2))) := hD
  refine W.widen (k := cells) (n := slots) (by (try dsimp only); omega) (by (try dsimp only); omega) ?_
  refine lv_aload_n hx hb dL_law_781 rfl (lv_at hl 2 rfl) ?_
  have hPc : va_P E.1 vwCl (cML E am y) H := hP.left
  have hA1 : ∀ q : Nat, Array.size H ≤ q → (fun q : Nat => s.heap.size ≤ q) q := fun q h => Nat.le_trans hS.1 h
  have hDc : va_D (fun q : Nat => s.heap.size ≤ q) (cML E am y) := hD.left
  refine g_callMi (fun v79 => .int v79.1) (fun v79 => (cM E am 0 v79.2.1 v79.2.2.1 y.2.2.1 y.2.2.2.1 y.2.2.2.2.1 y.2.2.2.2.2.1 y.2.2.2.2.2.2.1 y.2.2.2.2.2.2.2.1 y.2.2.2.2.2.2.2.2.1 y.2.2.2.2.2.2.2.2.2.1 y.2.2.2.2.2.2.2.2.2.2.1 y.2.2.2.2.2.2.2.2.2.2.2.1 y.2.2.2.2.2.2.2.2.2.2.2.2.1 v79.2.2.2.1 v79.2.2.2.2.1 v79.2.2.2.2.2 y.2.2.2.2.2.2.2.2.2.2.2.2.2.2.2.2.1 y.2.2.2.2.2.2.2.2.2.2.2.2.2.2.2.2.2.1 y.2.2.2.2.2.2.2.2.2.2.2.2.2.2.2.2.2.2.1 y.2.2.2.2.2.2.2.2.2.2.2.2.2.2.2.2.2.2.2.1 y.2.2.2.2.2.2.2.2.2.2.2.2.2.2.2.2.2.2.2.2)) hf (fun v79 hv => va_runV (As := []) (rest := [.int v78.1]) ⟨hx, hb, hml, hown, hts⟩ (c_X6_firstError l E am 0 y.1 y.2.1 y.2.2.1 y.2.2.2.1 y.2.2.2.2.1 y.2.2.2.2.2.1 y.2.2.2.2.2.2.1 y.2.2.2.2.2.2.2.1 y.2.2.2.2.2.2.2.2.1 y.2.2.2.2.2.2.2.2.2.1 y.2.2.2.2.2.2.2.2.2.2.1 y.2.2.2.2.2.2.2.2.2.2.2.1 y.2.2.2.2.2.2.2.2.2.2.2.2.1 y.2.2.2.2.2.2.2.2.2.2.2.2.2.1 y.2.2.2.2.2.2.2.2.2.2.2.2.2.2.1 y.2.2.2.2.2.2.2.2.2.2.2.2.2.2.2.1 y.2.2.2.2.2.2.2.2.2.2.2.2.2.2.2.2.1 y.2.2.2.2.2.2.2.2.2.2.2.2.2.2.2.2.2.1 y.2.2.2.2.2.2.2.2.2.2.2.2.2.2.2.2.2.2.1 y.2.2.2.2.2.2.2.2.2.2.2.2.2.2.2.2.2.2.2.1 y.2.2.2.2.2.2.2.2.2.2.2.2.2.2.2.2.2.2.2.2 _ v79 hv) (cwV 0 hts (gd_V q520 q521 q522 q5 q523) rfl rfl rfl (by decide +kernel) ⟨Nat.le_of_ble_eq_true rfl, Nat.le_of_ble_eq_true rfl⟩) (g_preVm hPc hDc hG rfl rfl) rfl rfl hl.1 rfl (lv_room (Nat.le_of_ble_eq_true rfl)) dL_law_782 ⟨(gRc (by (try dsimp only); omega)), (gRs (by (try dsimp only); omega))⟩) hS (va_A.all hDc hA1) (va_A.all hDc hA1) (fun v79 H1 locs hf hP1 hsz hkp hS => ?_)
  have hP2 := put_mid (X := []) (C := (cML E am y)) (Y := ((cOut E qo o) ++ (cG E g ad x.1 x.2.1 x.2.2.1 x.2.2.2.1 x.2.2.2.2.1 v78.2 x.2.2.2.2.2.2))) hP hD hkp hP1
  have hD2 : va_D (fun q : Nat => s.heap.size ≤ q) ((cM E am 0 v79.2.1 v79.2.2.1 y.2.2.1 y.2.2.2.1 y.2.2.2.2.1 y.2.2.2.2.2.1 y.2.2.2.2.2.2.1 y.2.2.2.2.2.2.2.1 y.2.2.2.2.2.2.2.2.1 y.2.2.2.2.2.2.2.2.2.1 y.2.2.2.2.2.2.2.2.2.2.1 y.2.2.2.2.2.2.2.2.2.2.2.1 y.2.2.2.2.2.2.2.2.2.2.2.2.1 v79.2.2.2.1 v79.2.2.2.2.1 v79.2.2.2.2.2 y.2.2.2.2.2.2.2.2.2.2.2.2.2.2.2.2.1 y.2.2.2.2.2.2.2.2.2.2.2.2.2.2.2.2.2.1 y.2.2.2.2.2.2.2.2.2.2.2.2.2.2.2.2.2.2.1 y.2.2.2.2.2.2.2.2.2.2.2.2.2.2.2.2.2.2.2.1 y.2.2.2.2.2.2.2.2.2.2.2.2.2.2.2.2.2.2.2.2) ++ ((cOut E qo o) ++ (cG E g ad x.1 x.2.1 x.2.2.1 x.2.2.2.1 x.2.2.2.2.1 v78.2 x.2.2.2.2.2.2))) := va_D.sameL hD rfl
  clear hP hD hPc hDc hP1 hsz hkp hA1
  revert hS hP2 hD2; generalize H1 = H; intro hS hP hD
  have hP : va_P E.1 vwCl ((cM E am 0 v79.2.1 v79.2.2.1 y.2.2.1 y.2.2.2.1 y.2.2.2.2.1 y.2.2.2.2.2.1 y.2.2.2.2.2.2.1 y.2.2.2.2.2.2.2.1 y.2.2.2.2.2.2.2.2.1 y.2.2.2.2.2.2.2.2.2.1 y.2.2.2.2.2.2.2.2.2.2.1 y.2.2.2.2.2.2.2.2.2.2.2.1 y.2.2.2.2.2.2.2.2.2.2.2.2.1 v79.2.2.2.1 v79.2.2.2.2.1 v79.2.2.2.2.2 y.2.2.2.2.2.2.2.2.2.2.2.2.2.2.2.2.1 y.2.2.2.2.2.2.2.2.2.2.2.2.2.2.2.2.2.1 y.2.2.2.2.2.2.2.2.2.2.2.2.2.2.2.2.2.2.1 y.2.2.2.2.2.2.2.2.2.2.2.2.2.2.2.2.2.2.2.1 y.2.2.2.2.2.2.2.2.2.2.2.2.2.2.2.2.2.2.2.2) ++ ((cOut E qo o) ++ (cG E g ad x.1 x.2.1 x.2.2.1 x.2.2.2.1 x.2.2.2.2.1 v78.2 x.2.2.2.2.2.2))) H := hP
  refine g_icmp_eq (tgt := 1526) hx hb hf dL_law_785 (by decide) (fun hf => ?_) (fun hf => ?_)
  · refine W.widen (k := (cells + 8)) (n := (slots + 82)) (by (try dsimp only); omega) (by (try dsimp only); omega) ?_
    exact w_L_law_1526 hL C0 hG hT hN hst cells slots hcs hss k23_ hk23_ ad _ _ (x.1, x.2.1, x.2.2.1, x.2.2.2.1, x.2.2.2.2.1, v78.2, x.2.2.2.2.2.2) (v79.2.1, v79.2.2.1, y.2.2.1, y.2.2.2.1, y.2.2.2.2.1, y.2.2.2.2.2.1, y.2.2.2.2.2.2.1, y.2.2.2.2.2.2.2.1, y.2.2.2.2.2.2.2.2.1, y.2.2.2.2.2.2.2.2.2.1, y.2.2.2.2.2.2.2.2.2.2.1, y.2.2.2.2.2.2.2.2.2.2.2.1, y.2.2.2.2.2.2.2.2.2.2.2.2.1, v79.2.2.2.1, v79.2.2.2.2.1, v79.2.2.2.2.2, y.2.2.2.2.2.2.2.2.2.2.2.2.2.2.2.2.1, y.2.2.2.2.2.2.2.2.2.2.2.2.2.2.2.2.2.1, y.2.2.2.2.2.2.2.2.2.2.2.2.2.2.2.2.2.2.1, y.2.2.2.2.2.2.2.2.2.2.2.2.2.2.2.2.2.2.2.1, y.2.2.2.2.2.2.2.2.2.2.2.2.2.2.2.2.2.2.2.2) o l4 _ hf hl hP hS hD
  · refine lv_iconst (v := 0) hx hb dL_law_788 (by decide) ?_
    cases hf
set_option maxHeartbeats 4000000 in
set_option maxRecDepth 100000 in
theorem w_L_law_831 {p : Program} {l : Launch} {e : Env} {s : State} {m : MethodId} {below : List Frame} {meth : Method} {c : Code} {b L : Nat} {xs : Nat → Int32} {E : gE} {g am : Nat → Nat} {qo : Nat} (hL : L ≤ 2560) (C0 : lw_At p s m meth c b L xs) (hG : gK E s) (hT : gTh (fun q : Nat => s.heap.size ≤ q) s s.heap) (hN : gNc s) (hst : l.stackTraces = false)  (cells slots : Nat) (hcs : cells + 16 ≤ 601000) (hss : slots + 200 ≤ 7293000) (k23_ : TG → TM → (Nat → Int64) → Int32 → Option (Int32)) (hk23_ : ∀ (ad : Nat → Nat → Nat) (H : Heap) (locs : List Loc) (x : TG) (y : TM) (o : Nat → Int64) (l4 : Int32) (ls : Array Slot), k23_ x y o l4 = some 1 → lv_has ls 9 [(0, .ref b), (1, .ref (g 0)), (2, .ref (am 0)), (3, .ref qo), (4, .int l4)] → va_P E.1 vwCl ((cML E am y) ++ ((cOut E qo o) ++ (cGL E g ad x))) H → va_S (fun q : Nat => s.heap.size ≤ q) s.heap H locs → va_D (fun q : Nat => s.heap.size ≤ q) ((cML E am y) ++ ((cOut E qo o) ++ (cGL E g ad x))) → W p l e room_1 s m #[Value.ref b] below meth c H locs (cells + 16) (slots + 200) (lw_Z below #[Value.ref b] s) (F0 m 23 ls [])) : ∀ (ad : Nat → Nat → Nat) (H : Heap) (locs : List Loc) (x : TG) (y : TM) (o : Nat → Int64) (l4 : Int32) (ls : Array Slot), f_L_law_831 xs L k23_ x y o l4 = some 1 → lv_has ls 9 [(0, .ref b), (1, .ref (g 0)), (2, .ref (am 0)), (3, .ref qo), (4, .int l4)] → va_P E.1 vwCl ((cML E am y) ++ ((cOut E qo o) ++ (cGL E g ad x))) H → va_S (fun q : Nat => s.heap.size ≤ q) s.heap H locs → va_D (fun q : Nat => s.heap.size ≤ q) ((cML E am y) ++ ((cOut E qo o) ++ (cGL E g ad x))) → W p l e room_1 s m #[Value.ref b] below meth c H locs (cells + 6) (slots + 70) (lw_Z below #[Value.ref b] s) (F0 m 831 ls []) := by
  obtain ⟨hx, hb, hr, hml, hown, hts0, hX, hbl, hlocks, hgv⟩ := id C0
  have hts := gL_hts hts0
  have hbA : ¬ (fun q : Nat => s.heap.size ≤ q) b := Nat.not_le.mpr hbl
  have hA : ∀ q : Nat, s.heap.size ≤ q → (fun q : Nat => s.heap.size ≤ q) q := fun _ h => h
  intro ad H locs x y o l4 ls hf hl hP hS hD
  unfold f_L_law_831 at hf
  refine lv_goto (tgt := 1526) hx hb dL_law_831 (by decide) ?_
  refine W.widen (k := (cells + 8)) (n := (slots + 82)) (by (try dsimp only); omega) (by (try dsimp only); omega) ?_
  exact w_L_law_1526 hL C0 hG hT hN hst cells slots hcs hss k23_ hk23_ ad _ _ x y o l4 _ hf hl hP hS hD
set_option maxHeartbeats 4000000 in
set_option maxRecDepth 100000 in
theorem w_L_law_790 {p : Program} {l : Launch} {e : Env} {s : State} {m : MethodId} {below : List Frame} {meth : Method} {c : Code} {b L : Nat} {xs : Nat → Int32} {E : gE} {g am : Nat → Nat} {qo : Nat} (hL : L ≤ 2560) (C0 : lw_At p s m meth c b L xs) (hG : gK E s) (hT : gTh (fun q : Nat => s.heap.size ≤ q) s s.heap) (hN : gNc s) (hst : l.stackTraces = false)  (cells slots : Nat) (hcs : cells + 16 ≤ 601000) (hss : slots + 200 ≤ 7293000) (k23_ : TG → TM → (Nat → Int64) → Int32 → Option (Int32)) (hk23_ : ∀ (ad : Nat → Nat → Nat) (H : Heap) (locs : List Loc) (x : TG) (y : TM) (o : Nat → Int64) (l4 : Int32) (ls : Array Slot), k23_ x y o l4 = some 1 → lv_has ls 9 [(0, .ref b), (1, .ref (g 0)), (2, .ref (am 0)), (3, .ref qo), (4, .int l4)] → va_P E.1 vwCl ((cML E am y) ++ ((cOut E qo o) ++ (cGL E g ad x))) H → va_S (fun q : Nat => s.heap.size ≤ q) s.heap H locs → va_D (fun q : Nat => s.heap.size ≤ q) ((cML E am y) ++ ((cOut E qo o) ++ (cGL E g ad x))) → W p l e room_1 s m #[Value.ref b] below meth c H locs (cells + 16) (slots + 200) (lw_Z below #[Value.ref b] s) (F0 m 23 ls [])) : ∀ (ad : Nat → Nat → Nat) (H : Heap) (locs : List Loc) (x : TG) (y : TM) (o : Nat → Int64) (l4 : Int32) (ls : Array Slot), f_L_law_790 xs L k23_ x y o l4 = some 1 → lv_has ls 9 [(0, .ref b), (1, .ref (g 0)), (2, .ref (am 0)), (3, .ref qo), (4, .int l4)] → va_P E.1 vwCl ((cML E am y) ++ ((cOut E qo o) ++ (cGL E g ad x))) H → va_S (fun q : Nat => s.heap.size ≤ q) s.heap H locs → va_D (fun q : Nat => s.heap.size ≤ q) ((cML E am y) ++ ((cOut E qo o) ++ (cGL E g ad x))) → W p l e room_1 s m #[Value.ref b] below meth c H locs cells slots (lw_Z below #[Value.ref b] s) (F0 m 790 ls []) := by
  obtain ⟨hx, hb, hr, hml, hown, hts0, hX, hbl, hlocks, hgv⟩ := id C0
  have hts := gL_hts hts0
  have hbA : ¬ (fun q : Nat => s.heap.size ≤ q) b := Nat.not_le.mpr hbl
  have hA : ∀ q : Nat, s.heap.size ≤ q → (fun q : Nat => s.heap.size ≤ q) q := fun _ h => h
  intro ad H locs x y o l4 ls hf hl hP hS hD
  unfold f_L_law_790 at hf
  refine lv_aload_n hx hb dL_law_790 rfl (lv_at hl 1 rfl) ?_
  refine lv_aload_n hx hb dL_law_791 rfl (lv_at hl 3 rfl) ?_
  have hA1 : ∀ q : Nat, Array.size H ≤ q → (fun q : Nat => s.heap.size ≤ q) q := fun q h => Nat.le_trans hS.1 h
  have hPc : va_P E.1 vwCl ((cOut E qo o) ++ (cGL E g ad x)) H := hP.right
  have hDc : va_D (fun q : Nat => s.heap.size ≤ q) ((cOut E qo o) ++ (cGL E g ad x)) := hD.right
  refine g_callA2 (fun v80 => some (.int v80.1)) (fun v80 ad => ((cOut E qo v80.2.2.2.2.2.2) ++ (cG E g ad v80.2.1 v80.2.2.1 v80.2.2.2.1 x.2.2.2.1 x.2.2.2.2.1 v80.2.2.2.2.1 v80.2.2.2.2.2.1))) hf (fun v80 hv => vx_runSW (As := [.ref (g 0), .ref qo]) (rest := []) ⟨hx, hb, hml, hown, hts⟩ (c_L_build l E g ad qo x.1 x.2.1 x.2.2.1 x.2.2.2.1 x.2.2.2.2.1 x.2.2.2.2.2.1 x.2.2.2.2.2.2 o  hst _ v80 hv) (vx_cwSW 2 hts (gd_SH q550 q551 qRL q552) rfl rfl rfl (by decide +kernel) ⟨Nat.le_of_ble_eq_true rfl, Nat.le_of_ble_eq_true rfl⟩) (g_preSl hPc hDc hG hT hN hS (va_A.all hDc hA1)) rfl rfl hl.1 rfl (lv_room (Nat.le_of_ble_eq_true rfl)) dL_law_792 ⟨(gRc (by (try dsimp only); omega)), (gRs (by (try dsimp only); omega))⟩) hS (va_A.all hDc hA1) (va_A.all hDc hA1) (fun v80 ad H1 locs hf hP1 hD1 hkp hS => ?_)
  obtain ⟨hP2, hD2⟩ := join_end hP hD hA1 hkp hP1 hD1
  clear hP hD hPc hDc hP1 hD1 hkp hA1
  revert hS hP2 hD2; generalize H1 = H; intro hS hP hD
  have hP : va_P E.1 vwCl ((cML E am y) ++ ((cOut E qo v80.2.2.2.2.2.2) ++ (cG E g ad v80.2.1 v80.2.2.1 v80.2.2.2.1 x.2.2.2.1 x.2.2.2.2.1 v80.2.2.2.2.1 v80.2.2.2.2.2.1))) H := hP
  have hD : va_D (fun q : Nat => s.heap.size ≤ q) ((cML E am y) ++ ((cOut E qo v80.2.2.2.2.2.2) ++ (cG E g ad v80.2.1 v80.2.2.1 v80.2.2.2.1 x.2.2.2.1 x.2.2.2.2.1 v80.2.2.2.2.1 v80.2.2.2.2.2.1))) := hD
  refine W.widen (k := cells + 6) (n := slots + 70) (by (try dsimp only); omega) (by (try dsimp only); omega) ?_
  refine lv_istore (lv' := [(5, .int v80.1), (0, .ref b), (1, .ref (g 0)), (2, .ref (am 0)), (3, .ref qo), (4, .int l4)]) hx hb dL_law_795 hl (by decide) rfl (fun ls hl => ?_)
  refine lv_aload_n hx hb dL_law_797 rfl (lv_at hl 3 rfl) ?_
  have hPc : va_P E.1 vwCl (cML E am y) H := hP.left
  have hA1 : ∀ q : Nat, Array.size H ≤ q → (fun q : Nat => s.heap.size ≤ q) q := fun q h => Nat.le_trans hS.1 h
  have hDc : va_D (fun q : Nat => s.heap.size ≤ q) (cML E am y) := hD.left
  refine g_callMi (fun v81 => .int v81.1) (fun v81 => (cM E am 0 v81.2.1 v81.2.2.1 y.2.2.1 v81.2.2.2.1 v81.2.2.2.2.1 y.2.2.2.2.2.1 v81.2.2.2.2.2.1 y.2.2.2.2.2.2.2.1 y.2.2.2.2.2.2.2.2.1 y.2.2.2.2.2.2.2.2.2.1 y.2.2.2.2.2.2.2.2.2.2.1 y.2.2.2.2.2.2.2.2.2.2.2.1 y.2.2.2.2.2.2.2.2.2.2.2.2.1 v81.2.2.2.2.2.2.1 v81.2.2.2.2.2.2.2.1 v81.2.2.2.2.2.2.2.2 y.2.2.2.2.2.2.2.2.2.2.2.2.2.2.2.2.1 y.2.2.2.2.2.2.2.2.2.2.2.2.2.2.2.2.2.1 y.2.2.2.2.2.2.2.2.2.2.2.2.2.2.2.2.2.2.1 y.2.2.2.2.2.2.2.2.2.2.2.2.2.2.2.2.2.2.2.1 y.2.2.2.2.2.2.2.2.2.2.2.2.2.2.2.2.2.2.2.2)) hf (fun v81 hv => va_runV (As := []) (rest := []) ⟨hx, hb, hml, hown, hts⟩ (c_X6_build l E am 0 y.1 y.2.1 y.2.2.1 y.2.2.2.1 y.2.2.2.2.1 y.2.2.2.2.2.1 y.2.2.2.2.2.2.1 y.2.2.2.2.2.2.2.1 y.2.2.2.2.2.2.2.2.1 y.2.2.2.2.2.2.2.2.2.1 y.2.2.2.2.2.2.2.2.2.2.1 y.2.2.2.2.2.2.2.2.2.2.2.1 y.2.2.2.2.2.2.2.2.2.2.2.2.1 y.2.2.2.2.2.2.2.2.2.2.2.2.2.1 y.2.2.2.2.2.2.2.2.2.2.2.2.2.2.1 y.2.2.2.2.2.2.2.2.2.2.2.2.2.2.2.1 y.2.2.2.2.2.2.2.2.2.2.2.2.2.2.2.2.1 y.2.2.2.2.2.2.2.2.2.2.2.2.2.2.2.2.2.1 y.2.2.2.2.2.2.2.2.2.2.2.2.2.2.2.2.2.2.1 y.2.2.2.2.2.2.2.2.2.2.2.2.2.2.2.2.2.2.2.1 y.2.2.2.2.2.2.2.2.2.2.2.2.2.2.2.2.2.2.2.2 _ v81 hv) (cwV 0 hts (gd_V q567 q568 q569 q5 q570) rfl rfl rfl (by decide +kernel) ⟨Nat.le_of_ble_eq_true rfl, Nat.le_of_ble_eq_true rfl⟩) (g_preVm hPc hDc hG rfl rfl) rfl rfl hl.1 rfl (lv_room (Nat.le_of_ble_eq_true rfl)) dL_law_798 ⟨(gRc (by (try dsimp only); omega)), (gRs (by (try dsimp only); omega))⟩) hS (va_A.all hDc hA1) (va_A.all hDc hA1) (fun v81 H1 locs hf hP1 hsz hkp hS => ?_)
  have hP2 := put_mid (X := []) (C := (cML E am y)) (Y := ((cOut E qo v80.2.2.2.2.2.2) ++ (cG E g ad v80.2.1 v80.2.2.1 v80.2.2.2.1 x.2.2.2.1 x.2.2.2.2.1 v80.2.2.2.2.1 v80.2.2.2.2.2.1))) hP hD hkp hP1
  have hD2 : va_D (fun q : Nat => s.heap.size ≤ q) ((cM E am 0 v81.2.1 v81.2.2.1 y.2.2.1 v81.2.2.2.1 v81.2.2.2.2.1 y.2.2.2.2.2.1 v81.2.2.2.2.2.1 y.2.2.2.2.2.2.2.1 y.2.2.2.2.2.2.2.2.1 y.2.2.2.2.2.2.2.2.2.1 y.2.2.2.2.2.2.2.2.2.2.1 y.2.2.2.2.2.2.2.2.2.2.2.1 y.2.2.2.2.2.2.2.2.2.2.2.2.1 v81.2.2.2.2.2.2.1 v81.2.2.2.2.2.2.2.1 v81.2.2.2.2.2.2.2.2 y.2.2.2.2.2.2.2.2.2.2.2.2.2.2.2.2.1 y.2.2.2.2.2.2.2.2.2.2.2.2.2.2.2.2.2.1 y.2.2.2.2.2.2.2.2.2.2.2.2.2.2.2.2.2.2.1 y.2.2.2.2.2.2.2.2.2.2.2.2.2.2.2.2.2.2.2.1 y.2.2.2.2.2.2.2.2.2.2.2.2.2.2.2.2.2.2.2.2) ++ ((cOut E qo v80.2.2.2.2.2.2) ++ (cG E g ad v80.2.1 v80.2.2.1 v80.2.2.2.1 x.2.2.2.1 x.2.2.2.2.1 v80.2.2.2.2.1 v80.2.2.2.2.2.1))) := va_D.sameL hD rfl
  clear hP hD hPc hDc hP1 hsz hkp hA1
  revert hS hP2 hD2; generalize H1 = H; intro hS hP hD
  have hP : va_P E.1 vwCl ((cM E am 0 v81.2.1 v81.2.2.1 y.2.2.1 v81.2.2.2.1 v81.2.2.2.2.1 y.2.2.2.2.2.1 v81.2.2.2.2.2.1 y.2.2.2.2.2.2.2.1 y.2.2.2.2.2.2.2.2.1 y.2.2.2.2.2.2.2.2.2.1 y.2.2.2.2.2.2.2.2.2.2.1 y.2.2.2.2.2.2.2.2.2.2.2.1 y.2.2.2.2.2.2.2.2.2.2.2.2.1 v81.2.2.2.2.2.2.1 v81.2.2.2.2.2.2.2.1 v81.2.2.2.2.2.2.2.2 y.2.2.2.2.2.2.2.2.2.2.2.2.2.2.2.2.1 y.2.2.2.2.2.2.2.2.2.2.2.2.2.2.2.2.2.1 y.2.2.2.2.2.2.2.2.2.2.2.2.2.2.2.2.2.2.1 y.2.2.2.2.2.2.2.2.2.2.2.2.2.2.2.2.2.2.2.1 y.2.2.2.2.2.2.2.2.2.2.2.2.2.2.2.2.2.2.2.2) ++ ((cOut E qo v80.2.2.2.2.2.2) ++ (cG E g ad v80.2.1 v80.2.2.1 v80.2.2.2.1 x.2.2.2.1 x.2.2.2.2.1 v80.2.2.2.2.1 v80.2.2.2.2.2.1))) H := hP
  refine lv_istore (lv' := [(6, .int v81.1), (5, .int v80.1), (0, .ref b), (1, .ref (g 0)), (2, .ref (am 0)), (3, .ref qo), (4, .int l4)]) hx hb dL_law_801 hl (by decide) rfl (fun ls hl => ?_)
  refine lv_aload_n hx hb dL_law_803 rfl (lv_at hl 4 rfl) ?_
  have hPc : va_P E.1 vwCl (cM E am 0 v81.2.1 v81.2.2.1 y.2.2.1 v81.2.2.2.1 v81.2.2.2.2.1 y.2.2.2.2.2.1 v81.2.2.2.2.2.1 y.2.2.2.2.2.2.2.1 y.2.2.2.2.2.2.2.2.1 y.2.2.2.2.2.2.2.2.2.1 y.2.2.2.2.2.2.2.2.2.2.1 y.2.2.2.2.2.2.2.2.2.2.2.1 y.2.2.2.2.2.2.2.2.2.2.2.2.1 v81.2.2.2.2.2.2.1 v81.2.2.2.2.2.2.2.1 v81.2.2.2.2.2.2.2.2 y.2.2.2.2.2.2.2.2.2.2.2.2.2.2.2.2.1 y.2.2.2.2.2.2.2.2.2.2.2.2.2.2.2.2.2.1 y.2.2.2.2.2.2.2.2.2.2.2.2.2.2.2.2.2.2.1 y.2.2.2.2.2.2.2.2.2.2.2.2.2.2.2.2.2.2.2.1 y.2.2.2.2.2.2.2.2.2.2.2.2.2.2.2.2.2.2.2.2) H := hP.left
  refine g_callR Value.int hf (fun v82 hv => va_runV (As := []) (rest := []) ⟨hx, hb, hml, hown, hts⟩ (c_X6_thrown l E am 0 v81.2.1 v81.2.2.1 y.2.2.1 v81.2.2.2.1 v81.2.2.2.2.1 y.2.2.2.2.2.1 v81.2.2.2.2.2.1 y.2.2.2.2.2.2.2.1 y.2.2.2.2.2.2.2.2.1 y.2.2.2.2.2.2.2.2.2.1 y.2.2.2.2.2.2.2.2.2.2.1 y.2.2.2.2.2.2.2.2.2.2.2.1 y.2.2.2.2.2.2.2.2.2.2.2.2.1 v81.2.2.2.2.2.2.1 v81.2.2.2.2.2.2.2.1 v81.2.2.2.2.2.2.2.2 y.2.2.2.2.2.2.2.2.2.2.2.2.2.2.2.2.1 y.2.2.2.2.2.2.2.2.2.2.2.2.2.2.2.2.2.1 y.2.2.2.2.2.2.2.2.2.2.2.2.2.2.2.2.2.2.1 y.2.2.2.2.2.2.2.2.2.2.2.2.2.2.2.2.2.2.2.1 y.2.2.2.2.2.2.2.2.2.2.2.2.2.2.2.2.2.2.2.2 v82 hv) (cwV 0 hts (gd_V q246 q247 q248 q5 q249) rfl rfl rfl (by decide +kernel) ⟨Nat.le_of_ble_eq_true rfl, Nat.le_of_ble_eq_true rfl⟩) (g_preV hPc hG rfl rfl) rfl rfl hl.1 rfl (lv_room (Nat.le_of_ble_eq_true rfl)) dL_law_804 ⟨(gRc (by (try dsimp only); omega)), (gRs (by (try dsimp only); omega))⟩) (fun v82 hf => ?_)
  clear hPc
  refine lv_iload hx hb dL_law_807 (lv_at hl 1 rfl) ?_
  refine g_icmp_eq (tgt := 814) hx hb hf dL_law_809 (by decide) (fun hf => ?_) (fun hf => ?_)
  · refine lv_iload hx hb dL_law_814 (lv_at hl 1 rfl) ?_
    refine g_if_ne (tgt := 831) hx hb hf dL_law_816 (by decide) (fun hf => ?_) (fun hf => ?_)
    · exact w_L_law_831 hL C0 hG hT hN hst cells slots hcs hss k23_ hk23_ ad _ _ (v80.2.1, v80.2.2.1, v80.2.2.2.1, x.2.2.2.1, x.2.2.2.2.1, v80.2.2.2.2.1, v80.2.2.2.2.2.1) (v81.2.1, v81.2.2.1, y.2.2.1, v81.2.2.2.1, v81.2.2.2.2.1, y.2.2.2.2.2.1, v81.2.2.2.2.2.1, y.2.2.2.2.2.2.2.1, y.2.2.2.2.2.2.2.2.1, y.2.2.2.2.2.2.2.2.2.1, y.2.2.2.2.2.2.2.2.2.2.1, y.2.2.2.2.2.2.2.2.2.2.2.1, y.2.2.2.2.2.2.2.2.2.2.2.2.1, v81.2.2.2.2.2.2.1, v81.2.2.2.2.2.2.2.1, v81.2.2.2.2.2.2.2.2, y.2.2.2.2.2.2.2.2.2.2.2.2.2.2.2.2.1, y.2.2.2.2.2.2.2.2.2.2.2.2.2.2.2.2.2.1, y.2.2.2.2.2.2.2.2.2.2.2.2.2.2.2.2.2.2.1, y.2.2.2.2.2.2.2.2.2.2.2.2.2.2.2.2.2.2.2.1, y.2.2.2.2.2.2.2.2.2.2.2.2.2.2.2.2.2.2.2.2) v80.2.2.2.2.2.2 l4 _ hf (lv_sub hl [2, 3, 4, 5, 6] rfl) hP hS hD
    · refine lv_aload_n hx hb dL_law_819 rfl (lv_at hl 5 rfl) ?_
      refine lv_iconst (v := 0) hx hb dL_law_820 (by decide) ?_
      refine g_lald hx hb hG.1 hP 11 rfl hf dL_law_821 (fun v83 hf => ?_)
      refine lv_iload hx hb dL_law_822 (lv_at hl 0 rfl) ?_
      refine lv_i2l (v := (Int32.toInt64 v81.1)) hx hb dL_law_824 rfl ?_
      refine W.lcmp hx hb dL_law_825 ?_
      refine g_if_eq (tgt := 831) hx hb hf dL_law_826 (by decide) (fun hf => ?_) (fun hf => ?_)
      · exact w_L_law_831 hL C0 hG hT hN hst cells slots hcs hss k23_ hk23_ ad _ _ (v80.2.1, v80.2.2.1, v80.2.2.2.1, x.2.2.2.1, x.2.2.2.2.1, v80.2.2.2.2.1, v80.2.2.2.2.2.1) (v81.2.1, v81.2.2.1, y.2.2.1, v81.2.2.2.1, v81.2.2.2.2.1, y.2.2.2.2.2.1, v81.2.2.2.2.2.1, y.2.2.2.2.2.2.2.1, y.2.2.2.2.2.2.2.2.1, y.2.2.2.2.2.2.2.2.2.1, y.2.2.2.2.2.2.2.2.2.2.1, y.2.2.2.2.2.2.2.2.2.2.2.1, y.2.2.2.2.2.2.2.2.2.2.2.2.1, v81.2.2.2.2.2.2.1, v81.2.2.2.2.2.2.2.1, v81.2.2.2.2.2.2.2.2, y.2.2.2.2.2.2.2.2.2.2.2.2.2.2.2.2.1, y.2.2.2.2.2.2.2.2.2.2.2.2.2.2.2.2.2.1, y.2.2.2.2.2.2.2.2.2.2.2.2.2.2.2.2.2.2.1, y.2.2.2.2.2.2.2.2.2.2.2.2.2.2.2.2.2.2.2.1, y.2.2.2.2.2.2.2.2.2.2.2.2.2.2.2.2.2.2.2.2) v80.2.2.2.2.2.2 l4 _ hf (lv_sub hl [2, 3, 4, 5, 6] rfl) hP hS hD
      · refine lv_iconst (v := 0) hx hb dL_law_829 (by decide) ?_
        cases hf
  · refine lv_iconst (v := 0) hx hb dL_law_812 (by decide) ?_
    cases hf
set_option maxHeartbeats 4000000 in
set_option maxRecDepth 100000 in
theorem w_L_law_875 {p : Program} {l : Launch} {e : Env} {s : State} {m : MethodId} {below : List Frame} {meth : Method} {c : Code} {b L : Nat} {xs : Nat → Int32} {E : gE} {g am : Nat → Nat} {qo : Nat} (hL : L ≤ 2560) (C0 : lw_At p s m meth c b L xs) (hG : gK E s) (hT : gTh (fun q : Nat => s.heap.size ≤ q) s s.heap) (hN : gNc s) (hst : l.stackTraces = false)  (cells slots : Nat) (hcs : cells + 16 ≤ 601000) (hss : slots + 200 ≤ 7293000) (k23_ : TG → TM → (Nat → Int64) → Int32 → Option (Int32)) (hk23_ : ∀ (ad : Nat → Nat → Nat) (H : Heap) (locs : List Loc) (x : TG) (y : TM) (o : Nat → Int64) (l4 : Int32) (ls : Array Slot), k23_ x y o l4 = some 1 → lv_has ls 9 [(0, .ref b), (1, .ref (g 0)), (2, .ref (am 0)), (3, .ref qo), (4, .int l4)] → va_P E.1 vwCl ((cML E am y) ++ ((cOut E qo o) ++ (cGL E g ad x))) H → va_S (fun q : Nat => s.heap.size ≤ q) s.heap H locs → va_D (fun q : Nat => s.heap.size ≤ q) ((cML E am y) ++ ((cOut E qo o) ++ (cGL E g ad x))) → W p l e room_1 s m #[Value.ref b] below meth c H locs (cells + 16) (slots + 200) (lw_Z below #[Value.ref b] s) (F0 m 23 ls [])) : ∀ (ad : Nat → Nat → Nat) (H : Heap) (locs : List Loc) (x : TG) (y : TM) (o : Nat → Int64) (l4 : Int32) (ls : Array Slot), f_L_law_875 xs L k23_ x y o l4 = some 1 → lv_has ls 9 [(0, .ref b), (1, .ref (g 0)), (2, .ref (am 0)), (3, .ref qo), (4, .int l4)] → va_P E.1 vwCl ((cML E am y) ++ ((cOut E qo o) ++ (cGL E g ad x))) H → va_S (fun q : Nat => s.heap.size ≤ q) s.heap H locs → va_D (fun q : Nat => s.heap.size ≤ q) ((cML E am y) ++ ((cOut E qo o) ++ (cGL E g ad x))) → W p l e room_1 s m #[Value.ref b] below meth c H locs (cells + 1) (slots + 6) (lw_Z below #[Value.ref b] s) (F0 m 875 ls []) := by
  obtain ⟨hx, hb, hr, hml, hown, hts0, hX, hbl, hlocks, hgv⟩ := id C0
  have hts := gL_hts hts0
  have hbA : ¬ (fun q : Nat => s.heap.size ≤ q) b := Nat.not_le.mpr hbl
  have hA : ∀ q : Nat, s.heap.size ≤ q → (fun q : Nat => s.heap.size ≤ q) q := fun _ h => h
  intro ad H locs x y o l4 ls hf hl hP hS hD
  unfold f_L_law_875 at hf
  refine lv_goto (tgt := 1526) hx hb dL_law_875 (by decide) ?_
  refine W.widen (k := (cells + 8)) (n := (slots + 82)) (by (try dsimp only); omega) (by (try dsimp only); omega) ?_
  exact w_L_law_1526 hL C0 hG hT hN hst cells slots hcs hss k23_ hk23_ ad _ _ x y o l4 _ hf hl hP hS hD
set_option maxHeartbeats 4000000 in
set_option maxRecDepth 100000 in
theorem w_L_law_834 {p : Program} {l : Launch} {e : Env} {s : State} {m : MethodId} {below : List Frame} {meth : Method} {c : Code} {b L : Nat} {xs : Nat → Int32} {E : gE} {g am : Nat → Nat} {qo : Nat} (hL : L ≤ 2560) (C0 : lw_At p s m meth c b L xs) (hG : gK E s) (hT : gTh (fun q : Nat => s.heap.size ≤ q) s s.heap) (hN : gNc s) (hst : l.stackTraces = false)  (cells slots : Nat) (hcs : cells + 16 ≤ 601000) (hss : slots + 200 ≤ 7293000) (k23_ : TG → TM → (Nat → Int64) → Int32 → Option (Int32)) (hk23_ : ∀ (ad : Nat → Nat → Nat) (H : Heap) (locs : List Loc) (x : TG) (y : TM) (o : Nat → Int64) (l4 : Int32) (ls : Array Slot), k23_ x y o l4 = some 1 → lv_has ls 9 [(0, .ref b), (1, .ref (g 0)), (2, .ref (am 0)), (3, .ref qo), (4, .int l4)] → va_P E.1 vwCl ((cML E am y) ++ ((cOut E qo o) ++ (cGL E g ad x))) H → va_S (fun q : Nat => s.heap.size ≤ q) s.heap H locs → va_D (fun q : Nat => s.heap.size ≤ q) ((cML E am y) ++ ((cOut E qo o) ++ (cGL E g ad x))) → W p l e room_1 s m #[Value.ref b] below meth c H locs (cells + 16) (slots + 200) (lw_Z below #[Value.ref b] s) (F0 m 23 ls [])) : ∀ (ad : Nat → Nat → Nat) (H : Heap) (locs : List Loc) (x : TG) (y : TM) (o : Nat → Int64) (l4 : Int32) (ls : Array Slot), f_L_law_834 xs L k23_ x y o l4 = some 1 → lv_has ls 9 [(0, .ref b), (1, .ref (g 0)), (2, .ref (am 0)), (3, .ref qo), (4, .int l4)] → va_P E.1 vwCl ((cML E am y) ++ ((cOut E qo o) ++ (cGL E g ad x))) H → va_S (fun q : Nat => s.heap.size ≤ q) s.heap H locs → va_D (fun q : Nat => s.heap.size ≤ q) ((cML E am y) ++ ((cOut E qo o) ++ (cGL E g ad x))) → W p l e room_1 s m #[Value.ref b] below meth c H locs cells slots (lw_Z below #[Value.ref b] s) (F0 m 834 ls []) := by
  obtain ⟨hx, hb, hr, hml, hown, hts0, hX, hbl, hlocks, hgv⟩ := id C0
  have hts := gL_hts hts0
  have hbA : ¬ (fun q : Nat => s.heap.size ≤ q) b := Nat.not_le.mpr hbl
  have hA : ∀ q : Nat, s.heap.size ≤ q → (fun q : Nat => s.heap.size ≤ q) q := fun _ h => h
  intro ad H locs x y o l4 ls hf hl hP hS hD
  unfold f_L_law_834 at hf
  refine lv_aload_n hx hb dL_law_834 rfl (lv_at hl 1 rfl) ?_
  refine lv_aload_n hx hb dL_law_835 rfl (lv_at hl 3 rfl) ?_
  have hA1 : ∀ q : Nat, Array.size H ≤ q → (fun q : Nat => s.heap.size ≤ q) q := fun q h => Nat.le_trans hS.1 h
  have hPc : va_P E.1 vwCl ((cOut E qo o) ++ (cGL E g ad x)) H := hP.right
  have hDc : va_D (fun q : Nat => s.heap.size ≤ q) ((cOut E qo o) ++ (cGL E g ad x)) := hD.right
  refine g_callA2 (fun v84 => some (.int v84.1)) (fun v84 ad => ((cOut E qo v84.2.2.2.2) ++ (cG E g ad v84.2.1 v84.2.2.1 x.2.2.1 x.2.2.2.1 x.2.2.2.2.1 x.2.2.2.2.2.1 v84.2.2.2.1))) hf (fun v84 hv => vx_runSW (As := [.ref (g 0), .ref qo]) (rest := []) ⟨hx, hb, hml, hown, hts⟩ (c_L_undo l E g ad qo x.1 x.2.1 x.2.2.1 x.2.2.2.1 x.2.2.2.2.1 x.2.2.2.2.2.1 x.2.2.2.2.2.2 o  hst _ v84 hv) (vx_cwSW 2 hts (gd_SH q571 q572 qRL q573) rfl rfl rfl (by decide +kernel) ⟨Nat.le_of_ble_eq_true rfl, Nat.le_of_ble_eq_true rfl⟩) (g_preSl hPc hDc hG hT hN hS (va_A.all hDc hA1)) rfl rfl hl.1 rfl (lv_room (Nat.le_of_ble_eq_true rfl)) dL_law_836 ⟨(gRc (by (try dsimp only); omega)), (gRs (by (try dsimp only); omega))⟩) hS (va_A.all hDc hA1) (va_A.all hDc hA1) (fun v84 ad H1 locs hf hP1 hD1 hkp hS => ?_)
  obtain ⟨hP2, hD2⟩ := join_end hP hD hA1 hkp hP1 hD1
  clear hP hD hPc hDc hP1 hD1 hkp hA1
  revert hS hP2 hD2; generalize H1 = H; intro hS hP hD
  have hP : va_P E.1 vwCl ((cML E am y) ++ ((cOut E qo v84.2.2.2.2) ++ (cG E g ad v84.2.1 v84.2.2.1 x.2.2.1 x.2.2.2.1 x.2.2.2.2.1 x.2.2.2.2.2.1 v84.2.2.2.1))) H := hP
  have hD : va_D (fun q : Nat => s.heap.size ≤ q) ((cML E am y) ++ ((cOut E qo v84.2.2.2.2) ++ (cG E g ad v84.2.1 v84.2.2.1 x.2.2.1 x.2.2.2.1 x.2.2.2.2.1 x.2.2.2.2.2.1 v84.2.2.2.1))) := hD
  refine W.widen (k := cells + 1) (n := slots + 6) (by (try dsimp only); omega) (by (try dsimp only); omega) ?_
  refine lv_istore (lv' := [(5, .int v84.1), (0, .ref b), (1, .ref (g 0)), (2, .ref (am 0)), (3, .ref qo), (4, .int l4)]) hx hb dL_law_839 hl (by decide) rfl (fun ls hl => ?_)
  refine lv_aload_n hx hb dL_law_841 rfl (lv_at hl 3 rfl) ?_
  have hPc : va_P E.1 vwCl (cML E am y) H := hP.left
  have hA1 : ∀ q : Nat, Array.size H ≤ q → (fun q : Nat => s.heap.size ≤ q) q := fun q h => Nat.le_trans hS.1 h
  have hDc : va_D (fun q : Nat => s.heap.size ≤ q) (cML E am y) := hD.left
  refine g_callMi (fun v85 => .int v85.1) (fun v85 => (cM E am 0 v85.2.1 v85.2.2.1 y.2.2.1 y.2.2.2.1 v85.2.2.2 y.2.2.2.2.2.1 y.2.2.2.2.2.2.1 y.2.2.2.2.2.2.2.1 y.2.2.2.2.2.2.2.2.1 y.2.2.2.2.2.2.2.2.2.1 y.2.2.2.2.2.2.2.2.2.2.1 y.2.2.2.2.2.2.2.2.2.2.2.1 y.2.2.2.2.2.2.2.2.2.2.2.2.1 y.2.2.2.2.2.2.2.2.2.2.2.2.2.1 y.2.2.2.2.2.2.2.2.2.2.2.2.2.2.1 y.2.2.2.2.2.2.2.2.2.2.2.2.2.2.2.1 y.2.2.2.2.2.2.2.2.2.2.2.2.2.2.2.2.1 y.2.2.2.2.2.2.2.2.2.2.2.2.2.2.2.2.2.1 y.2.2.2.2.2.2.2.2.2.2.2.2.2.2.2.2.2.2.1 y.2.2.2.2.2.2.2.2.2.2.2.2.2.2.2.2.2.2.2.1 y.2.2.2.2.2.2.2.2.2.2.2.2.2.2.2.2.2.2.2.2)) hf (fun v85 hv => va_runV (As := []) (rest := []) ⟨hx, hb, hml, hown, hts⟩ (c_X6_undo l E am 0 y.1 y.2.1 y.2.2.1 y.2.2.2.1 y.2.2.2.2.1 y.2.2.2.2.2.1 y.2.2.2.2.2.2.1 y.2.2.2.2.2.2.2.1 y.2.2.2.2.2.2.2.2.1 y.2.2.2.2.2.2.2.2.2.1 y.2.2.2.2.2.2.2.2.2.2.1 y.2.2.2.2.2.2.2.2.2.2.2.1 y.2.2.2.2.2.2.2.2.2.2.2.2.1 y.2.2.2.2.2.2.2.2.2.2.2.2.2.1 y.2.2.2.2.2.2.2.2.2.2.2.2.2.2.1 y.2.2.2.2.2.2.2.2.2.2.2.2.2.2.2.1 y.2.2.2.2.2.2.2.2.2.2.2.2.2.2.2.2.1 y.2.2.2.2.2.2.2.2.2.2.2.2.2.2.2.2.2.1 y.2.2.2.2.2.2.2.2.2.2.2.2.2.2.2.2.2.2.1 y.2.2.2.2.2.2.2.2.2.2.2.2.2.2.2.2.2.2.2.1 y.2.2.2.2.2.2.2.2.2.2.2.2.2.2.2.2.2.2.2.2 _ v85 hv) (cwV 0 hts (gd_V q581 q582 q583 q5 q584) rfl rfl rfl (by decide +kernel) ⟨Nat.le_of_ble_eq_true rfl, Nat.le_of_ble_eq_true rfl⟩) (g_preVm hPc hDc hG rfl rfl) rfl rfl hl.1 rfl (lv_room (Nat.le_of_ble_eq_true rfl)) dL_law_842 ⟨(gRc (by (try dsimp only); omega)), (gRs (by (try dsimp only); omega))⟩) hS (va_A.all hDc hA1) (va_A.all hDc hA1) (fun v85 H1 locs hf hP1 hsz hkp hS => ?_)
  have hP2 := put_mid (X := []) (C := (cML E am y)) (Y := ((cOut E qo v84.2.2.2.2) ++ (cG E g ad v84.2.1 v84.2.2.1 x.2.2.1 x.2.2.2.1 x.2.2.2.2.1 x.2.2.2.2.2.1 v84.2.2.2.1))) hP hD hkp hP1
  have hD2 : va_D (fun q : Nat => s.heap.size ≤ q) ((cM E am 0 v85.2.1 v85.2.2.1 y.2.2.1 y.2.2.2.1 v85.2.2.2 y.2.2.2.2.2.1 y.2.2.2.2.2.2.1 y.2.2.2.2.2.2.2.1 y.2.2.2.2.2.2.2.2.1 y.2.2.2.2.2.2.2.2.2.1 y.2.2.2.2.2.2.2.2.2.2.1 y.2.2.2.2.2.2.2.2.2.2.2.1 y.2.2.2.2.2.2.2.2.2.2.2.2.1 y.2.2.2.2.2.2.2.2.2.2.2.2.2.1 y.2.2.2.2.2.2.2.2.2.2.2.2.2.2.1 y.2.2.2.2.2.2.2.2.2.2.2.2.2.2.2.1 y.2.2.2.2.2.2.2.2.2.2.2.2.2.2.2.2.1 y.2.2.2.2.2.2.2.2.2.2.2.2.2.2.2.2.2.1 y.2.2.2.2.2.2.2.2.2.2.2.2.2.2.2.2.2.2.1 y.2.2.2.2.2.2.2.2.2.2.2.2.2.2.2.2.2.2.2.1 y.2.2.2.2.2.2.2.2.2.2.2.2.2.2.2.2.2.2.2.2) ++ ((cOut E qo v84.2.2.2.2) ++ (cG E g ad v84.2.1 v84.2.2.1 x.2.2.1 x.2.2.2.1 x.2.2.2.2.1 x.2.2.2.2.2.1 v84.2.2.2.1))) := va_D.sameL hD rfl
  clear hP hD hPc hDc hP1 hsz hkp hA1
  revert hS hP2 hD2; generalize H1 = H; intro hS hP hD
  have hP : va_P E.1 vwCl ((cM E am 0 v85.2.1 v85.2.2.1 y.2.2.1 y.2.2.2.1 v85.2.2.2 y.2.2.2.2.2.1 y.2.2.2.2.2.2.1 y.2.2.2.2.2.2.2.1 y.2.2.2.2.2.2.2.2.1 y.2.2.2.2.2.2.2.2.2.1 y.2.2.2.2.2.2.2.2.2.2.1 y.2.2.2.2.2.2.2.2.2.2.2.1 y.2.2.2.2.2.2.2.2.2.2.2.2.1 y.2.2.2.2.2.2.2.2.2.2.2.2.2.1 y.2.2.2.2.2.2.2.2.2.2.2.2.2.2.1 y.2.2.2.2.2.2.2.2.2.2.2.2.2.2.2.1 y.2.2.2.2.2.2.2.2.2.2.2.2.2.2.2.2.1 y.2.2.2.2.2.2.2.2.2.2.2.2.2.2.2.2.2.1 y.2.2.2.2.2.2.2.2.2.2.2.2.2.2.2.2.2.2.1 y.2.2.2.2.2.2.2.2.2.2.2.2.2.2.2.2.2.2.2.1 y.2.2.2.2.2.2.2.2.2.2.2.2.2.2.2.2.2.2.2.2) ++ ((cOut E qo v84.2.2.2.2) ++ (cG E g ad v84.2.1 v84.2.2.1 x.2.2.1 x.2.2.2.1 x.2.2.2.2.1 x.2.2.2.2.2.1 v84.2.2.2.1))) H := hP
  refine lv_istore (lv' := [(6, .int v85.1), (5, .int v84.1), (0, .ref b), (1, .ref (g 0)), (2, .ref (am 0)), (3, .ref qo), (4, .int l4)]) hx hb dL_law_845 hl (by decide) rfl (fun ls hl => ?_)
  refine lv_aload_n hx hb dL_law_847 rfl (lv_at hl 4 rfl) ?_
  have hPc : va_P E.1 vwCl (cM E am 0 v85.2.1 v85.2.2.1 y.2.2.1 y.2.2.2.1 v85.2.2.2 y.2.2.2.2.2.1 y.2.2.2.2.2.2.1 y.2.2.2.2.2.2.2.1 y.2.2.2.2.2.2.2.2.1 y.2.2.2.2.2.2.2.2.2.1 y.2.2.2.2.2.2.2.2.2.2.1 y.2.2.2.2.2.2.2.2.2.2.2.1 y.2.2.2.2.2.2.2.2.2.2.2.2.1 y.2.2.2.2.2.2.2.2.2.2.2.2.2.1 y.2.2.2.2.2.2.2.2.2.2.2.2.2.2.1 y.2.2.2.2.2.2.2.2.2.2.2.2.2.2.2.1 y.2.2.2.2.2.2.2.2.2.2.2.2.2.2.2.2.1 y.2.2.2.2.2.2.2.2.2.2.2.2.2.2.2.2.2.1 y.2.2.2.2.2.2.2.2.2.2.2.2.2.2.2.2.2.2.1 y.2.2.2.2.2.2.2.2.2.2.2.2.2.2.2.2.2.2.2.1 y.2.2.2.2.2.2.2.2.2.2.2.2.2.2.2.2.2.2.2.2) H := hP.left
  refine g_callR Value.int hf (fun v86 hv => va_runV (As := []) (rest := []) ⟨hx, hb, hml, hown, hts⟩ (c_X6_thrown l E am 0 v85.2.1 v85.2.2.1 y.2.2.1 y.2.2.2.1 v85.2.2.2 y.2.2.2.2.2.1 y.2.2.2.2.2.2.1 y.2.2.2.2.2.2.2.1 y.2.2.2.2.2.2.2.2.1 y.2.2.2.2.2.2.2.2.2.1 y.2.2.2.2.2.2.2.2.2.2.1 y.2.2.2.2.2.2.2.2.2.2.2.1 y.2.2.2.2.2.2.2.2.2.2.2.2.1 y.2.2.2.2.2.2.2.2.2.2.2.2.2.1 y.2.2.2.2.2.2.2.2.2.2.2.2.2.2.1 y.2.2.2.2.2.2.2.2.2.2.2.2.2.2.2.1 y.2.2.2.2.2.2.2.2.2.2.2.2.2.2.2.2.1 y.2.2.2.2.2.2.2.2.2.2.2.2.2.2.2.2.2.1 y.2.2.2.2.2.2.2.2.2.2.2.2.2.2.2.2.2.2.1 y.2.2.2.2.2.2.2.2.2.2.2.2.2.2.2.2.2.2.2.1 y.2.2.2.2.2.2.2.2.2.2.2.2.2.2.2.2.2.2.2.2 v86 hv) (cwV 0 hts (gd_V q246 q247 q248 q5 q249) rfl rfl rfl (by decide +kernel) ⟨Nat.le_of_ble_eq_true rfl, Nat.le_of_ble_eq_true rfl⟩) (g_preV hPc hG rfl rfl) rfl rfl hl.1 rfl (lv_room (Nat.le_of_ble_eq_true rfl)) dL_law_848 ⟨(gRc (by (try dsimp only); omega)), (gRs (by (try dsimp only); omega))⟩) (fun v86 hf => ?_)
  clear hPc
  refine lv_iload hx hb dL_law_851 (lv_at hl 1 rfl) ?_
  refine g_icmp_eq (tgt := 858) hx hb hf dL_law_853 (by decide) (fun hf => ?_) (fun hf => ?_)
  · refine lv_iload hx hb dL_law_858 (lv_at hl 1 rfl) ?_
    refine g_if_ne (tgt := 875) hx hb hf dL_law_860 (by decide) (fun hf => ?_) (fun hf => ?_)
    · exact w_L_law_875 hL C0 hG hT hN hst cells slots hcs hss k23_ hk23_ ad _ _ (v84.2.1, v84.2.2.1, x.2.2.1, x.2.2.2.1, x.2.2.2.2.1, x.2.2.2.2.2.1, v84.2.2.2.1) (v85.2.1, v85.2.2.1, y.2.2.1, y.2.2.2.1, v85.2.2.2, y.2.2.2.2.2.1, y.2.2.2.2.2.2.1, y.2.2.2.2.2.2.2.1, y.2.2.2.2.2.2.2.2.1, y.2.2.2.2.2.2.2.2.2.1, y.2.2.2.2.2.2.2.2.2.2.1, y.2.2.2.2.2.2.2.2.2.2.2.1, y.2.2.2.2.2.2.2.2.2.2.2.2.1, y.2.2.2.2.2.2.2.2.2.2.2.2.2.1, y.2.2.2.2.2.2.2.2.2.2.2.2.2.2.1, y.2.2.2.2.2.2.2.2.2.2.2.2.2.2.2.1, y.2.2.2.2.2.2.2.2.2.2.2.2.2.2.2.2.1, y.2.2.2.2.2.2.2.2.2.2.2.2.2.2.2.2.2.1, y.2.2.2.2.2.2.2.2.2.2.2.2.2.2.2.2.2.2.1, y.2.2.2.2.2.2.2.2.2.2.2.2.2.2.2.2.2.2.2.1, y.2.2.2.2.2.2.2.2.2.2.2.2.2.2.2.2.2.2.2.2) v84.2.2.2.2 l4 _ hf (lv_sub hl [2, 3, 4, 5, 6] rfl) hP hS hD
    · refine lv_aload_n hx hb dL_law_863 rfl (lv_at hl 5 rfl) ?_
      refine lv_iconst (v := 0) hx hb dL_law_864 (by decide) ?_
      refine g_lald hx hb hG.1 hP 11 rfl hf dL_law_865 (fun v87 hf => ?_)
      refine lv_iload hx hb dL_law_866 (lv_at hl 0 rfl) ?_
      refine lv_i2l (v := (Int32.toInt64 v85.1)) hx hb dL_law_868 rfl ?_
      refine W.lcmp hx hb dL_law_869 ?_
      refine g_if_eq (tgt := 875) hx hb hf dL_law_870 (by decide) (fun hf => ?_) (fun hf => ?_)
      · exact w_L_law_875 hL C0 hG hT hN hst cells slots hcs hss k23_ hk23_ ad _ _ (v84.2.1, v84.2.2.1, x.2.2.1, x.2.2.2.1, x.2.2.2.2.1, x.2.2.2.2.2.1, v84.2.2.2.1) (v85.2.1, v85.2.2.1, y.2.2.1, y.2.2.2.1, v85.2.2.2, y.2.2.2.2.2.1, y.2.2.2.2.2.2.1, y.2.2.2.2.2.2.2.1, y.2.2.2.2.2.2.2.2.1, y.2.2.2.2.2.2.2.2.2.1, y.2.2.2.2.2.2.2.2.2.2.1, y.2.2.2.2.2.2.2.2.2.2.2.1, y.2.2.2.2.2.2.2.2.2.2.2.2.1, y.2.2.2.2.2.2.2.2.2.2.2.2.2.1, y.2.2.2.2.2.2.2.2.2.2.2.2.2.2.1, y.2.2.2.2.2.2.2.2.2.2.2.2.2.2.2.1, y.2.2.2.2.2.2.2.2.2.2.2.2.2.2.2.2.1, y.2.2.2.2.2.2.2.2.2.2.2.2.2.2.2.2.2.1, y.2.2.2.2.2.2.2.2.2.2.2.2.2.2.2.2.2.2.1, y.2.2.2.2.2.2.2.2.2.2.2.2.2.2.2.2.2.2.2.1, y.2.2.2.2.2.2.2.2.2.2.2.2.2.2.2.2.2.2.2.2) v84.2.2.2.2 l4 _ hf (lv_sub hl [2, 3, 4, 5, 6] rfl) hP hS hD
      · refine lv_iconst (v := 0) hx hb dL_law_873 (by decide) ?_
        cases hf
  · refine lv_iconst (v := 0) hx hb dL_law_856 (by decide) ?_
    cases hf
set_option maxHeartbeats 4000000 in
set_option maxRecDepth 100000 in
theorem w_L_law_943 {p : Program} {l : Launch} {e : Env} {s : State} {m : MethodId} {below : List Frame} {meth : Method} {c : Code} {b L : Nat} {xs : Nat → Int32} {E : gE} {g am : Nat → Nat} {qo : Nat} (hL : L ≤ 2560) (C0 : lw_At p s m meth c b L xs) (hG : gK E s) (hT : gTh (fun q : Nat => s.heap.size ≤ q) s s.heap) (hN : gNc s) (hst : l.stackTraces = false)  (cells slots : Nat) (hcs : cells + 16 ≤ 601000) (hss : slots + 200 ≤ 7293000) (k23_ : TG → TM → (Nat → Int64) → Int32 → Option (Int32)) (hk23_ : ∀ (ad : Nat → Nat → Nat) (H : Heap) (locs : List Loc) (x : TG) (y : TM) (o : Nat → Int64) (l4 : Int32) (ls : Array Slot), k23_ x y o l4 = some 1 → lv_has ls 9 [(0, .ref b), (1, .ref (g 0)), (2, .ref (am 0)), (3, .ref qo), (4, .int l4)] → va_P E.1 vwCl ((cML E am y) ++ ((cOut E qo o) ++ (cGL E g ad x))) H → va_S (fun q : Nat => s.heap.size ≤ q) s.heap H locs → va_D (fun q : Nat => s.heap.size ≤ q) ((cML E am y) ++ ((cOut E qo o) ++ (cGL E g ad x))) → W p l e room_1 s m #[Value.ref b] below meth c H locs (cells + 16) (slots + 200) (lw_Z below #[Value.ref b] s) (F0 m 23 ls [])) : ∀ (ad : Nat → Nat → Nat) (H : Heap) (locs : List Loc) (x : TG) (y : TM) (o : Nat → Int64) (l4 : Int32) (ls : Array Slot), f_L_law_943 xs L k23_ x y o l4 = some 1 → lv_has ls 9 [(0, .ref b), (1, .ref (g 0)), (2, .ref (am 0)), (3, .ref qo), (4, .int l4)] → va_P E.1 vwCl ((cML E am y) ++ ((cOut E qo o) ++ (cGL E g ad x))) H → va_S (fun q : Nat => s.heap.size ≤ q) s.heap H locs → va_D (fun q : Nat => s.heap.size ≤ q) ((cML E am y) ++ ((cOut E qo o) ++ (cGL E g ad x))) → W p l e room_1 s m #[Value.ref b] below meth c H locs (cells + 2) (slots + 12) (lw_Z below #[Value.ref b] s) (F0 m 943 ls []) := by
  obtain ⟨hx, hb, hr, hml, hown, hts0, hX, hbl, hlocks, hgv⟩ := id C0
  have hts := gL_hts hts0
  have hbA : ¬ (fun q : Nat => s.heap.size ≤ q) b := Nat.not_le.mpr hbl
  have hA : ∀ q : Nat, s.heap.size ≤ q → (fun q : Nat => s.heap.size ≤ q) q := fun _ h => h
  intro ad H locs x y o l4 ls hf hl hP hS hD
  unfold f_L_law_943 at hf
  refine lv_goto (tgt := 1526) hx hb dL_law_943 (by decide) ?_
  refine W.widen (k := (cells + 8)) (n := (slots + 82)) (by (try dsimp only); omega) (by (try dsimp only); omega) ?_
  exact w_L_law_1526 hL C0 hG hT hN hst cells slots hcs hss k23_ hk23_ ad _ _ x y o l4 _ hf hl hP hS hD
set_option maxHeartbeats 4000000 in
set_option maxRecDepth 100000 in
theorem w_L_law_878 {p : Program} {l : Launch} {e : Env} {s : State} {m : MethodId} {below : List Frame} {meth : Method} {c : Code} {b L : Nat} {xs : Nat → Int32} {E : gE} {g am : Nat → Nat} {qo : Nat} (hL : L ≤ 2560) (C0 : lw_At p s m meth c b L xs) (hG : gK E s) (hT : gTh (fun q : Nat => s.heap.size ≤ q) s s.heap) (hN : gNc s) (hst : l.stackTraces = false)  (cells slots : Nat) (hcs : cells + 16 ≤ 601000) (hss : slots + 200 ≤ 7293000) (k23_ : TG → TM → (Nat → Int64) → Int32 → Option (Int32)) (hk23_ : ∀ (ad : Nat → Nat → Nat) (H : Heap) (locs : List Loc) (x : TG) (y : TM) (o : Nat → Int64) (l4 : Int32) (ls : Array Slot), k23_ x y o l4 = some 1 → lv_has ls 9 [(0, .ref b), (1, .ref (g 0)), (2, .ref (am 0)), (3, .ref qo), (4, .int l4)] → va_P E.1 vwCl ((cML E am y) ++ ((cOut E qo o) ++ (cGL E g ad x))) H → va_S (fun q : Nat => s.heap.size ≤ q) s.heap H locs → va_D (fun q : Nat => s.heap.size ≤ q) ((cML E am y) ++ ((cOut E qo o) ++ (cGL E g ad x))) → W p l e room_1 s m #[Value.ref b] below meth c H locs (cells + 16) (slots + 200) (lw_Z below #[Value.ref b] s) (F0 m 23 ls [])) : ∀ (ad : Nat → Nat → Nat) (H : Heap) (locs : List Loc) (x : TG) (y : TM) (o : Nat → Int64) (l4 : Int32) (ls : Array Slot), f_L_law_878 xs L k23_ x y o l4 = some 1 → lv_has ls 9 [(0, .ref b), (1, .ref (g 0)), (2, .ref (am 0)), (3, .ref qo), (4, .int l4)] → va_P E.1 vwCl ((cML E am y) ++ ((cOut E qo o) ++ (cGL E g ad x))) H → va_S (fun q : Nat => s.heap.size ≤ q) s.heap H locs → va_D (fun q : Nat => s.heap.size ≤ q) ((cML E am y) ++ ((cOut E qo o) ++ (cGL E g ad x))) → W p l e room_1 s m #[Value.ref b] below meth c H locs cells slots (lw_Z below #[Value.ref b] s) (F0 m 878 ls []) := by
  obtain ⟨hx, hb, hr, hml, hown, hts0, hX, hbl, hlocks, hgv⟩ := id C0
  have hts := gL_hts hts0
  have hbA : ¬ (fun q : Nat => s.heap.size ≤ q) b := Nat.not_le.mpr hbl
  have hA : ∀ q : Nat, s.heap.size ≤ q → (fun q : Nat => s.heap.size ≤ q) q := fun _ h => h
  intro ad H locs x y o l4 ls hf hl hP hS hD
  unfold f_L_law_878 at hf
  refine lv_aload_n hx hb dL_law_878 rfl (lv_at hl 1 rfl) ?_
  refine lv_aload_n hx hb dL_law_879 rfl (lv_at hl 0 rfl) ?_
  refine lv_iload hx hb dL_law_880 (lv_at hl 4 rfl) ?_
  refine lv_iconst (v := 1) hx hb dL_law_882 (by decide) ?_
  refine lv_iadd hx hb dL_law_883 ?_
  refine g_sld hx hb hX hbl hbA hS hf dL_law_884 (fun v88 hf => ?_)
  refine lv_aload_n hx hb dL_law_885 rfl (lv_at hl 0 rfl) ?_
  refine lv_iload hx hb dL_law_886 (lv_at hl 4 rfl) ?_
  refine lv_iconst (v := 2) hx hb dL_law_888 (by decide) ?_
  refine lv_iadd hx hb dL_law_889 ?_
  refine g_sld hx hb hX hbl hbA hS hf dL_law_890 (fun v89 hf => ?_)
  refine lv_aload_n hx hb dL_law_891 rfl (lv_at hl 3 rfl) ?_
  have hA1 : ∀ q : Nat, Array.size H ≤ q → (fun q : Nat => s.heap.size ≤ q) q := fun q h => Nat.le_trans hS.1 h
  have hPc : va_P E.1 vwCl ((cOut E qo o) ++ (cGL E g ad x)) H := hP.right
  have hDc : va_D (fun q : Nat => s.heap.size ≤ q) ((cOut E qo o) ++ (cGL E g ad x)) := hD.right
  refine g_callA2 (fun v90 => some (.int v90.1)) (fun v90 ad => ((cOut E qo v90.2) ++ (cGL E g ad x))) hf (fun v90 hv => vx_runSW (As := [.ref (g 0), .int v88, .int v89, .ref qo]) (rest := []) ⟨hx, hb, hml, hown, hts⟩ (c_L_peg l E g ad qo x.1 x.2.1 x.2.2.1 x.2.2.2.1 x.2.2.2.2.1 x.2.2.2.2.2.1 x.2.2.2.2.2.2 o v88 v89 hst _ v90 hv) (vx_cwSW 4 hts (gd_SH q585 q586 qRL q587) rfl rfl rfl (by decide +kernel) ⟨Nat.le_of_ble_eq_true rfl, Nat.le_of_ble_eq_true rfl⟩) (g_preSl hPc hDc hG hT hN hS (va_A.all hDc hA1)) rfl rfl hl.1 rfl (lv_room (Nat.le_of_ble_eq_true rfl)) dL_law_892 ⟨(gRc (by (try dsimp only); omega)), (gRs (by (try dsimp only); omega))⟩) hS (va_A.all hDc hA1) (va_A.all hDc hA1) (fun v90 ad H1 locs hf hP1 hD1 hkp hS => ?_)
  obtain ⟨hP2, hD2⟩ := join_end hP hD hA1 hkp hP1 hD1
  clear hP hD hPc hDc hP1 hD1 hkp hA1
  revert hS hP2 hD2; generalize H1 = H; intro hS hP hD
  have hP : va_P E.1 vwCl ((cML E am y) ++ ((cOut E qo v90.2) ++ (cGL E g ad x))) H := hP
  have hD : va_D (fun q : Nat => s.heap.size ≤ q) ((cML E am y) ++ ((cOut E qo v90.2) ++ (cGL E g ad x))) := hD
  refine W.widen (k := cells + 2) (n := slots + 12) (by (try dsimp only); omega) (by (try dsimp only); omega) ?_
  refine lv_istore (lv' := [(5, .int v90.1), (0, .ref b), (1, .ref (g 0)), (2, .ref (am 0)), (3, .ref qo), (4, .int l4)]) hx hb dL_law_895 hl (by decide) rfl (fun ls hl => ?_)
  refine lv_aload_n hx hb dL_law_897 rfl (lv_at hl 3 rfl) ?_
  refine lv_aload_n hx hb dL_law_898 rfl (lv_at hl 1 rfl) ?_
  refine lv_iload hx hb dL_law_899 (lv_at hl 5 rfl) ?_
  refine lv_iconst (v := 1) hx hb dL_law_901 (by decide) ?_
  refine lv_iadd hx hb dL_law_902 ?_
  refine g_sld hx hb hX hbl hbA hS hf dL_law_903 (fun v91 hf => ?_)
  refine lv_aload_n hx hb dL_law_904 rfl (lv_at hl 1 rfl) ?_
  refine lv_iload hx hb dL_law_905 (lv_at hl 5 rfl) ?_
  refine lv_iconst (v := 2) hx hb dL_law_907 (by decide) ?_
  refine lv_iadd hx hb dL_law_908 ?_
  refine g_sld hx hb hX hbl hbA hS hf dL_law_909 (fun v92 hf => ?_)
  have hPc : va_P E.1 vwCl (cML E am y) H := hP.left
  have hA1 : ∀ q : Nat, Array.size H ≤ q → (fun q : Nat => s.heap.size ≤ q) q := fun q h => Nat.le_trans hS.1 h
  have hDc : va_D (fun q : Nat => s.heap.size ≤ q) (cML E am y) := hD.left
  refine g_callMi (fun v93 => .int v93.1) (fun v93 => (cM E am 0 v93.2.1 y.2.1 y.2.2.1 y.2.2.2.1 y.2.2.2.2.1 y.2.2.2.2.2.1 y.2.2.2.2.2.2.1 v93.2.2.1 v93.2.2.2.1 v93.2.2.2.2.1 v93.2.2.2.2.2.1 v93.2.2.2.2.2.2.1 v93.2.2.2.2.2.2.2 y.2.2.2.2.2.2.2.2.2.2.2.2.2.1 y.2.2.2.2.2.2.2.2.2.2.2.2.2.2.1 y.2.2.2.2.2.2.2.2.2.2.2.2.2.2.2.1 y.2.2.2.2.2.2.2.2.2.2.2.2.2.2.2.2.1 y.2.2.2.2.2.2.2.2.2.2.2.2.2.2.2.2.2.1 y.2.2.2.2.2.2.2.2.2.2.2.2.2.2.2.2.2.2.1 y.2.2.2.2.2.2.2.2.2.2.2.2.2.2.2.2.2.2.2.1 y.2.2.2.2.2.2.2.2.2.2.2.2.2.2.2.2.2.2.2.2)) hf (fun v93 hv => va_runV (As := [.int v91, .int v92]) (rest := []) ⟨hx, hb, hml, hown, hts⟩ (c_X6_peg l E am 0 y.1 y.2.1 y.2.2.1 y.2.2.2.1 y.2.2.2.2.1 y.2.2.2.2.2.1 y.2.2.2.2.2.2.1 y.2.2.2.2.2.2.2.1 y.2.2.2.2.2.2.2.2.1 y.2.2.2.2.2.2.2.2.2.1 y.2.2.2.2.2.2.2.2.2.2.1 y.2.2.2.2.2.2.2.2.2.2.2.1 y.2.2.2.2.2.2.2.2.2.2.2.2.1 y.2.2.2.2.2.2.2.2.2.2.2.2.2.1 y.2.2.2.2.2.2.2.2.2.2.2.2.2.2.1 y.2.2.2.2.2.2.2.2.2.2.2.2.2.2.2.1 y.2.2.2.2.2.2.2.2.2.2.2.2.2.2.2.2.1 y.2.2.2.2.2.2.2.2.2.2.2.2.2.2.2.2.2.1 y.2.2.2.2.2.2.2.2.2.2.2.2.2.2.2.2.2.2.1 y.2.2.2.2.2.2.2.2.2.2.2.2.2.2.2.2.2.2.2.1 y.2.2.2.2.2.2.2.2.2.2.2.2.2.2.2.2.2.2.2.2 v91 v92 _ v93 hv) (cwV 2 hts (gd_V q599 q600 q601 q5 q602) rfl rfl rfl (by decide +kernel) ⟨Nat.le_of_ble_eq_true rfl, Nat.le_of_ble_eq_true rfl⟩) (g_preVm hPc hDc hG rfl rfl) rfl rfl hl.1 rfl (lv_room (Nat.le_of_ble_eq_true rfl)) dL_law_910 ⟨(gRc (by (try dsimp only); omega)), (gRs (by (try dsimp only); omega))⟩) hS (va_A.all hDc hA1) (va_A.all hDc hA1) (fun v93 H1 locs hf hP1 hsz hkp hS => ?_)
  have hP2 := put_mid (X := []) (C := (cML E am y)) (Y := ((cOut E qo v90.2) ++ (cGL E g ad x))) hP hD hkp hP1
  have hD2 : va_D (fun q : Nat => s.heap.size ≤ q) ((cM E am 0 v93.2.1 y.2.1 y.2.2.1 y.2.2.2.1 y.2.2.2.2.1 y.2.2.2.2.2.1 y.2.2.2.2.2.2.1 v93.2.2.1 v93.2.2.2.1 v93.2.2.2.2.1 v93.2.2.2.2.2.1 v93.2.2.2.2.2.2.1 v93.2.2.2.2.2.2.2 y.2.2.2.2.2.2.2.2.2.2.2.2.2.1 y.2.2.2.2.2.2.2.2.2.2.2.2.2.2.1 y.2.2.2.2.2.2.2.2.2.2.2.2.2.2.2.1 y.2.2.2.2.2.2.2.2.2.2.2.2.2.2.2.2.1 y.2.2.2.2.2.2.2.2.2.2.2.2.2.2.2.2.2.1 y.2.2.2.2.2.2.2.2.2.2.2.2.2.2.2.2.2.2.1 y.2.2.2.2.2.2.2.2.2.2.2.2.2.2.2.2.2.2.2.1 y.2.2.2.2.2.2.2.2.2.2.2.2.2.2.2.2.2.2.2.2) ++ ((cOut E qo v90.2) ++ (cGL E g ad x))) := va_D.sameL hD rfl
  clear hP hD hPc hDc hP1 hsz hkp hA1
  revert hS hP2 hD2; generalize H1 = H; intro hS hP hD
  have hP : va_P E.1 vwCl ((cM E am 0 v93.2.1 y.2.1 y.2.2.1 y.2.2.2.1 y.2.2.2.2.1 y.2.2.2.2.2.1 y.2.2.2.2.2.2.1 v93.2.2.1 v93.2.2.2.1 v93.2.2.2.2.1 v93.2.2.2.2.2.1 v93.2.2.2.2.2.2.1 v93.2.2.2.2.2.2.2 y.2.2.2.2.2.2.2.2.2.2.2.2.2.1 y.2.2.2.2.2.2.2.2.2.2.2.2.2.2.1 y.2.2.2.2.2.2.2.2.2.2.2.2.2.2.2.1 y.2.2.2.2.2.2.2.2.2.2.2.2.2.2.2.2.1 y.2.2.2.2.2.2.2.2.2.2.2.2.2.2.2.2.2.1 y.2.2.2.2.2.2.2.2.2.2.2.2.2.2.2.2.2.2.1 y.2.2.2.2.2.2.2.2.2.2.2.2.2.2.2.2.2.2.2.1 y.2.2.2.2.2.2.2.2.2.2.2.2.2.2.2.2.2.2.2.2) ++ ((cOut E qo v90.2) ++ (cGL E g ad x))) H := hP
  refine lv_istore (lv' := [(6, .int v93.1), (5, .int v90.1), (0, .ref b), (1, .ref (g 0)), (2, .ref (am 0)), (3, .ref qo), (4, .int l4)]) hx hb dL_law_913 hl (by decide) rfl (fun ls hl => ?_)
  refine lv_aload_n hx hb dL_law_915 rfl (lv_at hl 4 rfl) ?_
  have hPc : va_P E.1 vwCl (cM E am 0 v93.2.1 y.2.1 y.2.2.1 y.2.2.2.1 y.2.2.2.2.1 y.2.2.2.2.2.1 y.2.2.2.2.2.2.1 v93.2.2.1 v93.2.2.2.1 v93.2.2.2.2.1 v93.2.2.2.2.2.1 v93.2.2.2.2.2.2.1 v93.2.2.2.2.2.2.2 y.2.2.2.2.2.2.2.2.2.2.2.2.2.1 y.2.2.2.2.2.2.2.2.2.2.2.2.2.2.1 y.2.2.2.2.2.2.2.2.2.2.2.2.2.2.2.1 y.2.2.2.2.2.2.2.2.2.2.2.2.2.2.2.2.1 y.2.2.2.2.2.2.2.2.2.2.2.2.2.2.2.2.2.1 y.2.2.2.2.2.2.2.2.2.2.2.2.2.2.2.2.2.2.1 y.2.2.2.2.2.2.2.2.2.2.2.2.2.2.2.2.2.2.2.1 y.2.2.2.2.2.2.2.2.2.2.2.2.2.2.2.2.2.2.2.2) H := hP.left
  refine g_callR Value.int hf (fun v94 hv => va_runV (As := []) (rest := []) ⟨hx, hb, hml, hown, hts⟩ (c_X6_thrown l E am 0 v93.2.1 y.2.1 y.2.2.1 y.2.2.2.1 y.2.2.2.2.1 y.2.2.2.2.2.1 y.2.2.2.2.2.2.1 v93.2.2.1 v93.2.2.2.1 v93.2.2.2.2.1 v93.2.2.2.2.2.1 v93.2.2.2.2.2.2.1 v93.2.2.2.2.2.2.2 y.2.2.2.2.2.2.2.2.2.2.2.2.2.1 y.2.2.2.2.2.2.2.2.2.2.2.2.2.2.1 y.2.2.2.2.2.2.2.2.2.2.2.2.2.2.2.1 y.2.2.2.2.2.2.2.2.2.2.2.2.2.2.2.2.1 y.2.2.2.2.2.2.2.2.2.2.2.2.2.2.2.2.2.1 y.2.2.2.2.2.2.2.2.2.2.2.2.2.2.2.2.2.2.1 y.2.2.2.2.2.2.2.2.2.2.2.2.2.2.2.2.2.2.2.1 y.2.2.2.2.2.2.2.2.2.2.2.2.2.2.2.2.2.2.2.2 v94 hv) (cwV 0 hts (gd_V q246 q247 q248 q5 q249) rfl rfl rfl (by decide +kernel) ⟨Nat.le_of_ble_eq_true rfl, Nat.le_of_ble_eq_true rfl⟩) (g_preV hPc hG rfl rfl) rfl rfl hl.1 rfl (lv_room (Nat.le_of_ble_eq_true rfl)) dL_law_916 ⟨(gRc (by (try dsimp only); omega)), (gRs (by (try dsimp only); omega))⟩) (fun v94 hf => ?_)
  clear hPc
  refine lv_iload hx hb dL_law_919 (lv_at hl 1 rfl) ?_
  refine g_icmp_eq (tgt := 926) hx hb hf dL_law_921 (by decide) (fun hf => ?_) (fun hf => ?_)
  · refine lv_iload hx hb dL_law_926 (lv_at hl 1 rfl) ?_
    refine g_if_ne (tgt := 943) hx hb hf dL_law_928 (by decide) (fun hf => ?_) (fun hf => ?_)
    · exact w_L_law_943 hL C0 hG hT hN hst cells slots hcs hss k23_ hk23_ ad _ _ x (v93.2.1, y.2.1, y.2.2.1, y.2.2.2.1, y.2.2.2.2.1, y.2.2.2.2.2.1, y.2.2.2.2.2.2.1, v93.2.2.1, v93.2.2.2.1, v93.2.2.2.2.1, v93.2.2.2.2.2.1, v93.2.2.2.2.2.2.1, v93.2.2.2.2.2.2.2, y.2.2.2.2.2.2.2.2.2.2.2.2.2.1, y.2.2.2.2.2.2.2.2.2.2.2.2.2.2.1, y.2.2.2.2.2.2.2.2.2.2.2.2.2.2.2.1, y.2.2.2.2.2.2.2.2.2.2.2.2.2.2.2.2.1, y.2.2.2.2.2.2.2.2.2.2.2.2.2.2.2.2.2.1, y.2.2.2.2.2.2.2.2.2.2.2.2.2.2.2.2.2.2.1, y.2.2.2.2.2.2.2.2.2.2.2.2.2.2.2.2.2.2.2.1, y.2.2.2.2.2.2.2.2.2.2.2.2.2.2.2.2.2.2.2.2) v90.2 l4 _ hf (lv_sub hl [2, 3, 4, 5, 6] rfl) hP hS hD
    · refine lv_aload_n hx hb dL_law_931 rfl (lv_at hl 5 rfl) ?_
      refine lv_iconst (v := 0) hx hb dL_law_932 (by decide) ?_
      refine g_lald hx hb hG.1 hP 11 rfl hf dL_law_933 (fun v95 hf => ?_)
      refine lv_iload hx hb dL_law_934 (lv_at hl 0 rfl) ?_
      refine lv_i2l (v := (Int32.toInt64 v93.1)) hx hb dL_law_936 rfl ?_
      refine W.lcmp hx hb dL_law_937 ?_
      refine g_if_eq (tgt := 943) hx hb hf dL_law_938 (by decide) (fun hf => ?_) (fun hf => ?_)
      · exact w_L_law_943 hL C0 hG hT hN hst cells slots hcs hss k23_ hk23_ ad _ _ x (v93.2.1, y.2.1, y.2.2.1, y.2.2.2.1, y.2.2.2.2.1, y.2.2.2.2.2.1, y.2.2.2.2.2.2.1, v93.2.2.1, v93.2.2.2.1, v93.2.2.2.2.1, v93.2.2.2.2.2.1, v93.2.2.2.2.2.2.1, v93.2.2.2.2.2.2.2, y.2.2.2.2.2.2.2.2.2.2.2.2.2.1, y.2.2.2.2.2.2.2.2.2.2.2.2.2.2.1, y.2.2.2.2.2.2.2.2.2.2.2.2.2.2.2.1, y.2.2.2.2.2.2.2.2.2.2.2.2.2.2.2.2.1, y.2.2.2.2.2.2.2.2.2.2.2.2.2.2.2.2.2.1, y.2.2.2.2.2.2.2.2.2.2.2.2.2.2.2.2.2.2.1, y.2.2.2.2.2.2.2.2.2.2.2.2.2.2.2.2.2.2.2.1, y.2.2.2.2.2.2.2.2.2.2.2.2.2.2.2.2.2.2.2.2) v90.2 l4 _ hf (lv_sub hl [2, 3, 4, 5, 6] rfl) hP hS hD
      · refine lv_iconst (v := 0) hx hb dL_law_941 (by decide) ?_
        cases hf
  · refine lv_iconst (v := 0) hx hb dL_law_924 (by decide) ?_
    cases hf
set_option maxHeartbeats 4000000 in
set_option maxRecDepth 100000 in
theorem w_L_law_1010 {p : Program} {l : Launch} {e : Env} {s : State} {m : MethodId} {below : List Frame} {meth : Method} {c : Code} {b L : Nat} {xs : Nat → Int32} {E : gE} {g am : Nat → Nat} {qo : Nat} (hL : L ≤ 2560) (C0 : lw_At p s m meth c b L xs) (hG : gK E s) (hT : gTh (fun q : Nat => s.heap.size ≤ q) s s.heap) (hN : gNc s) (hst : l.stackTraces = false)  (cells slots : Nat) (hcs : cells + 16 ≤ 601000) (hss : slots + 200 ≤ 7293000) (k23_ : TG → TM → (Nat → Int64) → Int32 → Option (Int32)) (hk23_ : ∀ (ad : Nat → Nat → Nat) (H : Heap) (locs : List Loc) (x : TG) (y : TM) (o : Nat → Int64) (l4 : Int32) (ls : Array Slot), k23_ x y o l4 = some 1 → lv_has ls 9 [(0, .ref b), (1, .ref (g 0)), (2, .ref (am 0)), (3, .ref qo), (4, .int l4)] → va_P E.1 vwCl ((cML E am y) ++ ((cOut E qo o) ++ (cGL E g ad x))) H → va_S (fun q : Nat => s.heap.size ≤ q) s.heap H locs → va_D (fun q : Nat => s.heap.size ≤ q) ((cML E am y) ++ ((cOut E qo o) ++ (cGL E g ad x))) → W p l e room_1 s m #[Value.ref b] below meth c H locs (cells + 16) (slots + 200) (lw_Z below #[Value.ref b] s) (F0 m 23 ls [])) : ∀ (ad : Nat → Nat → Nat) (H : Heap) (locs : List Loc) (x : TG) (y : TM) (o : Nat → Int64) (l4 : Int32) (ls : Array Slot), f_L_law_1010 xs L k23_ x y o l4 = some 1 → lv_has ls 9 [(0, .ref b), (1, .ref (g 0)), (2, .ref (am 0)), (3, .ref qo), (4, .int l4)] → va_P E.1 vwCl ((cML E am y) ++ ((cOut E qo o) ++ (cGL E g ad x))) H → va_S (fun q : Nat => s.heap.size ≤ q) s.heap H locs → va_D (fun q : Nat => s.heap.size ≤ q) ((cML E am y) ++ ((cOut E qo o) ++ (cGL E g ad x))) → W p l e room_1 s m #[Value.ref b] below meth c H locs (cells + 2) (slots + 12) (lw_Z below #[Value.ref b] s) (F0 m 1010 ls []) := by
  obtain ⟨hx, hb, hr, hml, hown, hts0, hX, hbl, hlocks, hgv⟩ := id C0
  have hts := gL_hts hts0
  have hbA : ¬ (fun q : Nat => s.heap.size ≤ q) b := Nat.not_le.mpr hbl
  have hA : ∀ q : Nat, s.heap.size ≤ q → (fun q : Nat => s.heap.size ≤ q) q := fun _ h => h
  intro ad H locs x y o l4 ls hf hl hP hS hD
  unfold f_L_law_1010 at hf
  refine lv_goto (tgt := 1526) hx hb dL_law_1010 (by decide) ?_
  refine W.widen (k := (cells + 8)) (n := (slots + 82)) (by (try dsimp only); omega) (by (try dsimp only); omega) ?_
  exact w_L_law_1526 hL C0 hG hT hN hst cells slots hcs hss k23_ hk23_ ad _ _ x y o l4 _ hf hl hP hS hD
set_option maxHeartbeats 4000000 in
set_option maxRecDepth 100000 in
theorem w_L_law_946 {p : Program} {l : Launch} {e : Env} {s : State} {m : MethodId} {below : List Frame} {meth : Method} {c : Code} {b L : Nat} {xs : Nat → Int32} {E : gE} {g am : Nat → Nat} {qo : Nat} (hL : L ≤ 2560) (C0 : lw_At p s m meth c b L xs) (hG : gK E s) (hT : gTh (fun q : Nat => s.heap.size ≤ q) s s.heap) (hN : gNc s) (hst : l.stackTraces = false)  (cells slots : Nat) (hcs : cells + 16 ≤ 601000) (hss : slots + 200 ≤ 7293000) (k23_ : TG → TM → (Nat → Int64) → Int32 → Option (Int32)) (hk23_ : ∀ (ad : Nat → Nat → Nat) (H : Heap) (locs : List Loc) (x : TG) (y : TM) (o : Nat → Int64) (l4 : Int32) (ls : Array Slot), k23_ x y o l4 = some 1 → lv_has ls 9 [(0, .ref b), (1, .ref (g 0)), (2, .ref (am 0)), (3, .ref qo), (4, .int l4)] → va_P E.1 vwCl ((cML E am y) ++ ((cOut E qo o) ++ (cGL E g ad x))) H → va_S (fun q : Nat => s.heap.size ≤ q) s.heap H locs → va_D (fun q : Nat => s.heap.size ≤ q) ((cML E am y) ++ ((cOut E qo o) ++ (cGL E g ad x))) → W p l e room_1 s m #[Value.ref b] below meth c H locs (cells + 16) (slots + 200) (lw_Z below #[Value.ref b] s) (F0 m 23 ls [])) : ∀ (ad : Nat → Nat → Nat) (H : Heap) (locs : List Loc) (x : TG) (y : TM) (o : Nat → Int64) (l4 : Int32) (ls : Array Slot), f_L_law_946 xs L k23_ x y o l4 = some 1 → lv_has ls 9 [(0, .ref b), (1, .ref (g 0)), (2, .ref (am 0)), (3, .ref qo), (4, .int l4)] → va_P E.1 vwCl ((cML E am y) ++ ((cOut E qo o) ++ (cGL E g ad x))) H → va_S (fun q : Nat => s.heap.size ≤ q) s.heap H locs → va_D (fun q : Nat => s.heap.size ≤ q) ((cML E am y) ++ ((cOut E qo o) ++ (cGL E g ad x))) → W p l e room_1 s m #[Value.ref b] below meth c H locs cells slots (lw_Z below #[Value.ref b] s) (F0 m 946 ls []) := by
  obtain ⟨hx, hb, hr, hml, hown, hts0, hX, hbl, hlocks, hgv⟩ := id C0
  have hts := gL_hts hts0
  have hbA : ¬ (fun q : Nat => s.heap.size ≤ q) b := Nat.not_le.mpr hbl
  have hA : ∀ q : Nat, s.heap.size ≤ q → (fun q : Nat => s.heap.size ≤ q) q := fun _ h => h
  intro ad H locs x y o l4 ls hf hl hP hS hD
  unfold f_L_law_946 at hf
  refine lv_aload_n hx hb dL_law_946 rfl (lv_at hl 1 rfl) ?_
  refine lv_aload_n hx hb dL_law_947 rfl (lv_at hl 0 rfl) ?_
  refine lv_iload hx hb dL_law_948 (lv_at hl 4 rfl) ?_
  refine lv_iconst (v := 1) hx hb dL_law_950 (by decide) ?_
  refine lv_iadd hx hb dL_law_951 ?_
  refine g_sld hx hb hX hbl hbA hS hf dL_law_952 (fun v96 hf => ?_)
  refine lv_aload_n hx hb dL_law_953 rfl (lv_at hl 0 rfl) ?_
  refine lv_iload hx hb dL_law_954 (lv_at hl 4 rfl) ?_
  refine lv_iconst (v := 2) hx hb dL_law_956 (by decide) ?_
  refine lv_iadd hx hb dL_law_957 ?_
  refine g_sld hx hb hX hbl hbA hS hf dL_law_958 (fun v97 hf => ?_)
  refine lv_aload_n hx hb dL_law_959 rfl (lv_at hl 3 rfl) ?_
  have hA1 : ∀ q : Nat, Array.size H ≤ q → (fun q : Nat => s.heap.size ≤ q) q := fun q h => Nat.le_trans hS.1 h
  have hPc : va_P E.1 vwCl ((cOut E qo o) ++ (cGL E g ad x)) H := hP.right
  have hDc : va_D (fun q : Nat => s.heap.size ≤ q) ((cOut E qo o) ++ (cGL E g ad x)) := hD.right
  refine g_callA2 (fun v98 => some (.int v98.1)) (fun v98 ad => ((cOut E qo v98.2) ++ (cGL E g ad x))) hf (fun v98 hv => vx_runSW (As := [.ref (g 0), .int v96, .int v97, .ref qo]) (rest := []) ⟨hx, hb, hml, hown, hts⟩ (c_L_speed l E g ad qo x.1 x.2.1 x.2.2.1 x.2.2.2.1 x.2.2.2.2.1 x.2.2.2.2.2.1 x.2.2.2.2.2.2 o v96 v97 hst _ v98 hv) (vx_cwSW 4 hts (gd_SH q607 q608 qRL q609) rfl rfl rfl (by decide +kernel) ⟨Nat.le_of_ble_eq_true rfl, Nat.le_of_ble_eq_true rfl⟩) (g_preSl hPc hDc hG hT hN hS (va_A.all hDc hA1)) rfl rfl hl.1 rfl (lv_room (Nat.le_of_ble_eq_true rfl)) dL_law_960 ⟨(gRc (by (try dsimp only); omega)), (gRs (by (try dsimp only); omega))⟩) hS (va_A.all hDc hA1) (va_A.all hDc hA1) (fun v98 ad H1 locs hf hP1 hD1 hkp hS => ?_)
  obtain ⟨hP2, hD2⟩ := join_end hP hD hA1 hkp hP1 hD1
  clear hP hD hPc hDc hP1 hD1 hkp hA1
  revert hS hP2 hD2; generalize H1 = H; intro hS hP hD
  have hP : va_P E.1 vwCl ((cML E am y) ++ ((cOut E qo v98.2) ++ (cGL E g ad x))) H := hP
  have hD : va_D (fun q : Nat => s.heap.size ≤ q) ((cML E am y) ++ ((cOut E qo v98.2) ++ (cGL E g ad x))) := hD
  refine W.widen (k := cells + 2) (n := slots + 12) (by (try dsimp only); omega) (by (try dsimp only); omega) ?_
  refine lv_istore (lv' := [(5, .int v98.1), (0, .ref b), (1, .ref (g 0)), (2, .ref (am 0)), (3, .ref qo), (4, .int l4)]) hx hb dL_law_963 hl (by decide) rfl (fun ls hl => ?_)
  refine lv_aload_n hx hb dL_law_965 rfl (lv_at hl 3 rfl) ?_
  refine lv_aload_n hx hb dL_law_966 rfl (lv_at hl 1 rfl) ?_
  refine lv_iload hx hb dL_law_967 (lv_at hl 5 rfl) ?_
  refine lv_iconst (v := 1) hx hb dL_law_969 (by decide) ?_
  refine lv_iadd hx hb dL_law_970 ?_
  refine g_sld hx hb hX hbl hbA hS hf dL_law_971 (fun v99 hf => ?_)
  refine lv_aload_n hx hb dL_law_972 rfl (lv_at hl 1 rfl) ?_
  refine lv_iload hx hb dL_law_973 (lv_at hl 5 rfl) ?_
  refine lv_iconst (v := 2) hx hb dL_law_975 (by decide) ?_
  refine lv_iadd hx hb dL_law_976 ?_
  refine g_sld hx hb hX hbl hbA hS hf dL_law_977 (fun v100 hf => ?_)
  have hPc : va_P E.1 vwCl (cML E am y) H := hP.left
  have hA1 : ∀ q : Nat, Array.size H ≤ q → (fun q : Nat => s.heap.size ≤ q) q := fun q h => Nat.le_trans hS.1 h
  have hDc : va_D (fun q : Nat => s.heap.size ≤ q) (cML E am y) := hD.left
  refine g_callMi (fun v101 => .long v101.1) (fun v101 => (cM E am 0 v101.2.1 y.2.1 y.2.2.1 y.2.2.2.1 y.2.2.2.2.1 y.2.2.2.2.2.1 y.2.2.2.2.2.2.1 v101.2.2.1 v101.2.2.2.1 v101.2.2.2.2.1 v101.2.2.2.2.2.1 v101.2.2.2.2.2.2.1 v101.2.2.2.2.2.2.2 y.2.2.2.2.2.2.2.2.2.2.2.2.2.1 y.2.2.2.2.2.2.2.2.2.2.2.2.2.2.1 y.2.2.2.2.2.2.2.2.2.2.2.2.2.2.2.1 y.2.2.2.2.2.2.2.2.2.2.2.2.2.2.2.2.1 y.2.2.2.2.2.2.2.2.2.2.2.2.2.2.2.2.2.1 y.2.2.2.2.2.2.2.2.2.2.2.2.2.2.2.2.2.2.1 y.2.2.2.2.2.2.2.2.2.2.2.2.2.2.2.2.2.2.2.1 y.2.2.2.2.2.2.2.2.2.2.2.2.2.2.2.2.2.2.2.2)) hf (fun v101 hv => va_runV (As := [.int v99, .int v100]) (rest := []) ⟨hx, hb, hml, hown, hts⟩ (c_X6_speed l E am 0 y.1 y.2.1 y.2.2.1 y.2.2.2.1 y.2.2.2.2.1 y.2.2.2.2.2.1 y.2.2.2.2.2.2.1 y.2.2.2.2.2.2.2.1 y.2.2.2.2.2.2.2.2.1 y.2.2.2.2.2.2.2.2.2.1 y.2.2.2.2.2.2.2.2.2.2.1 y.2.2.2.2.2.2.2.2.2.2.2.1 y.2.2.2.2.2.2.2.2.2.2.2.2.1 y.2.2.2.2.2.2.2.2.2.2.2.2.2.1 y.2.2.2.2.2.2.2.2.2.2.2.2.2.2.1 y.2.2.2.2.2.2.2.2.2.2.2.2.2.2.2.1 y.2.2.2.2.2.2.2.2.2.2.2.2.2.2.2.2.1 y.2.2.2.2.2.2.2.2.2.2.2.2.2.2.2.2.2.1 y.2.2.2.2.2.2.2.2.2.2.2.2.2.2.2.2.2.2.1 y.2.2.2.2.2.2.2.2.2.2.2.2.2.2.2.2.2.2.2.1 y.2.2.2.2.2.2.2.2.2.2.2.2.2.2.2.2.2.2.2.2 v99 v100 _ v101 hv) (cwV 2 hts (gd_V q614 q615 q616 q5 q617) rfl rfl rfl (by decide +kernel) ⟨Nat.le_of_ble_eq_true rfl, Nat.le_of_ble_eq_true rfl⟩) (g_preVm hPc hDc hG rfl rfl) rfl rfl hl.1 rfl (lv_room (Nat.le_of_ble_eq_true rfl)) dL_law_978 ⟨(gRc (by (try dsimp only); omega)), (gRs (by (try dsimp only); omega))⟩) hS (va_A.all hDc hA1) (va_A.all hDc hA1) (fun v101 H1 locs hf hP1 hsz hkp hS => ?_)
  have hP2 := put_mid (X := []) (C := (cML E am y)) (Y := ((cOut E qo v98.2) ++ (cGL E g ad x))) hP hD hkp hP1
  have hD2 : va_D (fun q : Nat => s.heap.size ≤ q) ((cM E am 0 v101.2.1 y.2.1 y.2.2.1 y.2.2.2.1 y.2.2.2.2.1 y.2.2.2.2.2.1 y.2.2.2.2.2.2.1 v101.2.2.1 v101.2.2.2.1 v101.2.2.2.2.1 v101.2.2.2.2.2.1 v101.2.2.2.2.2.2.1 v101.2.2.2.2.2.2.2 y.2.2.2.2.2.2.2.2.2.2.2.2.2.1 y.2.2.2.2.2.2.2.2.2.2.2.2.2.2.1 y.2.2.2.2.2.2.2.2.2.2.2.2.2.2.2.1 y.2.2.2.2.2.2.2.2.2.2.2.2.2.2.2.2.1 y.2.2.2.2.2.2.2.2.2.2.2.2.2.2.2.2.2.1 y.2.2.2.2.2.2.2.2.2.2.2.2.2.2.2.2.2.2.1 y.2.2.2.2.2.2.2.2.2.2.2.2.2.2.2.2.2.2.2.1 y.2.2.2.2.2.2.2.2.2.2.2.2.2.2.2.2.2.2.2.2) ++ ((cOut E qo v98.2) ++ (cGL E g ad x))) := va_D.sameL hD rfl
  clear hP hD hPc hDc hP1 hsz hkp hA1
  revert hS hP2 hD2; generalize H1 = H; intro hS hP hD
  have hP : va_P E.1 vwCl ((cM E am 0 v101.2.1 y.2.1 y.2.2.1 y.2.2.2.1 y.2.2.2.2.1 y.2.2.2.2.2.1 y.2.2.2.2.2.2.1 v101.2.2.1 v101.2.2.2.1 v101.2.2.2.2.1 v101.2.2.2.2.2.1 v101.2.2.2.2.2.2.1 v101.2.2.2.2.2.2.2 y.2.2.2.2.2.2.2.2.2.2.2.2.2.1 y.2.2.2.2.2.2.2.2.2.2.2.2.2.2.1 y.2.2.2.2.2.2.2.2.2.2.2.2.2.2.2.1 y.2.2.2.2.2.2.2.2.2.2.2.2.2.2.2.2.1 y.2.2.2.2.2.2.2.2.2.2.2.2.2.2.2.2.2.1 y.2.2.2.2.2.2.2.2.2.2.2.2.2.2.2.2.2.2.1 y.2.2.2.2.2.2.2.2.2.2.2.2.2.2.2.2.2.2.2.1 y.2.2.2.2.2.2.2.2.2.2.2.2.2.2.2.2.2.2.2.2) ++ ((cOut E qo v98.2) ++ (cGL E g ad x))) H := hP
  refine lv_lstore (lv' := [(6, .long v101.1), (5, .int v98.1), (0, .ref b), (1, .ref (g 0)), (2, .ref (am 0)), (3, .ref qo), (4, .int l4)]) hx hb dL_law_981 hl (by decide) rfl (fun ls hl => ?_)
  refine lv_aload_n hx hb dL_law_983 rfl (lv_at hl 4 rfl) ?_
  have hPc : va_P E.1 vwCl (cM E am 0 v101.2.1 y.2.1 y.2.2.1 y.2.2.2.1 y.2.2.2.2.1 y.2.2.2.2.2.1 y.2.2.2.2.2.2.1 v101.2.2.1 v101.2.2.2.1 v101.2.2.2.2.1 v101.2.2.2.2.2.1 v101.2.2.2.2.2.2.1 v101.2.2.2.2.2.2.2 y.2.2.2.2.2.2.2.2.2.2.2.2.2.1 y.2.2.2.2.2.2.2.2.2.2.2.2.2.2.1 y.2.2.2.2.2.2.2.2.2.2.2.2.2.2.2.1 y.2.2.2.2.2.2.2.2.2.2.2.2.2.2.2.2.1 y.2.2.2.2.2.2.2.2.2.2.2.2.2.2.2.2.2.1 y.2.2.2.2.2.2.2.2.2.2.2.2.2.2.2.2.2.2.1 y.2.2.2.2.2.2.2.2.2.2.2.2.2.2.2.2.2.2.2.1 y.2.2.2.2.2.2.2.2.2.2.2.2.2.2.2.2.2.2.2.2) H := hP.left
  refine g_callR Value.int hf (fun v102 hv => va_runV (As := []) (rest := []) ⟨hx, hb, hml, hown, hts⟩ (c_X6_thrown l E am 0 v101.2.1 y.2.1 y.2.2.1 y.2.2.2.1 y.2.2.2.2.1 y.2.2.2.2.2.1 y.2.2.2.2.2.2.1 v101.2.2.1 v101.2.2.2.1 v101.2.2.2.2.1 v101.2.2.2.2.2.1 v101.2.2.2.2.2.2.1 v101.2.2.2.2.2.2.2 y.2.2.2.2.2.2.2.2.2.2.2.2.2.1 y.2.2.2.2.2.2.2.2.2.2.2.2.2.2.1 y.2.2.2.2.2.2.2.2.2.2.2.2.2.2.2.1 y.2.2.2.2.2.2.2.2.2.2.2.2.2.2.2.2.1 y.2.2.2.2.2.2.2.2.2.2.2.2.2.2.2.2.2.1 y.2.2.2.2.2.2.2.2.2.2.2.2.2.2.2.2.2.2.1 y.2.2.2.2.2.2.2.2.2.2.2.2.2.2.2.2.2.2.2.1 y.2.2.2.2.2.2.2.2.2.2.2.2.2.2.2.2.2.2.2.2 v102 hv) (cwV 0 hts (gd_V q246 q247 q248 q5 q249) rfl rfl rfl (by decide +kernel) ⟨Nat.le_of_ble_eq_true rfl, Nat.le_of_ble_eq_true rfl⟩) (g_preV hPc hG rfl rfl) rfl rfl hl.1 rfl (lv_room (Nat.le_of_ble_eq_true rfl)) dL_law_984 ⟨(gRc (by (try dsimp only); omega)), (gRs (by (try dsimp only); omega))⟩) (fun v102 hf => ?_)
  clear hPc
  refine lv_iload hx hb dL_law_987 (lv_at hl 1 rfl) ?_
  refine g_icmp_eq (tgt := 994) hx hb hf dL_law_989 (by decide) (fun hf => ?_) (fun hf => ?_)
  · refine lv_iload hx hb dL_law_994 (lv_at hl 1 rfl) ?_
    refine g_if_ne (tgt := 1010) hx hb hf dL_law_996 (by decide) (fun hf => ?_) (fun hf => ?_)
    · exact w_L_law_1010 hL C0 hG hT hN hst cells slots hcs hss k23_ hk23_ ad _ _ x (v101.2.1, y.2.1, y.2.2.1, y.2.2.2.1, y.2.2.2.2.1, y.2.2.2.2.2.1, y.2.2.2.2.2.2.1, v101.2.2.1, v101.2.2.2.1, v101.2.2.2.2.1, v101.2.2.2.2.2.1, v101.2.2.2.2.2.2.1, v101.2.2.2.2.2.2.2, y.2.2.2.2.2.2.2.2.2.2.2.2.2.1, y.2.2.2.2.2.2.2.2.2.2.2.2.2.2.1, y.2.2.2.2.2.2.2.2.2.2.2.2.2.2.2.1, y.2.2.2.2.2.2.2.2.2.2.2.2.2.2.2.2.1, y.2.2.2.2.2.2.2.2.2.2.2.2.2.2.2.2.2.1, y.2.2.2.2.2.2.2.2.2.2.2.2.2.2.2.2.2.2.1, y.2.2.2.2.2.2.2.2.2.2.2.2.2.2.2.2.2.2.2.1, y.2.2.2.2.2.2.2.2.2.2.2.2.2.2.2.2.2.2.2.2) v98.2 l4 _ hf (lv_sub hl [2, 3, 4, 5, 6] rfl) hP hS hD
    · refine lv_aload_n hx hb dL_law_999 rfl (lv_at hl 5 rfl) ?_
      refine lv_iconst (v := 0) hx hb dL_law_1000 (by decide) ?_
      refine g_lald hx hb hG.1 hP 11 rfl hf dL_law_1001 (fun v103 hf => ?_)
      refine lv_lload hx hb dL_law_1002 (lv_at hl 0 rfl) ?_
      refine W.lcmp hx hb dL_law_1004 ?_
      refine g_if_eq (tgt := 1010) hx hb hf dL_law_1005 (by decide) (fun hf => ?_) (fun hf => ?_)
      · exact w_L_law_1010 hL C0 hG hT hN hst cells slots hcs hss k23_ hk23_ ad _ _ x (v101.2.1, y.2.1, y.2.2.1, y.2.2.2.1, y.2.2.2.2.1, y.2.2.2.2.2.1, y.2.2.2.2.2.2.1, v101.2.2.1, v101.2.2.2.1, v101.2.2.2.2.1, v101.2.2.2.2.2.1, v101.2.2.2.2.2.2.1, v101.2.2.2.2.2.2.2, y.2.2.2.2.2.2.2.2.2.2.2.2.2.1, y.2.2.2.2.2.2.2.2.2.2.2.2.2.2.1, y.2.2.2.2.2.2.2.2.2.2.2.2.2.2.2.1, y.2.2.2.2.2.2.2.2.2.2.2.2.2.2.2.2.1, y.2.2.2.2.2.2.2.2.2.2.2.2.2.2.2.2.2.1, y.2.2.2.2.2.2.2.2.2.2.2.2.2.2.2.2.2.2.1, y.2.2.2.2.2.2.2.2.2.2.2.2.2.2.2.2.2.2.2.1, y.2.2.2.2.2.2.2.2.2.2.2.2.2.2.2.2.2.2.2.2) v98.2 l4 _ hf (lv_sub hl [2, 3, 4, 5, 6] rfl) hP hS hD
      · refine lv_iconst (v := 0) hx hb dL_law_1008 (by decide) ?_
        cases hf
  · refine lv_iconst (v := 0) hx hb dL_law_992 (by decide) ?_
    cases hf
set_option maxHeartbeats 4000000 in
set_option maxRecDepth 100000 in
theorem w_L_law_1078 {p : Program} {l : Launch} {e : Env} {s : State} {m : MethodId} {below : List Frame} {meth : Method} {c : Code} {b L : Nat} {xs : Nat → Int32} {E : gE} {g am : Nat → Nat} {qo : Nat} (hL : L ≤ 2560) (C0 : lw_At p s m meth c b L xs) (hG : gK E s) (hT : gTh (fun q : Nat => s.heap.size ≤ q) s s.heap) (hN : gNc s) (hst : l.stackTraces = false)  (cells slots : Nat) (hcs : cells + 16 ≤ 601000) (hss : slots + 200 ≤ 7293000) (k23_ : TG → TM → (Nat → Int64) → Int32 → Option (Int32)) (hk23_ : ∀ (ad : Nat → Nat → Nat) (H : Heap) (locs : List Loc) (x : TG) (y : TM) (o : Nat → Int64) (l4 : Int32) (ls : Array Slot), k23_ x y o l4 = some 1 → lv_has ls 9 [(0, .ref b), (1, .ref (g 0)), (2, .ref (am 0)), (3, .ref qo), (4, .int l4)] → va_P E.1 vwCl ((cML E am y) ++ ((cOut E qo o) ++ (cGL E g ad x))) H → va_S (fun q : Nat => s.heap.size ≤ q) s.heap H locs → va_D (fun q : Nat => s.heap.size ≤ q) ((cML E am y) ++ ((cOut E qo o) ++ (cGL E g ad x))) → W p l e room_1 s m #[Value.ref b] below meth c H locs (cells + 16) (slots + 200) (lw_Z below #[Value.ref b] s) (F0 m 23 ls [])) : ∀ (ad : Nat → Nat → Nat) (H : Heap) (locs : List Loc) (x : TG) (y : TM) (o : Nat → Int64) (l4 : Int32) (ls : Array Slot), f_L_law_1078 xs L k23_ x y o l4 = some 1 → lv_has ls 9 [(0, .ref b), (1, .ref (g 0)), (2, .ref (am 0)), (3, .ref qo), (4, .int l4)] → va_P E.1 vwCl ((cML E am y) ++ ((cOut E qo o) ++ (cGL E g ad x))) H → va_S (fun q : Nat => s.heap.size ≤ q) s.heap H locs → va_D (fun q : Nat => s.heap.size ≤ q) ((cML E am y) ++ ((cOut E qo o) ++ (cGL E g ad x))) → W p l e room_1 s m #[Value.ref b] below meth c H locs (cells + 2) (slots + 12) (lw_Z below #[Value.ref b] s) (F0 m 1078 ls []) := by
  obtain ⟨hx, hb, hr, hml, hown, hts0, hX, hbl, hlocks, hgv⟩ := id C0
  have hts := gL_hts hts0
  have hbA : ¬ (fun q : Nat => s.heap.size ≤ q) b := Nat.not_le.mpr hbl
  have hA : ∀ q : Nat, s.heap.size ≤ q → (fun q : Nat => s.heap.size ≤ q) q := fun _ h => h
  intro ad H locs x y o l4 ls hf hl hP hS hD
  unfold f_L_law_1078 at hf
  refine lv_goto (tgt := 1526) hx hb dL_law_1078 (by decide) ?_
  refine W.widen (k := (cells + 8)) (n := (slots + 82)) (by (try dsimp only); omega) (by (try dsimp only); omega) ?_
  exact w_L_law_1526 hL C0 hG hT hN hst cells slots hcs hss k23_ hk23_ ad _ _ x y o l4 _ hf hl hP hS hD
set_option maxHeartbeats 4000000 in
set_option maxRecDepth 100000 in
theorem w_L_law_1013 {p : Program} {l : Launch} {e : Env} {s : State} {m : MethodId} {below : List Frame} {meth : Method} {c : Code} {b L : Nat} {xs : Nat → Int32} {E : gE} {g am : Nat → Nat} {qo : Nat} (hL : L ≤ 2560) (C0 : lw_At p s m meth c b L xs) (hG : gK E s) (hT : gTh (fun q : Nat => s.heap.size ≤ q) s s.heap) (hN : gNc s) (hst : l.stackTraces = false)  (cells slots : Nat) (hcs : cells + 16 ≤ 601000) (hss : slots + 200 ≤ 7293000) (k23_ : TG → TM → (Nat → Int64) → Int32 → Option (Int32)) (hk23_ : ∀ (ad : Nat → Nat → Nat) (H : Heap) (locs : List Loc) (x : TG) (y : TM) (o : Nat → Int64) (l4 : Int32) (ls : Array Slot), k23_ x y o l4 = some 1 → lv_has ls 9 [(0, .ref b), (1, .ref (g 0)), (2, .ref (am 0)), (3, .ref qo), (4, .int l4)] → va_P E.1 vwCl ((cML E am y) ++ ((cOut E qo o) ++ (cGL E g ad x))) H → va_S (fun q : Nat => s.heap.size ≤ q) s.heap H locs → va_D (fun q : Nat => s.heap.size ≤ q) ((cML E am y) ++ ((cOut E qo o) ++ (cGL E g ad x))) → W p l e room_1 s m #[Value.ref b] below meth c H locs (cells + 16) (slots + 200) (lw_Z below #[Value.ref b] s) (F0 m 23 ls [])) : ∀ (ad : Nat → Nat → Nat) (H : Heap) (locs : List Loc) (x : TG) (y : TM) (o : Nat → Int64) (l4 : Int32) (ls : Array Slot), f_L_law_1013 xs L k23_ x y o l4 = some 1 → lv_has ls 9 [(0, .ref b), (1, .ref (g 0)), (2, .ref (am 0)), (3, .ref qo), (4, .int l4)] → va_P E.1 vwCl ((cML E am y) ++ ((cOut E qo o) ++ (cGL E g ad x))) H → va_S (fun q : Nat => s.heap.size ≤ q) s.heap H locs → va_D (fun q : Nat => s.heap.size ≤ q) ((cML E am y) ++ ((cOut E qo o) ++ (cGL E g ad x))) → W p l e room_1 s m #[Value.ref b] below meth c H locs cells slots (lw_Z below #[Value.ref b] s) (F0 m 1013 ls []) := by
  obtain ⟨hx, hb, hr, hml, hown, hts0, hX, hbl, hlocks, hgv⟩ := id C0
  have hts := gL_hts hts0
  have hbA : ¬ (fun q : Nat => s.heap.size ≤ q) b := Nat.not_le.mpr hbl
  have hA : ∀ q : Nat, s.heap.size ≤ q → (fun q : Nat => s.heap.size ≤ q) q := fun _ h => h
  intro ad H locs x y o l4 ls hf hl hP hS hD
  unfold f_L_law_1013 at hf
  refine lv_aload_n hx hb dL_law_1013 rfl (lv_at hl 1 rfl) ?_
  refine lv_aload_n hx hb dL_law_1014 rfl (lv_at hl 0 rfl) ?_
  refine lv_iload hx hb dL_law_1015 (lv_at hl 4 rfl) ?_
  refine lv_iconst (v := 1) hx hb dL_law_1017 (by decide) ?_
  refine lv_iadd hx hb dL_law_1018 ?_
  refine g_sld hx hb hX hbl hbA hS hf dL_law_1019 (fun v104 hf => ?_)
  refine lv_aload_n hx hb dL_law_1020 rfl (lv_at hl 0 rfl) ?_
  refine lv_iload hx hb dL_law_1021 (lv_at hl 4 rfl) ?_
  refine lv_iconst (v := 2) hx hb dL_law_1023 (by decide) ?_
  refine lv_iadd hx hb dL_law_1024 ?_
  refine g_sld hx hb hX hbl hbA hS hf dL_law_1025 (fun v105 hf => ?_)
  refine lv_aload_n hx hb dL_law_1026 rfl (lv_at hl 3 rfl) ?_
  have hA1 : ∀ q : Nat, Array.size H ≤ q → (fun q : Nat => s.heap.size ≤ q) q := fun q h => Nat.le_trans hS.1 h
  have hPc : va_P E.1 vwCl ((cOut E qo o) ++ (cGL E g ad x)) H := hP.right
  have hDc : va_D (fun q : Nat => s.heap.size ≤ q) ((cOut E qo o) ++ (cGL E g ad x)) := hD.right
  refine g_callA2 (fun v106 => some (.int v106.1)) (fun v106 ad => ((cOut E qo v106.2) ++ (cGL E g ad x))) hf (fun v106 hv => vx_runSW (As := [.ref (g 0), .int v104, .int v105, .ref qo]) (rest := []) ⟨hx, hb, hml, hown, hts⟩ (c_L_meshes l E g ad qo x.1 x.2.1 x.2.2.1 x.2.2.2.1 x.2.2.2.2.1 x.2.2.2.2.2.1 x.2.2.2.2.2.2 o v104 v105 hst _ v106 hv) (vx_cwSW 4 hts (gd_SH q618 q619 qRL q620) rfl rfl rfl (by decide +kernel) ⟨Nat.le_of_ble_eq_true rfl, Nat.le_of_ble_eq_true rfl⟩) (g_preSl hPc hDc hG hT hN hS (va_A.all hDc hA1)) rfl rfl hl.1 rfl (lv_room (Nat.le_of_ble_eq_true rfl)) dL_law_1027 ⟨(gRc (by (try dsimp only); omega)), (gRs (by (try dsimp only); omega))⟩) hS (va_A.all hDc hA1) (va_A.all hDc hA1) (fun v106 ad H1 locs hf hP1 hD1 hkp hS => ?_)
  obtain ⟨hP2, hD2⟩ := join_end hP hD hA1 hkp hP1 hD1
  clear hP hD hPc hDc hP1 hD1 hkp hA1
  revert hS hP2 hD2; generalize H1 = H; intro hS hP hD
  have hP : va_P E.1 vwCl ((cML E am y) ++ ((cOut E qo v106.2) ++ (cGL E g ad x))) H := hP
  have hD : va_D (fun q : Nat => s.heap.size ≤ q) ((cML E am y) ++ ((cOut E qo v106.2) ++ (cGL E g ad x))) := hD
  refine W.widen (k := cells + 2) (n := slots + 12) (by (try dsimp only); omega) (by (try dsimp only); omega) ?_
  refine lv_istore (lv' := [(5, .int v106.1), (0, .ref b), (1, .ref (g 0)), (2, .ref (am 0)), (3, .ref qo), (4, .int l4)]) hx hb dL_law_1030 hl (by decide) rfl (fun ls hl => ?_)
  refine lv_aload_n hx hb dL_law_1032 rfl (lv_at hl 3 rfl) ?_
  refine lv_aload_n hx hb dL_law_1033 rfl (lv_at hl 1 rfl) ?_
  refine lv_iload hx hb dL_law_1034 (lv_at hl 5 rfl) ?_
  refine lv_iconst (v := 1) hx hb dL_law_1036 (by decide) ?_
  refine lv_iadd hx hb dL_law_1037 ?_
  refine g_sld hx hb hX hbl hbA hS hf dL_law_1038 (fun v107 hf => ?_)
  refine lv_aload_n hx hb dL_law_1039 rfl (lv_at hl 1 rfl) ?_
  refine lv_iload hx hb dL_law_1040 (lv_at hl 5 rfl) ?_
  refine lv_iconst (v := 2) hx hb dL_law_1042 (by decide) ?_
  refine lv_iadd hx hb dL_law_1043 ?_
  refine g_sld hx hb hX hbl hbA hS hf dL_law_1044 (fun v108 hf => ?_)
  have hPc : va_P E.1 vwCl (cML E am y) H := hP.left
  have hA1 : ∀ q : Nat, Array.size H ≤ q → (fun q : Nat => s.heap.size ≤ q) q := fun q h => Nat.le_trans hS.1 h
  have hDc : va_D (fun q : Nat => s.heap.size ≤ q) (cML E am y) := hD.left
  refine g_callMi (fun v109 => .int v109.1) (fun v109 => (cM E am 0 v109.2 y.2.1 y.2.2.1 y.2.2.2.1 y.2.2.2.2.1 y.2.2.2.2.2.1 y.2.2.2.2.2.2.1 y.2.2.2.2.2.2.2.1 y.2.2.2.2.2.2.2.2.1 y.2.2.2.2.2.2.2.2.2.1 y.2.2.2.2.2.2.2.2.2.2.1 y.2.2.2.2.2.2.2.2.2.2.2.1 y.2.2.2.2.2.2.2.2.2.2.2.2.1 y.2.2.2.2.2.2.2.2.2.2.2.2.2.1 y.2.2.2.2.2.2.2.2.2.2.2.2.2.2.1 y.2.2.2.2.2.2.2.2.2.2.2.2.2.2.2.1 y.2.2.2.2.2.2.2.2.2.2.2.2.2.2.2.2.1 y.2.2.2.2.2.2.2.2.2.2.2.2.2.2.2.2.2.1 y.2.2.2.2.2.2.2.2.2.2.2.2.2.2.2.2.2.2.1 y.2.2.2.2.2.2.2.2.2.2.2.2.2.2.2.2.2.2.2.1 y.2.2.2.2.2.2.2.2.2.2.2.2.2.2.2.2.2.2.2.2)) hf (fun v109 hv => va_runV (As := [.int v107, .int v108]) (rest := []) ⟨hx, hb, hml, hown, hts⟩ (c_X6_meshes l E am 0 y.1 y.2.1 y.2.2.1 y.2.2.2.1 y.2.2.2.2.1 y.2.2.2.2.2.1 y.2.2.2.2.2.2.1 y.2.2.2.2.2.2.2.1 y.2.2.2.2.2.2.2.2.1 y.2.2.2.2.2.2.2.2.2.1 y.2.2.2.2.2.2.2.2.2.2.1 y.2.2.2.2.2.2.2.2.2.2.2.1 y.2.2.2.2.2.2.2.2.2.2.2.2.1 y.2.2.2.2.2.2.2.2.2.2.2.2.2.1 y.2.2.2.2.2.2.2.2.2.2.2.2.2.2.1 y.2.2.2.2.2.2.2.2.2.2.2.2.2.2.2.1 y.2.2.2.2.2.2.2.2.2.2.2.2.2.2.2.2.1 y.2.2.2.2.2.2.2.2.2.2.2.2.2.2.2.2.2.1 y.2.2.2.2.2.2.2.2.2.2.2.2.2.2.2.2.2.2.1 y.2.2.2.2.2.2.2.2.2.2.2.2.2.2.2.2.2.2.2.1 y.2.2.2.2.2.2.2.2.2.2.2.2.2.2.2.2.2.2.2.2 v107 v108 _ v109 hv) (cwV 2 hts (gd_V q625 q626 q627 q5 q628) rfl rfl rfl (by decide +kernel) ⟨Nat.le_of_ble_eq_true rfl, Nat.le_of_ble_eq_true rfl⟩) (g_preVm hPc hDc hG rfl rfl) rfl rfl hl.1 rfl (lv_room (Nat.le_of_ble_eq_true rfl)) dL_law_1045 ⟨(gRc (by (try dsimp only); omega)), (gRs (by (try dsimp only); omega))⟩) hS (va_A.all hDc hA1) (va_A.all hDc hA1) (fun v109 H1 locs hf hP1 hsz hkp hS => ?_)
  have hP2 := put_mid (X := []) (C := (cML E am y)) (Y := ((cOut E qo v106.2) ++ (cGL E g ad x))) hP hD hkp hP1
  have hD2 : va_D (fun q : Nat => s.heap.size ≤ q) ((cM E am 0 v109.2 y.2.1 y.2.2.1 y.2.2.2.1 y.2.2.2.2.1 y.2.2.2.2.2.1 y.2.2.2.2.2.2.1 y.2.2.2.2.2.2.2.1 y.2.2.2.2.2.2.2.2.1 y.2.2.2.2.2.2.2.2.2.1 y.2.2.2.2.2.2.2.2.2.2.1 y.2.2.2.2.2.2.2.2.2.2.2.1 y.2.2.2.2.2.2.2.2.2.2.2.2.1 y.2.2.2.2.2.2.2.2.2.2.2.2.2.1 y.2.2.2.2.2.2.2.2.2.2.2.2.2.2.1 y.2.2.2.2.2.2.2.2.2.2.2.2.2.2.2.1 y.2.2.2.2.2.2.2.2.2.2.2.2.2.2.2.2.1 y.2.2.2.2.2.2.2.2.2.2.2.2.2.2.2.2.2.1 y.2.2.2.2.2.2.2.2.2.2.2.2.2.2.2.2.2.2.1 y.2.2.2.2.2.2.2.2.2.2.2.2.2.2.2.2.2.2.2.1 y.2.2.2.2.2.2.2.2.2.2.2.2.2.2.2.2.2.2.2.2) ++ ((cOut E qo v106.2) ++ (cGL E g ad x))) := va_D.sameL hD rfl
  clear hP hD hPc hDc hP1 hsz hkp hA1
  revert hS hP2 hD2; generalize H1 = H; intro hS hP hD
  have hP : va_P E.1 vwCl ((cM E am 0 v109.2 y.2.1 y.2.2.1 y.2.2.2.1 y.2.2.2.2.1 y.2.2.2.2.2.1 y.2.2.2.2.2.2.1 y.2.2.2.2.2.2.2.1 y.2.2.2.2.2.2.2.2.1 y.2.2.2.2.2.2.2.2.2.1 y.2.2.2.2.2.2.2.2.2.2.1 y.2.2.2.2.2.2.2.2.2.2.2.1 y.2.2.2.2.2.2.2.2.2.2.2.2.1 y.2.2.2.2.2.2.2.2.2.2.2.2.2.1 y.2.2.2.2.2.2.2.2.2.2.2.2.2.2.1 y.2.2.2.2.2.2.2.2.2.2.2.2.2.2.2.1 y.2.2.2.2.2.2.2.2.2.2.2.2.2.2.2.2.1 y.2.2.2.2.2.2.2.2.2.2.2.2.2.2.2.2.2.1 y.2.2.2.2.2.2.2.2.2.2.2.2.2.2.2.2.2.2.1 y.2.2.2.2.2.2.2.2.2.2.2.2.2.2.2.2.2.2.2.1 y.2.2.2.2.2.2.2.2.2.2.2.2.2.2.2.2.2.2.2.2) ++ ((cOut E qo v106.2) ++ (cGL E g ad x))) H := hP
  refine lv_istore (lv' := [(6, .int v109.1), (5, .int v106.1), (0, .ref b), (1, .ref (g 0)), (2, .ref (am 0)), (3, .ref qo), (4, .int l4)]) hx hb dL_law_1048 hl (by decide) rfl (fun ls hl => ?_)
  refine lv_aload_n hx hb dL_law_1050 rfl (lv_at hl 4 rfl) ?_
  have hPc : va_P E.1 vwCl (cM E am 0 v109.2 y.2.1 y.2.2.1 y.2.2.2.1 y.2.2.2.2.1 y.2.2.2.2.2.1 y.2.2.2.2.2.2.1 y.2.2.2.2.2.2.2.1 y.2.2.2.2.2.2.2.2.1 y.2.2.2.2.2.2.2.2.2.1 y.2.2.2.2.2.2.2.2.2.2.1 y.2.2.2.2.2.2.2.2.2.2.2.1 y.2.2.2.2.2.2.2.2.2.2.2.2.1 y.2.2.2.2.2.2.2.2.2.2.2.2.2.1 y.2.2.2.2.2.2.2.2.2.2.2.2.2.2.1 y.2.2.2.2.2.2.2.2.2.2.2.2.2.2.2.1 y.2.2.2.2.2.2.2.2.2.2.2.2.2.2.2.2.1 y.2.2.2.2.2.2.2.2.2.2.2.2.2.2.2.2.2.1 y.2.2.2.2.2.2.2.2.2.2.2.2.2.2.2.2.2.2.1 y.2.2.2.2.2.2.2.2.2.2.2.2.2.2.2.2.2.2.2.1 y.2.2.2.2.2.2.2.2.2.2.2.2.2.2.2.2.2.2.2.2) H := hP.left
  refine g_callR Value.int hf (fun v110 hv => va_runV (As := []) (rest := []) ⟨hx, hb, hml, hown, hts⟩ (c_X6_thrown l E am 0 v109.2 y.2.1 y.2.2.1 y.2.2.2.1 y.2.2.2.2.1 y.2.2.2.2.2.1 y.2.2.2.2.2.2.1 y.2.2.2.2.2.2.2.1 y.2.2.2.2.2.2.2.2.1 y.2.2.2.2.2.2.2.2.2.1 y.2.2.2.2.2.2.2.2.2.2.1 y.2.2.2.2.2.2.2.2.2.2.2.1 y.2.2.2.2.2.2.2.2.2.2.2.2.1 y.2.2.2.2.2.2.2.2.2.2.2.2.2.1 y.2.2.2.2.2.2.2.2.2.2.2.2.2.2.1 y.2.2.2.2.2.2.2.2.2.2.2.2.2.2.2.1 y.2.2.2.2.2.2.2.2.2.2.2.2.2.2.2.2.1 y.2.2.2.2.2.2.2.2.2.2.2.2.2.2.2.2.2.1 y.2.2.2.2.2.2.2.2.2.2.2.2.2.2.2.2.2.2.1 y.2.2.2.2.2.2.2.2.2.2.2.2.2.2.2.2.2.2.2.1 y.2.2.2.2.2.2.2.2.2.2.2.2.2.2.2.2.2.2.2.2 v110 hv) (cwV 0 hts (gd_V q246 q247 q248 q5 q249) rfl rfl rfl (by decide +kernel) ⟨Nat.le_of_ble_eq_true rfl, Nat.le_of_ble_eq_true rfl⟩) (g_preV hPc hG rfl rfl) rfl rfl hl.1 rfl (lv_room (Nat.le_of_ble_eq_true rfl)) dL_law_1051 ⟨(gRc (by (try dsimp only); omega)), (gRs (by (try dsimp only); omega))⟩) (fun v110 hf => ?_)
  clear hPc
  refine lv_iload hx hb dL_law_1054 (lv_at hl 1 rfl) ?_
  refine g_icmp_eq (tgt := 1061) hx hb hf dL_law_1056 (by decide) (fun hf => ?_) (fun hf => ?_)
  · refine lv_iload hx hb dL_law_1061 (lv_at hl 1 rfl) ?_
    refine g_if_ne (tgt := 1078) hx hb hf dL_law_1063 (by decide) (fun hf => ?_) (fun hf => ?_)
    · exact w_L_law_1078 hL C0 hG hT hN hst cells slots hcs hss k23_ hk23_ ad _ _ x (v109.2, y.2.1, y.2.2.1, y.2.2.2.1, y.2.2.2.2.1, y.2.2.2.2.2.1, y.2.2.2.2.2.2.1, y.2.2.2.2.2.2.2.1, y.2.2.2.2.2.2.2.2.1, y.2.2.2.2.2.2.2.2.2.1, y.2.2.2.2.2.2.2.2.2.2.1, y.2.2.2.2.2.2.2.2.2.2.2.1, y.2.2.2.2.2.2.2.2.2.2.2.2.1, y.2.2.2.2.2.2.2.2.2.2.2.2.2.1, y.2.2.2.2.2.2.2.2.2.2.2.2.2.2.1, y.2.2.2.2.2.2.2.2.2.2.2.2.2.2.2.1, y.2.2.2.2.2.2.2.2.2.2.2.2.2.2.2.2.1, y.2.2.2.2.2.2.2.2.2.2.2.2.2.2.2.2.2.1, y.2.2.2.2.2.2.2.2.2.2.2.2.2.2.2.2.2.2.1, y.2.2.2.2.2.2.2.2.2.2.2.2.2.2.2.2.2.2.2.1, y.2.2.2.2.2.2.2.2.2.2.2.2.2.2.2.2.2.2.2.2) v106.2 l4 _ hf (lv_sub hl [2, 3, 4, 5, 6] rfl) hP hS hD
    · refine lv_aload_n hx hb dL_law_1066 rfl (lv_at hl 5 rfl) ?_
      refine lv_iconst (v := 0) hx hb dL_law_1067 (by decide) ?_
      refine g_lald hx hb hG.1 hP 11 rfl hf dL_law_1068 (fun v111 hf => ?_)
      refine lv_iload hx hb dL_law_1069 (lv_at hl 0 rfl) ?_
      refine lv_i2l (v := (Int32.toInt64 v109.1)) hx hb dL_law_1071 rfl ?_
      refine W.lcmp hx hb dL_law_1072 ?_
      refine g_if_eq (tgt := 1078) hx hb hf dL_law_1073 (by decide) (fun hf => ?_) (fun hf => ?_)
      · exact w_L_law_1078 hL C0 hG hT hN hst cells slots hcs hss k23_ hk23_ ad _ _ x (v109.2, y.2.1, y.2.2.1, y.2.2.2.1, y.2.2.2.2.1, y.2.2.2.2.2.1, y.2.2.2.2.2.2.1, y.2.2.2.2.2.2.2.1, y.2.2.2.2.2.2.2.2.1, y.2.2.2.2.2.2.2.2.2.1, y.2.2.2.2.2.2.2.2.2.2.1, y.2.2.2.2.2.2.2.2.2.2.2.1, y.2.2.2.2.2.2.2.2.2.2.2.2.1, y.2.2.2.2.2.2.2.2.2.2.2.2.2.1, y.2.2.2.2.2.2.2.2.2.2.2.2.2.2.1, y.2.2.2.2.2.2.2.2.2.2.2.2.2.2.2.1, y.2.2.2.2.2.2.2.2.2.2.2.2.2.2.2.2.1, y.2.2.2.2.2.2.2.2.2.2.2.2.2.2.2.2.2.1, y.2.2.2.2.2.2.2.2.2.2.2.2.2.2.2.2.2.2.1, y.2.2.2.2.2.2.2.2.2.2.2.2.2.2.2.2.2.2.2.1, y.2.2.2.2.2.2.2.2.2.2.2.2.2.2.2.2.2.2.2.2) v106.2 l4 _ hf (lv_sub hl [2, 3, 4, 5, 6] rfl) hP hS hD
      · refine lv_iconst (v := 0) hx hb dL_law_1076 (by decide) ?_
        cases hf
  · refine lv_iconst (v := 0) hx hb dL_law_1059 (by decide) ?_
    cases hf
set_option maxHeartbeats 4000000 in
set_option maxRecDepth 100000 in
theorem w_L_law_1158 {p : Program} {l : Launch} {e : Env} {s : State} {m : MethodId} {below : List Frame} {meth : Method} {c : Code} {b L : Nat} {xs : Nat → Int32} {E : gE} {g am : Nat → Nat} {qo : Nat} (hL : L ≤ 2560) (C0 : lw_At p s m meth c b L xs) (hG : gK E s) (hT : gTh (fun q : Nat => s.heap.size ≤ q) s s.heap) (hN : gNc s) (hst : l.stackTraces = false)  (cells slots : Nat) (hcs : cells + 16 ≤ 601000) (hss : slots + 200 ≤ 7293000) (k23_ : TG → TM → (Nat → Int64) → Int32 → Option (Int32)) (hk23_ : ∀ (ad : Nat → Nat → Nat) (H : Heap) (locs : List Loc) (x : TG) (y : TM) (o : Nat → Int64) (l4 : Int32) (ls : Array Slot), k23_ x y o l4 = some 1 → lv_has ls 9 [(0, .ref b), (1, .ref (g 0)), (2, .ref (am 0)), (3, .ref qo), (4, .int l4)] → va_P E.1 vwCl ((cML E am y) ++ ((cOut E qo o) ++ (cGL E g ad x))) H → va_S (fun q : Nat => s.heap.size ≤ q) s.heap H locs → va_D (fun q : Nat => s.heap.size ≤ q) ((cML E am y) ++ ((cOut E qo o) ++ (cGL E g ad x))) → W p l e room_1 s m #[Value.ref b] below meth c H locs (cells + 16) (slots + 200) (lw_Z below #[Value.ref b] s) (F0 m 23 ls [])) : ∀ (ad : Nat → Nat → Nat) (H : Heap) (locs : List Loc) (x : TG) (y : TM) (o : Nat → Int64) (l4 : Int32) (ls : Array Slot), f_L_law_1158 xs L k23_ x y o l4 = some 1 → lv_has ls 9 [(0, .ref b), (1, .ref (g 0)), (2, .ref (am 0)), (3, .ref qo), (4, .int l4)] → va_P E.1 vwCl ((cML E am y) ++ ((cOut E qo o) ++ (cGL E g ad x))) H → va_S (fun q : Nat => s.heap.size ≤ q) s.heap H locs → va_D (fun q : Nat => s.heap.size ≤ q) ((cML E am y) ++ ((cOut E qo o) ++ (cGL E g ad x))) → W p l e room_1 s m #[Value.ref b] below meth c H locs (cells + 3) (slots + 18) (lw_Z below #[Value.ref b] s) (F0 m 1158 ls []) := by
  obtain ⟨hx, hb, hr, hml, hown, hts0, hX, hbl, hlocks, hgv⟩ := id C0
  have hts := gL_hts hts0
  have hbA : ¬ (fun q : Nat => s.heap.size ≤ q) b := Nat.not_le.mpr hbl
  have hA : ∀ q : Nat, s.heap.size ≤ q → (fun q : Nat => s.heap.size ≤ q) q := fun _ h => h
  intro ad H locs x y o l4 ls hf hl hP hS hD
  unfold f_L_law_1158 at hf
  refine lv_goto (tgt := 1526) hx hb dL_law_1158 (by decide) ?_
  refine W.widen (k := (cells + 8)) (n := (slots + 82)) (by (try dsimp only); omega) (by (try dsimp only); omega) ?_
  exact w_L_law_1526 hL C0 hG hT hN hst cells slots hcs hss k23_ hk23_ ad _ _ x y o l4 _ hf hl hP hS hD
set_option maxHeartbeats 4000000 in
set_option maxRecDepth 100000 in
theorem w_L_law_1081 {p : Program} {l : Launch} {e : Env} {s : State} {m : MethodId} {below : List Frame} {meth : Method} {c : Code} {b L : Nat} {xs : Nat → Int32} {E : gE} {g am : Nat → Nat} {qo : Nat} (hL : L ≤ 2560) (C0 : lw_At p s m meth c b L xs) (hG : gK E s) (hT : gTh (fun q : Nat => s.heap.size ≤ q) s s.heap) (hN : gNc s) (hst : l.stackTraces = false)  (cells slots : Nat) (hcs : cells + 16 ≤ 601000) (hss : slots + 200 ≤ 7293000) (k23_ : TG → TM → (Nat → Int64) → Int32 → Option (Int32)) (hk23_ : ∀ (ad : Nat → Nat → Nat) (H : Heap) (locs : List Loc) (x : TG) (y : TM) (o : Nat → Int64) (l4 : Int32) (ls : Array Slot), k23_ x y o l4 = some 1 → lv_has ls 9 [(0, .ref b), (1, .ref (g 0)), (2, .ref (am 0)), (3, .ref qo), (4, .int l4)] → va_P E.1 vwCl ((cML E am y) ++ ((cOut E qo o) ++ (cGL E g ad x))) H → va_S (fun q : Nat => s.heap.size ≤ q) s.heap H locs → va_D (fun q : Nat => s.heap.size ≤ q) ((cML E am y) ++ ((cOut E qo o) ++ (cGL E g ad x))) → W p l e room_1 s m #[Value.ref b] below meth c H locs (cells + 16) (slots + 200) (lw_Z below #[Value.ref b] s) (F0 m 23 ls [])) : ∀ (ad : Nat → Nat → Nat) (H : Heap) (locs : List Loc) (x : TG) (y : TM) (o : Nat → Int64) (l4 : Int32) (ls : Array Slot), f_L_law_1081 xs L k23_ x y o l4 = some 1 → lv_has ls 9 [(0, .ref b), (1, .ref (g 0)), (2, .ref (am 0)), (3, .ref qo), (4, .int l4)] → va_P E.1 vwCl ((cML E am y) ++ ((cOut E qo o) ++ (cGL E g ad x))) H → va_S (fun q : Nat => s.heap.size ≤ q) s.heap H locs → va_D (fun q : Nat => s.heap.size ≤ q) ((cML E am y) ++ ((cOut E qo o) ++ (cGL E g ad x))) → W p l e room_1 s m #[Value.ref b] below meth c H locs cells slots (lw_Z below #[Value.ref b] s) (F0 m 1081 ls []) := by
  obtain ⟨hx, hb, hr, hml, hown, hts0, hX, hbl, hlocks, hgv⟩ := id C0
  have hts := gL_hts hts0
  have hbA : ¬ (fun q : Nat => s.heap.size ≤ q) b := Nat.not_le.mpr hbl
  have hA : ∀ q : Nat, s.heap.size ≤ q → (fun q : Nat => s.heap.size ≤ q) q := fun _ h => h
  intro ad H locs x y o l4 ls hf hl hP hS hD
  unfold f_L_law_1081 at hf
  refine lv_aload_n hx hb dL_law_1081 rfl (lv_at hl 1 rfl) ?_
  refine lv_aload_n hx hb dL_law_1082 rfl (lv_at hl 0 rfl) ?_
  refine lv_iload hx hb dL_law_1083 (lv_at hl 4 rfl) ?_
  refine lv_iconst (v := 1) hx hb dL_law_1085 (by decide) ?_
  refine lv_iadd hx hb dL_law_1086 ?_
  refine g_sld hx hb hX hbl hbA hS hf dL_law_1087 (fun v112 hf => ?_)
  refine lv_aload_n hx hb dL_law_1088 rfl (lv_at hl 0 rfl) ?_
  refine lv_iload hx hb dL_law_1089 (lv_at hl 4 rfl) ?_
  refine lv_iconst (v := 2) hx hb dL_law_1091 (by decide) ?_
  refine lv_iadd hx hb dL_law_1092 ?_
  refine g_sld hx hb hX hbl hbA hS hf dL_law_1093 (fun v113 hf => ?_)
  refine lv_aload_n hx hb dL_law_1094 rfl (lv_at hl 0 rfl) ?_
  refine lv_iload hx hb dL_law_1095 (lv_at hl 4 rfl) ?_
  refine lv_iconst (v := 3) hx hb dL_law_1097 (by decide) ?_
  refine lv_iadd hx hb dL_law_1098 ?_
  refine g_sld hx hb hX hbl hbA hS hf dL_law_1099 (fun v114 hf => ?_)
  refine lv_aload_n hx hb dL_law_1100 rfl (lv_at hl 3 rfl) ?_
  have hA1 : ∀ q : Nat, Array.size H ≤ q → (fun q : Nat => s.heap.size ≤ q) q := fun q h => Nat.le_trans hS.1 h
  have hPc : va_P E.1 vwCl ((cOut E qo o) ++ (cGL E g ad x)) H := hP.right
  have hDc : va_D (fun q : Nat => s.heap.size ≤ q) ((cOut E qo o) ++ (cGL E g ad x)) := hD.right
  refine g_callA2 (fun v115 => some (.int v115.1)) (fun v115 ad => ((cOut E qo v115.2.2) ++ (cG E g ad x.1 x.2.1 x.2.2.1 x.2.2.2.1 v115.2.1 x.2.2.2.2.2.1 x.2.2.2.2.2.2))) hf (fun v115 hv => vx_runSW (As := [.ref (g 0), .int v112, .int v113, .int v114, .ref qo]) (rest := []) ⟨hx, hb, hml, hown, hts⟩ (c_L_train l E g ad qo x.1 x.2.1 x.2.2.1 x.2.2.2.1 x.2.2.2.2.1 x.2.2.2.2.2.1 x.2.2.2.2.2.2 o v112 v113 v114 hst _ v115 hv) (vx_cwSW 5 hts (gd_SH q629 q630 qRL q631) rfl rfl rfl (by decide +kernel) ⟨Nat.le_of_ble_eq_true rfl, Nat.le_of_ble_eq_true rfl⟩) (g_preSl hPc hDc hG hT hN hS (va_A.all hDc hA1)) rfl rfl hl.1 rfl (lv_room (Nat.le_of_ble_eq_true rfl)) dL_law_1101 ⟨(gRc (by (try dsimp only); omega)), (gRs (by (try dsimp only); omega))⟩) hS (va_A.all hDc hA1) (va_A.all hDc hA1) (fun v115 ad H1 locs hf hP1 hD1 hkp hS => ?_)
  obtain ⟨hP2, hD2⟩ := join_end hP hD hA1 hkp hP1 hD1
  clear hP hD hPc hDc hP1 hD1 hkp hA1
  revert hS hP2 hD2; generalize H1 = H; intro hS hP hD
  have hP : va_P E.1 vwCl ((cML E am y) ++ ((cOut E qo v115.2.2) ++ (cG E g ad x.1 x.2.1 x.2.2.1 x.2.2.2.1 v115.2.1 x.2.2.2.2.2.1 x.2.2.2.2.2.2))) H := hP
  have hD : va_D (fun q : Nat => s.heap.size ≤ q) ((cML E am y) ++ ((cOut E qo v115.2.2) ++ (cG E g ad x.1 x.2.1 x.2.2.1 x.2.2.2.1 v115.2.1 x.2.2.2.2.2.1 x.2.2.2.2.2.2))) := hD
  refine W.widen (k := cells + 3) (n := slots + 18) (by (try dsimp only); omega) (by (try dsimp only); omega) ?_
  refine lv_istore (lv' := [(5, .int v115.1), (0, .ref b), (1, .ref (g 0)), (2, .ref (am 0)), (3, .ref qo), (4, .int l4)]) hx hb dL_law_1104 hl (by decide) rfl (fun ls hl => ?_)
  refine lv_aload_n hx hb dL_law_1106 rfl (lv_at hl 3 rfl) ?_
  refine lv_aload_n hx hb dL_law_1107 rfl (lv_at hl 1 rfl) ?_
  refine lv_iload hx hb dL_law_1108 (lv_at hl 5 rfl) ?_
  refine lv_iconst (v := 1) hx hb dL_law_1110 (by decide) ?_
  refine lv_iadd hx hb dL_law_1111 ?_
  refine g_sld hx hb hX hbl hbA hS hf dL_law_1112 (fun v116 hf => ?_)
  refine lv_aload_n hx hb dL_law_1113 rfl (lv_at hl 1 rfl) ?_
  refine lv_iload hx hb dL_law_1114 (lv_at hl 5 rfl) ?_
  refine lv_iconst (v := 2) hx hb dL_law_1116 (by decide) ?_
  refine lv_iadd hx hb dL_law_1117 ?_
  refine g_sld hx hb hX hbl hbA hS hf dL_law_1118 (fun v117 hf => ?_)
  refine lv_aload_n hx hb dL_law_1119 rfl (lv_at hl 1 rfl) ?_
  refine lv_iload hx hb dL_law_1120 (lv_at hl 5 rfl) ?_
  refine lv_iconst (v := 3) hx hb dL_law_1122 (by decide) ?_
  refine lv_iadd hx hb dL_law_1123 ?_
  refine g_sld hx hb hX hbl hbA hS hf dL_law_1124 (fun v118 hf => ?_)
  have hPc : va_P E.1 vwCl (cML E am y) H := hP.left
  have hA1 : ∀ q : Nat, Array.size H ≤ q → (fun q : Nat => s.heap.size ≤ q) q := fun q h => Nat.le_trans hS.1 h
  have hDc : va_D (fun q : Nat => s.heap.size ≤ q) (cML E am y) := hD.left
  refine g_callMi (fun v119 => .int v119.1) (fun v119 => (cM E am 0 v119.2.1 y.2.1 y.2.2.1 y.2.2.2.1 y.2.2.2.2.1 y.2.2.2.2.2.1 y.2.2.2.2.2.2.1 y.2.2.2.2.2.2.2.1 y.2.2.2.2.2.2.2.2.1 y.2.2.2.2.2.2.2.2.2.1 y.2.2.2.2.2.2.2.2.2.2.1 v119.2.2.1 v119.2.2.2.1 y.2.2.2.2.2.2.2.2.2.2.2.2.2.1 y.2.2.2.2.2.2.2.2.2.2.2.2.2.2.1 y.2.2.2.2.2.2.2.2.2.2.2.2.2.2.2.1 v119.2.2.2.2.1 v119.2.2.2.2.2.1 v119.2.2.2.2.2.2.1 v119.2.2.2.2.2.2.2 y.2.2.2.2.2.2.2.2.2.2.2.2.2.2.2.2.2.2.2.2)) hf (fun v119 hv => va_runV (As := [.int v116, .int v117, .int v118]) (rest := []) ⟨hx, hb, hml, hown, hts⟩ (c_X6_train l E am 0 y.1 y.2.1 y.2.2.1 y.2.2.2.1 y.2.2.2.2.1 y.2.2.2.2.2.1 y.2.2.2.2.2.2.1 y.2.2.2.2.2.2.2.1 y.2.2.2.2.2.2.2.2.1 y.2.2.2.2.2.2.2.2.2.1 y.2.2.2.2.2.2.2.2.2.2.1 y.2.2.2.2.2.2.2.2.2.2.2.1 y.2.2.2.2.2.2.2.2.2.2.2.2.1 y.2.2.2.2.2.2.2.2.2.2.2.2.2.1 y.2.2.2.2.2.2.2.2.2.2.2.2.2.2.1 y.2.2.2.2.2.2.2.2.2.2.2.2.2.2.2.1 y.2.2.2.2.2.2.2.2.2.2.2.2.2.2.2.2.1 y.2.2.2.2.2.2.2.2.2.2.2.2.2.2.2.2.2.1 y.2.2.2.2.2.2.2.2.2.2.2.2.2.2.2.2.2.2.1 y.2.2.2.2.2.2.2.2.2.2.2.2.2.2.2.2.2.2.2.1 y.2.2.2.2.2.2.2.2.2.2.2.2.2.2.2.2.2.2.2.2 v116 v117 v118 _ v119 hv) (cwV 3 hts (gd_V q663 q664 q665 q5 q666) rfl rfl rfl (by decide +kernel) ⟨Nat.le_of_ble_eq_true rfl, Nat.le_of_ble_eq_true rfl⟩) (g_preVm hPc hDc hG rfl rfl) rfl rfl hl.1 rfl (lv_room (Nat.le_of_ble_eq_true rfl)) dL_law_1125 ⟨(gRc (by (try dsimp only); omega)), (gRs (by (try dsimp only); omega))⟩) hS (va_A.all hDc hA1) (va_A.all hDc hA1) (fun v119 H1 locs hf hP1 hsz hkp hS => ?_)
  have hP2 := put_mid (X := []) (C := (cML E am y)) (Y := ((cOut E qo v115.2.2) ++ (cG E g ad x.1 x.2.1 x.2.2.1 x.2.2.2.1 v115.2.1 x.2.2.2.2.2.1 x.2.2.2.2.2.2))) hP hD hkp hP1
  have hD2 : va_D (fun q : Nat => s.heap.size ≤ q) ((cM E am 0 v119.2.1 y.2.1 y.2.2.1 y.2.2.2.1 y.2.2.2.2.1 y.2.2.2.2.2.1 y.2.2.2.2.2.2.1 y.2.2.2.2.2.2.2.1 y.2.2.2.2.2.2.2.2.1 y.2.2.2.2.2.2.2.2.2.1 y.2.2.2.2.2.2.2.2.2.2.1 v119.2.2.1 v119.2.2.2.1 y.2.2.2.2.2.2.2.2.2.2.2.2.2.1 y.2.2.2.2.2.2.2.2.2.2.2.2.2.2.1 y.2.2.2.2.2.2.2.2.2.2.2.2.2.2.2.1 v119.2.2.2.2.1 v119.2.2.2.2.2.1 v119.2.2.2.2.2.2.1 v119.2.2.2.2.2.2.2 y.2.2.2.2.2.2.2.2.2.2.2.2.2.2.2.2.2.2.2.2) ++ ((cOut E qo v115.2.2) ++ (cG E g ad x.1 x.2.1 x.2.2.1 x.2.2.2.1 v115.2.1 x.2.2.2.2.2.1 x.2.2.2.2.2.2))) := va_D.sameL hD rfl
  clear hP hD hPc hDc hP1 hsz hkp hA1
  revert hS hP2 hD2; generalize H1 = H; intro hS hP hD
  have hP : va_P E.1 vwCl ((cM E am 0 v119.2.1 y.2.1 y.2.2.1 y.2.2.2.1 y.2.2.2.2.1 y.2.2.2.2.2.1 y.2.2.2.2.2.2.1 y.2.2.2.2.2.2.2.1 y.2.2.2.2.2.2.2.2.1 y.2.2.2.2.2.2.2.2.2.1 y.2.2.2.2.2.2.2.2.2.2.1 v119.2.2.1 v119.2.2.2.1 y.2.2.2.2.2.2.2.2.2.2.2.2.2.1 y.2.2.2.2.2.2.2.2.2.2.2.2.2.2.1 y.2.2.2.2.2.2.2.2.2.2.2.2.2.2.2.1 v119.2.2.2.2.1 v119.2.2.2.2.2.1 v119.2.2.2.2.2.2.1 v119.2.2.2.2.2.2.2 y.2.2.2.2.2.2.2.2.2.2.2.2.2.2.2.2.2.2.2.2) ++ ((cOut E qo v115.2.2) ++ (cG E g ad x.1 x.2.1 x.2.2.1 x.2.2.2.1 v115.2.1 x.2.2.2.2.2.1 x.2.2.2.2.2.2))) H := hP
  refine lv_istore (lv' := [(6, .int v119.1), (5, .int v115.1), (0, .ref b), (1, .ref (g 0)), (2, .ref (am 0)), (3, .ref qo), (4, .int l4)]) hx hb dL_law_1128 hl (by decide) rfl (fun ls hl => ?_)
  refine lv_aload_n hx hb dL_law_1130 rfl (lv_at hl 4 rfl) ?_
  have hPc : va_P E.1 vwCl (cM E am 0 v119.2.1 y.2.1 y.2.2.1 y.2.2.2.1 y.2.2.2.2.1 y.2.2.2.2.2.1 y.2.2.2.2.2.2.1 y.2.2.2.2.2.2.2.1 y.2.2.2.2.2.2.2.2.1 y.2.2.2.2.2.2.2.2.2.1 y.2.2.2.2.2.2.2.2.2.2.1 v119.2.2.1 v119.2.2.2.1 y.2.2.2.2.2.2.2.2.2.2.2.2.2.1 y.2.2.2.2.2.2.2.2.2.2.2.2.2.2.1 y.2.2.2.2.2.2.2.2.2.2.2.2.2.2.2.1 v119.2.2.2.2.1 v119.2.2.2.2.2.1 v119.2.2.2.2.2.2.1 v119.2.2.2.2.2.2.2 y.2.2.2.2.2.2.2.2.2.2.2.2.2.2.2.2.2.2.2.2) H := hP.left
  refine g_callR Value.int hf (fun v120 hv => va_runV (As := []) (rest := []) ⟨hx, hb, hml, hown, hts⟩ (c_X6_thrown l E am 0 v119.2.1 y.2.1 y.2.2.1 y.2.2.2.1 y.2.2.2.2.1 y.2.2.2.2.2.1 y.2.2.2.2.2.2.1 y.2.2.2.2.2.2.2.1 y.2.2.2.2.2.2.2.2.1 y.2.2.2.2.2.2.2.2.2.1 y.2.2.2.2.2.2.2.2.2.2.1 v119.2.2.1 v119.2.2.2.1 y.2.2.2.2.2.2.2.2.2.2.2.2.2.1 y.2.2.2.2.2.2.2.2.2.2.2.2.2.2.1 y.2.2.2.2.2.2.2.2.2.2.2.2.2.2.2.1 v119.2.2.2.2.1 v119.2.2.2.2.2.1 v119.2.2.2.2.2.2.1 v119.2.2.2.2.2.2.2 y.2.2.2.2.2.2.2.2.2.2.2.2.2.2.2.2.2.2.2.2 v120 hv) (cwV 0 hts (gd_V q246 q247 q248 q5 q249) rfl rfl rfl (by decide +kernel) ⟨Nat.le_of_ble_eq_true rfl, Nat.le_of_ble_eq_true rfl⟩) (g_preV hPc hG rfl rfl) rfl rfl hl.1 rfl (lv_room (Nat.le_of_ble_eq_true rfl)) dL_law_1131 ⟨(gRc (by (try dsimp only); omega)), (gRs (by (try dsimp only); omega))⟩) (fun v120 hf => ?_)
  clear hPc
  refine lv_iload hx hb dL_law_1134 (lv_at hl 1 rfl) ?_
  refine g_icmp_eq (tgt := 1141) hx hb hf dL_law_1136 (by decide) (fun hf => ?_) (fun hf => ?_)
  · refine lv_iload hx hb dL_law_1141 (lv_at hl 1 rfl) ?_
    refine g_if_ne (tgt := 1158) hx hb hf dL_law_1143 (by decide) (fun hf => ?_) (fun hf => ?_)
    · exact w_L_law_1158 hL C0 hG hT hN hst cells slots hcs hss k23_ hk23_ ad _ _ (x.1, x.2.1, x.2.2.1, x.2.2.2.1, v115.2.1, x.2.2.2.2.2.1, x.2.2.2.2.2.2) (v119.2.1, y.2.1, y.2.2.1, y.2.2.2.1, y.2.2.2.2.1, y.2.2.2.2.2.1, y.2.2.2.2.2.2.1, y.2.2.2.2.2.2.2.1, y.2.2.2.2.2.2.2.2.1, y.2.2.2.2.2.2.2.2.2.1, y.2.2.2.2.2.2.2.2.2.2.1, v119.2.2.1, v119.2.2.2.1, y.2.2.2.2.2.2.2.2.2.2.2.2.2.1, y.2.2.2.2.2.2.2.2.2.2.2.2.2.2.1, y.2.2.2.2.2.2.2.2.2.2.2.2.2.2.2.1, v119.2.2.2.2.1, v119.2.2.2.2.2.1, v119.2.2.2.2.2.2.1, v119.2.2.2.2.2.2.2, y.2.2.2.2.2.2.2.2.2.2.2.2.2.2.2.2.2.2.2.2) v115.2.2 l4 _ hf (lv_sub hl [2, 3, 4, 5, 6] rfl) hP hS hD
    · refine lv_aload_n hx hb dL_law_1146 rfl (lv_at hl 5 rfl) ?_
      refine lv_iconst (v := 0) hx hb dL_law_1147 (by decide) ?_
      refine g_lald hx hb hG.1 hP 11 rfl hf dL_law_1148 (fun v121 hf => ?_)
      refine lv_iload hx hb dL_law_1149 (lv_at hl 0 rfl) ?_
      refine lv_i2l (v := (Int32.toInt64 v119.1)) hx hb dL_law_1151 rfl ?_
      refine W.lcmp hx hb dL_law_1152 ?_
      refine g_if_eq (tgt := 1158) hx hb hf dL_law_1153 (by decide) (fun hf => ?_) (fun hf => ?_)
      · exact w_L_law_1158 hL C0 hG hT hN hst cells slots hcs hss k23_ hk23_ ad _ _ (x.1, x.2.1, x.2.2.1, x.2.2.2.1, v115.2.1, x.2.2.2.2.2.1, x.2.2.2.2.2.2) (v119.2.1, y.2.1, y.2.2.1, y.2.2.2.1, y.2.2.2.2.1, y.2.2.2.2.2.1, y.2.2.2.2.2.2.1, y.2.2.2.2.2.2.2.1, y.2.2.2.2.2.2.2.2.1, y.2.2.2.2.2.2.2.2.2.1, y.2.2.2.2.2.2.2.2.2.2.1, v119.2.2.1, v119.2.2.2.1, y.2.2.2.2.2.2.2.2.2.2.2.2.2.1, y.2.2.2.2.2.2.2.2.2.2.2.2.2.2.1, y.2.2.2.2.2.2.2.2.2.2.2.2.2.2.2.1, v119.2.2.2.2.1, v119.2.2.2.2.2.1, v119.2.2.2.2.2.2.1, v119.2.2.2.2.2.2.2, y.2.2.2.2.2.2.2.2.2.2.2.2.2.2.2.2.2.2.2.2) v115.2.2 l4 _ hf (lv_sub hl [2, 3, 4, 5, 6] rfl) hP hS hD
      · refine lv_iconst (v := 0) hx hb dL_law_1156 (by decide) ?_
        cases hf
  · refine lv_iconst (v := 0) hx hb dL_law_1139 (by decide) ?_
    cases hf
set_option maxHeartbeats 4000000 in
set_option maxRecDepth 100000 in
theorem w_L_law_1237 {p : Program} {l : Launch} {e : Env} {s : State} {m : MethodId} {below : List Frame} {meth : Method} {c : Code} {b L : Nat} {xs : Nat → Int32} {E : gE} {g am : Nat → Nat} {qo : Nat} (hL : L ≤ 2560) (C0 : lw_At p s m meth c b L xs) (hG : gK E s) (hT : gTh (fun q : Nat => s.heap.size ≤ q) s s.heap) (hN : gNc s) (hst : l.stackTraces = false)  (cells slots : Nat) (hcs : cells + 16 ≤ 601000) (hss : slots + 200 ≤ 7293000) (k23_ : TG → TM → (Nat → Int64) → Int32 → Option (Int32)) (hk23_ : ∀ (ad : Nat → Nat → Nat) (H : Heap) (locs : List Loc) (x : TG) (y : TM) (o : Nat → Int64) (l4 : Int32) (ls : Array Slot), k23_ x y o l4 = some 1 → lv_has ls 9 [(0, .ref b), (1, .ref (g 0)), (2, .ref (am 0)), (3, .ref qo), (4, .int l4)] → va_P E.1 vwCl ((cML E am y) ++ ((cOut E qo o) ++ (cGL E g ad x))) H → va_S (fun q : Nat => s.heap.size ≤ q) s.heap H locs → va_D (fun q : Nat => s.heap.size ≤ q) ((cML E am y) ++ ((cOut E qo o) ++ (cGL E g ad x))) → W p l e room_1 s m #[Value.ref b] below meth c H locs (cells + 16) (slots + 200) (lw_Z below #[Value.ref b] s) (F0 m 23 ls [])) : ∀ (ad : Nat → Nat → Nat) (H : Heap) (locs : List Loc) (x : TG) (y : TM) (o : Nat → Int64) (l4 : Int32) (ls : Array Slot), f_L_law_1237 xs L k23_ x y o l4 = some 1 → lv_has ls 9 [(0, .ref b), (1, .ref (g 0)), (2, .ref (am 0)), (3, .ref qo), (4, .int l4)] → va_P E.1 vwCl ((cML E am y) ++ ((cOut E qo o) ++ (cGL E g ad x))) H → va_S (fun q : Nat => s.heap.size ≤ q) s.heap H locs → va_D (fun q : Nat => s.heap.size ≤ q) ((cML E am y) ++ ((cOut E qo o) ++ (cGL E g ad x))) → W p l e room_1 s m #[Value.ref b] below meth c H locs (cells + 3) (slots + 18) (lw_Z below #[Value.ref b] s) (F0 m 1237 ls []) := by
  obtain ⟨hx, hb, hr, hml, hown, hts0, hX, hbl, hlocks, hgv⟩ := id C0
  have hts := gL_hts hts0
  have hbA : ¬ (fun q : Nat => s.heap.size ≤ q) b := Nat.not_le.mpr hbl
  have hA : ∀ q : Nat, s.heap.size ≤ q → (fun q : Nat => s.heap.size ≤ q) q := fun _ h => h
  intro ad H locs x y o l4 ls hf hl hP hS hD
  unfold f_L_law_1237 at hf
  refine lv_goto (tgt := 1526) hx hb dL_law_1237 (by decide) ?_
  refine W.widen (k := (cells + 8)) (n := (slots + 82)) (by (try dsimp only); omega) (by (try dsimp only); omega) ?_
  exact w_L_law_1526 hL C0 hG hT hN hst cells slots hcs hss k23_ hk23_ ad _ _ x y o l4 _ hf hl hP hS hD
set_option maxHeartbeats 4000000 in
set_option maxRecDepth 100000 in
theorem w_L_law_1161 {p : Program} {l : Launch} {e : Env} {s : State} {m : MethodId} {below : List Frame} {meth : Method} {c : Code} {b L : Nat} {xs : Nat → Int32} {E : gE} {g am : Nat → Nat} {qo : Nat} (hL : L ≤ 2560) (C0 : lw_At p s m meth c b L xs) (hG : gK E s) (hT : gTh (fun q : Nat => s.heap.size ≤ q) s s.heap) (hN : gNc s) (hst : l.stackTraces = false)  (cells slots : Nat) (hcs : cells + 16 ≤ 601000) (hss : slots + 200 ≤ 7293000) (k23_ : TG → TM → (Nat → Int64) → Int32 → Option (Int32)) (hk23_ : ∀ (ad : Nat → Nat → Nat) (H : Heap) (locs : List Loc) (x : TG) (y : TM) (o : Nat → Int64) (l4 : Int32) (ls : Array Slot), k23_ x y o l4 = some 1 → lv_has ls 9 [(0, .ref b), (1, .ref (g 0)), (2, .ref (am 0)), (3, .ref qo), (4, .int l4)] → va_P E.1 vwCl ((cML E am y) ++ ((cOut E qo o) ++ (cGL E g ad x))) H → va_S (fun q : Nat => s.heap.size ≤ q) s.heap H locs → va_D (fun q : Nat => s.heap.size ≤ q) ((cML E am y) ++ ((cOut E qo o) ++ (cGL E g ad x))) → W p l e room_1 s m #[Value.ref b] below meth c H locs (cells + 16) (slots + 200) (lw_Z below #[Value.ref b] s) (F0 m 23 ls [])) : ∀ (ad : Nat → Nat → Nat) (H : Heap) (locs : List Loc) (x : TG) (y : TM) (o : Nat → Int64) (l4 : Int32) (ls : Array Slot), f_L_law_1161 xs L k23_ x y o l4 = some 1 → lv_has ls 9 [(0, .ref b), (1, .ref (g 0)), (2, .ref (am 0)), (3, .ref qo), (4, .int l4)] → va_P E.1 vwCl ((cML E am y) ++ ((cOut E qo o) ++ (cGL E g ad x))) H → va_S (fun q : Nat => s.heap.size ≤ q) s.heap H locs → va_D (fun q : Nat => s.heap.size ≤ q) ((cML E am y) ++ ((cOut E qo o) ++ (cGL E g ad x))) → W p l e room_1 s m #[Value.ref b] below meth c H locs cells slots (lw_Z below #[Value.ref b] s) (F0 m 1161 ls []) := by
  obtain ⟨hx, hb, hr, hml, hown, hts0, hX, hbl, hlocks, hgv⟩ := id C0
  have hts := gL_hts hts0
  have hbA : ¬ (fun q : Nat => s.heap.size ≤ q) b := Nat.not_le.mpr hbl
  have hA : ∀ q : Nat, s.heap.size ≤ q → (fun q : Nat => s.heap.size ≤ q) q := fun _ h => h
  intro ad H locs x y o l4 ls hf hl hP hS hD
  unfold f_L_law_1161 at hf
  refine lv_aload_n hx hb dL_law_1161 rfl (lv_at hl 1 rfl) ?_
  refine lv_aload_n hx hb dL_law_1162 rfl (lv_at hl 0 rfl) ?_
  refine lv_iload hx hb dL_law_1163 (lv_at hl 4 rfl) ?_
  refine lv_iconst (v := 1) hx hb dL_law_1165 (by decide) ?_
  refine lv_iadd hx hb dL_law_1166 ?_
  refine g_sld hx hb hX hbl hbA hS hf dL_law_1167 (fun v122 hf => ?_)
  refine lv_aload_n hx hb dL_law_1168 rfl (lv_at hl 0 rfl) ?_
  refine lv_iload hx hb dL_law_1169 (lv_at hl 4 rfl) ?_
  refine lv_iconst (v := 2) hx hb dL_law_1171 (by decide) ?_
  refine lv_iadd hx hb dL_law_1172 ?_
  refine g_sld hx hb hX hbl hbA hS hf dL_law_1173 (fun v123 hf => ?_)
  refine lv_aload_n hx hb dL_law_1174 rfl (lv_at hl 0 rfl) ?_
  refine lv_iload hx hb dL_law_1175 (lv_at hl 4 rfl) ?_
  refine lv_iconst (v := 3) hx hb dL_law_1177 (by decide) ?_
  refine lv_iadd hx hb dL_law_1178 ?_
  refine g_sld hx hb hX hbl hbA hS hf dL_law_1179 (fun v124 hf => ?_)
  refine lv_aload_n hx hb dL_law_1180 rfl (lv_at hl 3 rfl) ?_
  have hA1 : ∀ q : Nat, Array.size H ≤ q → (fun q : Nat => s.heap.size ≤ q) q := fun q h => Nat.le_trans hS.1 h
  have hPc : va_P E.1 vwCl ((cOut E qo o) ++ (cGL E g ad x)) H := hP.right
  have hDc : va_D (fun q : Nat => s.heap.size ≤ q) ((cOut E qo o) ++ (cGL E g ad x)) := hD.right
  refine g_callA2 (fun v125 => some (.int v125.1)) (fun v125 ad => ((cOut E qo v125.2.2) ++ (cG E g ad x.1 x.2.1 x.2.2.1 x.2.2.2.1 v125.2.1 x.2.2.2.2.2.1 x.2.2.2.2.2.2))) hf (fun v125 hv => vx_runSW (As := [.ref (g 0), .int v122, .int v123, .int v124, .ref qo]) (rest := []) ⟨hx, hb, hml, hown, hts⟩ (c_L_ratio l E g ad qo x.1 x.2.1 x.2.2.1 x.2.2.2.1 x.2.2.2.2.1 x.2.2.2.2.2.1 x.2.2.2.2.2.2 o v122 v123 v124 hst _ v125 hv) (vx_cwSW 5 hts (gd_SH q681 q682 qRL q683) rfl rfl rfl (by decide +kernel) ⟨Nat.le_of_ble_eq_true rfl, Nat.le_of_ble_eq_true rfl⟩) (g_preSl hPc hDc hG hT hN hS (va_A.all hDc hA1)) rfl rfl hl.1 rfl (lv_room (Nat.le_of_ble_eq_true rfl)) dL_law_1181 ⟨(gRc (by (try dsimp only); omega)), (gRs (by (try dsimp only); omega))⟩) hS (va_A.all hDc hA1) (va_A.all hDc hA1) (fun v125 ad H1 locs hf hP1 hD1 hkp hS => ?_)
  obtain ⟨hP2, hD2⟩ := join_end hP hD hA1 hkp hP1 hD1
  clear hP hD hPc hDc hP1 hD1 hkp hA1
  revert hS hP2 hD2; generalize H1 = H; intro hS hP hD
  have hP : va_P E.1 vwCl ((cML E am y) ++ ((cOut E qo v125.2.2) ++ (cG E g ad x.1 x.2.1 x.2.2.1 x.2.2.2.1 v125.2.1 x.2.2.2.2.2.1 x.2.2.2.2.2.2))) H := hP
  have hD : va_D (fun q : Nat => s.heap.size ≤ q) ((cML E am y) ++ ((cOut E qo v125.2.2) ++ (cG E g ad x.1 x.2.1 x.2.2.1 x.2.2.2.1 v125.2.1 x.2.2.2.2.2.1 x.2.2.2.2.2.2))) := hD
  refine W.widen (k := cells + 3) (n := slots + 18) (by (try dsimp only); omega) (by (try dsimp only); omega) ?_
  refine lv_istore (lv' := [(5, .int v125.1), (0, .ref b), (1, .ref (g 0)), (2, .ref (am 0)), (3, .ref qo), (4, .int l4)]) hx hb dL_law_1184 hl (by decide) rfl (fun ls hl => ?_)
  refine lv_aload_n hx hb dL_law_1186 rfl (lv_at hl 3 rfl) ?_
  refine lv_aload_n hx hb dL_law_1187 rfl (lv_at hl 1 rfl) ?_
  refine lv_iload hx hb dL_law_1188 (lv_at hl 5 rfl) ?_
  refine lv_iconst (v := 1) hx hb dL_law_1190 (by decide) ?_
  refine lv_iadd hx hb dL_law_1191 ?_
  refine g_sld hx hb hX hbl hbA hS hf dL_law_1192 (fun v126 hf => ?_)
  refine lv_aload_n hx hb dL_law_1193 rfl (lv_at hl 1 rfl) ?_
  refine lv_iload hx hb dL_law_1194 (lv_at hl 5 rfl) ?_
  refine lv_iconst (v := 2) hx hb dL_law_1196 (by decide) ?_
  refine lv_iadd hx hb dL_law_1197 ?_
  refine g_sld hx hb hX hbl hbA hS hf dL_law_1198 (fun v127 hf => ?_)
  refine lv_aload_n hx hb dL_law_1199 rfl (lv_at hl 1 rfl) ?_
  refine lv_iload hx hb dL_law_1200 (lv_at hl 5 rfl) ?_
  refine lv_iconst (v := 3) hx hb dL_law_1202 (by decide) ?_
  refine lv_iadd hx hb dL_law_1203 ?_
  refine g_sld hx hb hX hbl hbA hS hf dL_law_1204 (fun v128 hf => ?_)
  have hPc : va_P E.1 vwCl (cML E am y) H := hP.left
  have hA1 : ∀ q : Nat, Array.size H ≤ q → (fun q : Nat => s.heap.size ≤ q) q := fun q h => Nat.le_trans hS.1 h
  have hDc : va_D (fun q : Nat => s.heap.size ≤ q) (cML E am y) := hD.left
  refine g_callMi (fun v129 => .long v129.1) (fun v129 => (cM E am 0 v129.2.1 y.2.1 y.2.2.1 y.2.2.2.1 y.2.2.2.2.1 y.2.2.2.2.2.1 y.2.2.2.2.2.2.1 y.2.2.2.2.2.2.2.1 y.2.2.2.2.2.2.2.2.1 y.2.2.2.2.2.2.2.2.2.1 y.2.2.2.2.2.2.2.2.2.2.1 v129.2.2.1 v129.2.2.2.1 y.2.2.2.2.2.2.2.2.2.2.2.2.2.1 y.2.2.2.2.2.2.2.2.2.2.2.2.2.2.1 y.2.2.2.2.2.2.2.2.2.2.2.2.2.2.2.1 v129.2.2.2.2.1 v129.2.2.2.2.2.1 v129.2.2.2.2.2.2.1 v129.2.2.2.2.2.2.2 y.2.2.2.2.2.2.2.2.2.2.2.2.2.2.2.2.2.2.2.2)) hf (fun v129 hv => va_runV (As := [.int v126, .int v127, .int v128]) (rest := []) ⟨hx, hb, hml, hown, hts⟩ (c_X6_ratio l E am 0 y.1 y.2.1 y.2.2.1 y.2.2.2.1 y.2.2.2.2.1 y.2.2.2.2.2.1 y.2.2.2.2.2.2.1 y.2.2.2.2.2.2.2.1 y.2.2.2.2.2.2.2.2.1 y.2.2.2.2.2.2.2.2.2.1 y.2.2.2.2.2.2.2.2.2.2.1 y.2.2.2.2.2.2.2.2.2.2.2.1 y.2.2.2.2.2.2.2.2.2.2.2.2.1 y.2.2.2.2.2.2.2.2.2.2.2.2.2.1 y.2.2.2.2.2.2.2.2.2.2.2.2.2.2.1 y.2.2.2.2.2.2.2.2.2.2.2.2.2.2.2.1 y.2.2.2.2.2.2.2.2.2.2.2.2.2.2.2.2.1 y.2.2.2.2.2.2.2.2.2.2.2.2.2.2.2.2.2.1 y.2.2.2.2.2.2.2.2.2.2.2.2.2.2.2.2.2.2.1 y.2.2.2.2.2.2.2.2.2.2.2.2.2.2.2.2.2.2.2.1 y.2.2.2.2.2.2.2.2.2.2.2.2.2.2.2.2.2.2.2.2 v126 v127 v128 _ v129 hv) (cwV 3 hts (gd_V q688 q689 q690 q5 q691) rfl rfl rfl (by decide +kernel) ⟨Nat.le_of_ble_eq_true rfl, Nat.le_of_ble_eq_true rfl⟩) (g_preVm hPc hDc hG rfl rfl) rfl rfl hl.1 rfl (lv_room (Nat.le_of_ble_eq_true rfl)) dL_law_1205 ⟨(gRc (by (try dsimp only); omega)), (gRs (by (try dsimp only); omega))⟩) hS (va_A.all hDc hA1) (va_A.all hDc hA1) (fun v129 H1 locs hf hP1 hsz hkp hS => ?_)
  have hP2 := put_mid (X := []) (C := (cML E am y)) (Y := ((cOut E qo v125.2.2) ++ (cG E g ad x.1 x.2.1 x.2.2.1 x.2.2.2.1 v125.2.1 x.2.2.2.2.2.1 x.2.2.2.2.2.2))) hP hD hkp hP1
  have hD2 : va_D (fun q : Nat => s.heap.size ≤ q) ((cM E am 0 v129.2.1 y.2.1 y.2.2.1 y.2.2.2.1 y.2.2.2.2.1 y.2.2.2.2.2.1 y.2.2.2.2.2.2.1 y.2.2.2.2.2.2.2.1 y.2.2.2.2.2.2.2.2.1 y.2.2.2.2.2.2.2.2.2.1 y.2.2.2.2.2.2.2.2.2.2.1 v129.2.2.1 v129.2.2.2.1 y.2.2.2.2.2.2.2.2.2.2.2.2.2.1 y.2.2.2.2.2.2.2.2.2.2.2.2.2.2.1 y.2.2.2.2.2.2.2.2.2.2.2.2.2.2.2.1 v129.2.2.2.2.1 v129.2.2.2.2.2.1 v129.2.2.2.2.2.2.1 v129.2.2.2.2.2.2.2 y.2.2.2.2.2.2.2.2.2.2.2.2.2.2.2.2.2.2.2.2) ++ ((cOut E qo v125.2.2) ++ (cG E g ad x.1 x.2.1 x.2.2.1 x.2.2.2.1 v125.2.1 x.2.2.2.2.2.1 x.2.2.2.2.2.2))) := va_D.sameL hD rfl
  clear hP hD hPc hDc hP1 hsz hkp hA1
  revert hS hP2 hD2; generalize H1 = H; intro hS hP hD
  have hP : va_P E.1 vwCl ((cM E am 0 v129.2.1 y.2.1 y.2.2.1 y.2.2.2.1 y.2.2.2.2.1 y.2.2.2.2.2.1 y.2.2.2.2.2.2.1 y.2.2.2.2.2.2.2.1 y.2.2.2.2.2.2.2.2.1 y.2.2.2.2.2.2.2.2.2.1 y.2.2.2.2.2.2.2.2.2.2.1 v129.2.2.1 v129.2.2.2.1 y.2.2.2.2.2.2.2.2.2.2.2.2.2.1 y.2.2.2.2.2.2.2.2.2.2.2.2.2.2.1 y.2.2.2.2.2.2.2.2.2.2.2.2.2.2.2.1 v129.2.2.2.2.1 v129.2.2.2.2.2.1 v129.2.2.2.2.2.2.1 v129.2.2.2.2.2.2.2 y.2.2.2.2.2.2.2.2.2.2.2.2.2.2.2.2.2.2.2.2) ++ ((cOut E qo v125.2.2) ++ (cG E g ad x.1 x.2.1 x.2.2.1 x.2.2.2.1 v125.2.1 x.2.2.2.2.2.1 x.2.2.2.2.2.2))) H := hP
  refine lv_lstore (lv' := [(6, .long v129.1), (5, .int v125.1), (0, .ref b), (1, .ref (g 0)), (2, .ref (am 0)), (3, .ref qo), (4, .int l4)]) hx hb dL_law_1208 hl (by decide) rfl (fun ls hl => ?_)
  refine lv_aload_n hx hb dL_law_1210 rfl (lv_at hl 4 rfl) ?_
  have hPc : va_P E.1 vwCl (cM E am 0 v129.2.1 y.2.1 y.2.2.1 y.2.2.2.1 y.2.2.2.2.1 y.2.2.2.2.2.1 y.2.2.2.2.2.2.1 y.2.2.2.2.2.2.2.1 y.2.2.2.2.2.2.2.2.1 y.2.2.2.2.2.2.2.2.2.1 y.2.2.2.2.2.2.2.2.2.2.1 v129.2.2.1 v129.2.2.2.1 y.2.2.2.2.2.2.2.2.2.2.2.2.2.1 y.2.2.2.2.2.2.2.2.2.2.2.2.2.2.1 y.2.2.2.2.2.2.2.2.2.2.2.2.2.2.2.1 v129.2.2.2.2.1 v129.2.2.2.2.2.1 v129.2.2.2.2.2.2.1 v129.2.2.2.2.2.2.2 y.2.2.2.2.2.2.2.2.2.2.2.2.2.2.2.2.2.2.2.2) H := hP.left
  refine g_callR Value.int hf (fun v130 hv => va_runV (As := []) (rest := []) ⟨hx, hb, hml, hown, hts⟩ (c_X6_thrown l E am 0 v129.2.1 y.2.1 y.2.2.1 y.2.2.2.1 y.2.2.2.2.1 y.2.2.2.2.2.1 y.2.2.2.2.2.2.1 y.2.2.2.2.2.2.2.1 y.2.2.2.2.2.2.2.2.1 y.2.2.2.2.2.2.2.2.2.1 y.2.2.2.2.2.2.2.2.2.2.1 v129.2.2.1 v129.2.2.2.1 y.2.2.2.2.2.2.2.2.2.2.2.2.2.1 y.2.2.2.2.2.2.2.2.2.2.2.2.2.2.1 y.2.2.2.2.2.2.2.2.2.2.2.2.2.2.2.1 v129.2.2.2.2.1 v129.2.2.2.2.2.1 v129.2.2.2.2.2.2.1 v129.2.2.2.2.2.2.2 y.2.2.2.2.2.2.2.2.2.2.2.2.2.2.2.2.2.2.2.2 v130 hv) (cwV 0 hts (gd_V q246 q247 q248 q5 q249) rfl rfl rfl (by decide +kernel) ⟨Nat.le_of_ble_eq_true rfl, Nat.le_of_ble_eq_true rfl⟩) (g_preV hPc hG rfl rfl) rfl rfl hl.1 rfl (lv_room (Nat.le_of_ble_eq_true rfl)) dL_law_1211 ⟨(gRc (by (try dsimp only); omega)), (gRs (by (try dsimp only); omega))⟩) (fun v130 hf => ?_)
  clear hPc
  refine lv_iload hx hb dL_law_1214 (lv_at hl 1 rfl) ?_
  refine g_icmp_eq (tgt := 1221) hx hb hf dL_law_1216 (by decide) (fun hf => ?_) (fun hf => ?_)
  · refine lv_iload hx hb dL_law_1221 (lv_at hl 1 rfl) ?_
    refine g_if_ne (tgt := 1237) hx hb hf dL_law_1223 (by decide) (fun hf => ?_) (fun hf => ?_)
    · exact w_L_law_1237 hL C0 hG hT hN hst cells slots hcs hss k23_ hk23_ ad _ _ (x.1, x.2.1, x.2.2.1, x.2.2.2.1, v125.2.1, x.2.2.2.2.2.1, x.2.2.2.2.2.2) (v129.2.1, y.2.1, y.2.2.1, y.2.2.2.1, y.2.2.2.2.1, y.2.2.2.2.2.1, y.2.2.2.2.2.2.1, y.2.2.2.2.2.2.2.1, y.2.2.2.2.2.2.2.2.1, y.2.2.2.2.2.2.2.2.2.1, y.2.2.2.2.2.2.2.2.2.2.1, v129.2.2.1, v129.2.2.2.1, y.2.2.2.2.2.2.2.2.2.2.2.2.2.1, y.2.2.2.2.2.2.2.2.2.2.2.2.2.2.1, y.2.2.2.2.2.2.2.2.2.2.2.2.2.2.2.1, v129.2.2.2.2.1, v129.2.2.2.2.2.1, v129.2.2.2.2.2.2.1, v129.2.2.2.2.2.2.2, y.2.2.2.2.2.2.2.2.2.2.2.2.2.2.2.2.2.2.2.2) v125.2.2 l4 _ hf (lv_sub hl [2, 3, 4, 5, 6] rfl) hP hS hD
    · refine lv_aload_n hx hb dL_law_1226 rfl (lv_at hl 5 rfl) ?_
      refine lv_iconst (v := 0) hx hb dL_law_1227 (by decide) ?_
      refine g_lald hx hb hG.1 hP 11 rfl hf dL_law_1228 (fun v131 hf => ?_)
      refine lv_lload hx hb dL_law_1229 (lv_at hl 0 rfl) ?_
      refine W.lcmp hx hb dL_law_1231 ?_
      refine g_if_eq (tgt := 1237) hx hb hf dL_law_1232 (by decide) (fun hf => ?_) (fun hf => ?_)
      · exact w_L_law_1237 hL C0 hG hT hN hst cells slots hcs hss k23_ hk23_ ad _ _ (x.1, x.2.1, x.2.2.1, x.2.2.2.1, v125.2.1, x.2.2.2.2.2.1, x.2.2.2.2.2.2) (v129.2.1, y.2.1, y.2.2.1, y.2.2.2.1, y.2.2.2.2.1, y.2.2.2.2.2.1, y.2.2.2.2.2.2.1, y.2.2.2.2.2.2.2.1, y.2.2.2.2.2.2.2.2.1, y.2.2.2.2.2.2.2.2.2.1, y.2.2.2.2.2.2.2.2.2.2.1, v129.2.2.1, v129.2.2.2.1, y.2.2.2.2.2.2.2.2.2.2.2.2.2.1, y.2.2.2.2.2.2.2.2.2.2.2.2.2.2.1, y.2.2.2.2.2.2.2.2.2.2.2.2.2.2.2.1, v129.2.2.2.2.1, v129.2.2.2.2.2.1, v129.2.2.2.2.2.2.1, v129.2.2.2.2.2.2.2, y.2.2.2.2.2.2.2.2.2.2.2.2.2.2.2.2.2.2.2.2) v125.2.2 l4 _ hf (lv_sub hl [2, 3, 4, 5, 6] rfl) hP hS hD
      · refine lv_iconst (v := 0) hx hb dL_law_1235 (by decide) ?_
        cases hf
  · refine lv_iconst (v := 0) hx hb dL_law_1219 (by decide) ?_
    cases hf
set_option maxHeartbeats 4000000 in
set_option maxRecDepth 100000 in
theorem w_L_law_1240 {p : Program} {l : Launch} {e : Env} {s : State} {m : MethodId} {below : List Frame} {meth : Method} {c : Code} {b L : Nat} {xs : Nat → Int32} {E : gE} {g am : Nat → Nat} {qo : Nat} (hL : L ≤ 2560) (C0 : lw_At p s m meth c b L xs) (hG : gK E s) (hT : gTh (fun q : Nat => s.heap.size ≤ q) s s.heap) (hN : gNc s) (hst : l.stackTraces = false)  (cells slots : Nat) (hcs : cells + 16 ≤ 601000) (hss : slots + 200 ≤ 7293000) (k23_ : TG → TM → (Nat → Int64) → Int32 → Option (Int32)) (hk23_ : ∀ (ad : Nat → Nat → Nat) (H : Heap) (locs : List Loc) (x : TG) (y : TM) (o : Nat → Int64) (l4 : Int32) (ls : Array Slot), k23_ x y o l4 = some 1 → lv_has ls 9 [(0, .ref b), (1, .ref (g 0)), (2, .ref (am 0)), (3, .ref qo), (4, .int l4)] → va_P E.1 vwCl ((cML E am y) ++ ((cOut E qo o) ++ (cGL E g ad x))) H → va_S (fun q : Nat => s.heap.size ≤ q) s.heap H locs → va_D (fun q : Nat => s.heap.size ≤ q) ((cML E am y) ++ ((cOut E qo o) ++ (cGL E g ad x))) → W p l e room_1 s m #[Value.ref b] below meth c H locs (cells + 16) (slots + 200) (lw_Z below #[Value.ref b] s) (F0 m 23 ls [])) : ∀ (ad : Nat → Nat → Nat) (H : Heap) (locs : List Loc) (x : TG) (y : TM) (o : Nat → Int64) (l4 : Int32) (ls : Array Slot), f_L_law_1240 xs L k23_ x y o l4 = some 1 → lv_has ls 9 [(0, .ref b), (1, .ref (g 0)), (2, .ref (am 0)), (3, .ref qo), (4, .int l4)] → va_P E.1 vwCl ((cML E am y) ++ ((cOut E qo o) ++ (cGL E g ad x))) H → va_S (fun q : Nat => s.heap.size ≤ q) s.heap H locs → va_D (fun q : Nat => s.heap.size ≤ q) ((cML E am y) ++ ((cOut E qo o) ++ (cGL E g ad x))) → W p l e room_1 s m #[Value.ref b] below meth c H locs cells slots (lw_Z below #[Value.ref b] s) (F0 m 1240 ls []) := by
  obtain ⟨hx, hb, hr, hml, hown, hts0, hX, hbl, hlocks, hgv⟩ := id C0
  have hts := gL_hts hts0
  have hbA : ¬ (fun q : Nat => s.heap.size ≤ q) b := Nat.not_le.mpr hbl
  have hA : ∀ q : Nat, s.heap.size ≤ q → (fun q : Nat => s.heap.size ≤ q) q := fun _ h => h
  intro ad H locs x y o l4 ls hf hl hP hS hD
  unfold f_L_law_1240 at hf
  refine lv_aload_n hx hb dL_law_1240 rfl (lv_at hl 1 rfl) ?_
  have hPc : va_P E.1 vwCl (cGL E g ad x) H := hP.right.right
  refine g_callR Value.long hf (fun v132 hv => va_runV (As := []) (rest := []) ⟨hx, hb, hml, hown, hts⟩ (c_X5_marks l E g ad x.1 x.2.1 x.2.2.1 x.2.2.2.1 x.2.2.2.2.1 x.2.2.2.2.2.1 x.2.2.2.2.2.2 v132 hv) (cwV 0 hts (gd_V q696 q697 q698 q2 q699) rfl rfl rfl (by decide +kernel) ⟨Nat.le_of_ble_eq_true rfl, Nat.le_of_ble_eq_true rfl⟩) (g_preV hPc hG rfl rfl) rfl rfl hl.1 rfl (lv_room (Nat.le_of_ble_eq_true rfl)) dL_law_1241 ⟨(gRc (by (try dsimp only); omega)), (gRs (by (try dsimp only); omega))⟩) (fun v132 hf => ?_)
  clear hPc
  refine lv_aload_n hx hb dL_law_1244 rfl (lv_at hl 2 rfl) ?_
  have hPc : va_P E.1 vwCl (cML E am y) H := hP.left
  have hA1 : ∀ q : Nat, Array.size H ≤ q → (fun q : Nat => s.heap.size ≤ q) q := fun q h => Nat.le_trans hS.1 h
  have hDc : va_D (fun q : Nat => s.heap.size ≤ q) (cML E am y) := hD.left
  refine g_callMi (fun v133 => .long v133.1) (fun v133 => (cM E am 0 v133.2.1 y.2.1 y.2.2.1 y.2.2.2.1 y.2.2.2.2.1 y.2.2.2.2.2.1 y.2.2.2.2.2.2.1 v133.2.2.1 v133.2.2.2.1 v133.2.2.2.2.1 v133.2.2.2.2.2.1 v133.2.2.2.2.2.2.1 v133.2.2.2.2.2.2.2 y.2.2.2.2.2.2.2.2.2.2.2.2.2.1 y.2.2.2.2.2.2.2.2.2.2.2.2.2.2.1 y.2.2.2.2.2.2.2.2.2.2.2.2.2.2.2.1 y.2.2.2.2.2.2.2.2.2.2.2.2.2.2.2.2.1 y.2.2.2.2.2.2.2.2.2.2.2.2.2.2.2.2.2.1 y.2.2.2.2.2.2.2.2.2.2.2.2.2.2.2.2.2.2.1 y.2.2.2.2.2.2.2.2.2.2.2.2.2.2.2.2.2.2.2.1 y.2.2.2.2.2.2.2.2.2.2.2.2.2.2.2.2.2.2.2.2)) hf (fun v133 hv => va_runV (As := []) (rest := [.long v132]) ⟨hx, hb, hml, hown, hts⟩ (c_X6_marks l E am 0 y.1 y.2.1 y.2.2.1 y.2.2.2.1 y.2.2.2.2.1 y.2.2.2.2.2.1 y.2.2.2.2.2.2.1 y.2.2.2.2.2.2.2.1 y.2.2.2.2.2.2.2.2.1 y.2.2.2.2.2.2.2.2.2.1 y.2.2.2.2.2.2.2.2.2.2.1 y.2.2.2.2.2.2.2.2.2.2.2.1 y.2.2.2.2.2.2.2.2.2.2.2.2.1 y.2.2.2.2.2.2.2.2.2.2.2.2.2.1 y.2.2.2.2.2.2.2.2.2.2.2.2.2.2.1 y.2.2.2.2.2.2.2.2.2.2.2.2.2.2.2.1 y.2.2.2.2.2.2.2.2.2.2.2.2.2.2.2.2.1 y.2.2.2.2.2.2.2.2.2.2.2.2.2.2.2.2.2.1 y.2.2.2.2.2.2.2.2.2.2.2.2.2.2.2.2.2.2.1 y.2.2.2.2.2.2.2.2.2.2.2.2.2.2.2.2.2.2.2.1 y.2.2.2.2.2.2.2.2.2.2.2.2.2.2.2.2.2.2.2.2 _ v133 hv) (cwV 0 hts (gd_V q708 q709 q710 q5 q711) rfl rfl rfl (by decide +kernel) ⟨Nat.le_of_ble_eq_true rfl, Nat.le_of_ble_eq_true rfl⟩) (g_preVm hPc hDc hG rfl rfl) rfl rfl hl.1 rfl (lv_room (Nat.le_of_ble_eq_true rfl)) dL_law_1245 ⟨(gRc (by (try dsimp only); omega)), (gRs (by (try dsimp only); omega))⟩) hS (va_A.all hDc hA1) (va_A.all hDc hA1) (fun v133 H1 locs hf hP1 hsz hkp hS => ?_)
  have hP2 := put_mid (X := []) (C := (cML E am y)) (Y := ((cOut E qo o) ++ (cGL E g ad x))) hP hD hkp hP1
  have hD2 : va_D (fun q : Nat => s.heap.size ≤ q) ((cM E am 0 v133.2.1 y.2.1 y.2.2.1 y.2.2.2.1 y.2.2.2.2.1 y.2.2.2.2.2.1 y.2.2.2.2.2.2.1 v133.2.2.1 v133.2.2.2.1 v133.2.2.2.2.1 v133.2.2.2.2.2.1 v133.2.2.2.2.2.2.1 v133.2.2.2.2.2.2.2 y.2.2.2.2.2.2.2.2.2.2.2.2.2.1 y.2.2.2.2.2.2.2.2.2.2.2.2.2.2.1 y.2.2.2.2.2.2.2.2.2.2.2.2.2.2.2.1 y.2.2.2.2.2.2.2.2.2.2.2.2.2.2.2.2.1 y.2.2.2.2.2.2.2.2.2.2.2.2.2.2.2.2.2.1 y.2.2.2.2.2.2.2.2.2.2.2.2.2.2.2.2.2.2.1 y.2.2.2.2.2.2.2.2.2.2.2.2.2.2.2.2.2.2.2.1 y.2.2.2.2.2.2.2.2.2.2.2.2.2.2.2.2.2.2.2.2) ++ ((cOut E qo o) ++ (cGL E g ad x))) := va_D.sameL hD rfl
  clear hP hD hPc hDc hP1 hsz hkp hA1
  revert hS hP2 hD2; generalize H1 = H; intro hS hP hD
  have hP : va_P E.1 vwCl ((cM E am 0 v133.2.1 y.2.1 y.2.2.1 y.2.2.2.1 y.2.2.2.2.1 y.2.2.2.2.2.1 y.2.2.2.2.2.2.1 v133.2.2.1 v133.2.2.2.1 v133.2.2.2.2.1 v133.2.2.2.2.2.1 v133.2.2.2.2.2.2.1 v133.2.2.2.2.2.2.2 y.2.2.2.2.2.2.2.2.2.2.2.2.2.1 y.2.2.2.2.2.2.2.2.2.2.2.2.2.2.1 y.2.2.2.2.2.2.2.2.2.2.2.2.2.2.2.1 y.2.2.2.2.2.2.2.2.2.2.2.2.2.2.2.2.1 y.2.2.2.2.2.2.2.2.2.2.2.2.2.2.2.2.2.1 y.2.2.2.2.2.2.2.2.2.2.2.2.2.2.2.2.2.2.1 y.2.2.2.2.2.2.2.2.2.2.2.2.2.2.2.2.2.2.2.1 y.2.2.2.2.2.2.2.2.2.2.2.2.2.2.2.2.2.2.2.2) ++ ((cOut E qo o) ++ (cGL E g ad x))) H := hP
  refine W.lcmp hx hb dL_law_1248 ?_
  refine g_if_eq (tgt := 1526) hx hb hf dL_law_1249 (by decide) (fun hf => ?_) (fun hf => ?_)
  · refine W.widen (k := (cells + 8)) (n := (slots + 82)) (by (try dsimp only); omega) (by (try dsimp only); omega) ?_
    exact w_L_law_1526 hL C0 hG hT hN hst cells slots hcs hss k23_ hk23_ ad _ _ x (v133.2.1, y.2.1, y.2.2.1, y.2.2.2.1, y.2.2.2.2.1, y.2.2.2.2.2.1, y.2.2.2.2.2.2.1, v133.2.2.1, v133.2.2.2.1, v133.2.2.2.2.1, v133.2.2.2.2.2.1, v133.2.2.2.2.2.2.1, v133.2.2.2.2.2.2.2, y.2.2.2.2.2.2.2.2.2.2.2.2.2.1, y.2.2.2.2.2.2.2.2.2.2.2.2.2.2.1, y.2.2.2.2.2.2.2.2.2.2.2.2.2.2.2.1, y.2.2.2.2.2.2.2.2.2.2.2.2.2.2.2.2.1, y.2.2.2.2.2.2.2.2.2.2.2.2.2.2.2.2.2.1, y.2.2.2.2.2.2.2.2.2.2.2.2.2.2.2.2.2.2.1, y.2.2.2.2.2.2.2.2.2.2.2.2.2.2.2.2.2.2.2.1, y.2.2.2.2.2.2.2.2.2.2.2.2.2.2.2.2.2.2.2.2) o l4 _ hf hl hP hS hD
  · refine lv_iconst (v := 0) hx hb dL_law_1252 (by decide) ?_
    cases hf
set_option maxHeartbeats 4000000 in
set_option maxRecDepth 100000 in
theorem w_L_law_1307 {p : Program} {l : Launch} {e : Env} {s : State} {m : MethodId} {below : List Frame} {meth : Method} {c : Code} {b L : Nat} {xs : Nat → Int32} {E : gE} {g am : Nat → Nat} {qo : Nat} (hL : L ≤ 2560) (C0 : lw_At p s m meth c b L xs) (hG : gK E s) (hT : gTh (fun q : Nat => s.heap.size ≤ q) s s.heap) (hN : gNc s) (hst : l.stackTraces = false)  (cells slots : Nat) (hcs : cells + 16 ≤ 601000) (hss : slots + 200 ≤ 7293000) (k23_ : TG → TM → (Nat → Int64) → Int32 → Option (Int32)) (hk23_ : ∀ (ad : Nat → Nat → Nat) (H : Heap) (locs : List Loc) (x : TG) (y : TM) (o : Nat → Int64) (l4 : Int32) (ls : Array Slot), k23_ x y o l4 = some 1 → lv_has ls 9 [(0, .ref b), (1, .ref (g 0)), (2, .ref (am 0)), (3, .ref qo), (4, .int l4)] → va_P E.1 vwCl ((cML E am y) ++ ((cOut E qo o) ++ (cGL E g ad x))) H → va_S (fun q : Nat => s.heap.size ≤ q) s.heap H locs → va_D (fun q : Nat => s.heap.size ≤ q) ((cML E am y) ++ ((cOut E qo o) ++ (cGL E g ad x))) → W p l e room_1 s m #[Value.ref b] below meth c H locs (cells + 16) (slots + 200) (lw_Z below #[Value.ref b] s) (F0 m 23 ls [])) : ∀ (ad : Nat → Nat → Nat) (H : Heap) (locs : List Loc) (x : TG) (y : TM) (o : Nat → Int64) (l4 : Int32) (ls : Array Slot), f_L_law_1307 xs L k23_ x y o l4 = some 1 → lv_has ls 9 [(0, .ref b), (1, .ref (g 0)), (2, .ref (am 0)), (3, .ref qo), (4, .int l4)] → va_P E.1 vwCl ((cML E am y) ++ ((cOut E qo o) ++ (cGL E g ad x))) H → va_S (fun q : Nat => s.heap.size ≤ q) s.heap H locs → va_D (fun q : Nat => s.heap.size ≤ q) ((cML E am y) ++ ((cOut E qo o) ++ (cGL E g ad x))) → W p l e room_1 s m #[Value.ref b] below meth c H locs (cells + 1) (slots + 6) (lw_Z below #[Value.ref b] s) (F0 m 1307 ls []) := by
  obtain ⟨hx, hb, hr, hml, hown, hts0, hX, hbl, hlocks, hgv⟩ := id C0
  have hts := gL_hts hts0
  have hbA : ¬ (fun q : Nat => s.heap.size ≤ q) b := Nat.not_le.mpr hbl
  have hA : ∀ q : Nat, s.heap.size ≤ q → (fun q : Nat => s.heap.size ≤ q) q := fun _ h => h
  intro ad H locs x y o l4 ls hf hl hP hS hD
  unfold f_L_law_1307 at hf
  refine lv_goto (tgt := 1526) hx hb dL_law_1307 (by decide) ?_
  refine W.widen (k := (cells + 8)) (n := (slots + 82)) (by (try dsimp only); omega) (by (try dsimp only); omega) ?_
  exact w_L_law_1526 hL C0 hG hT hN hst cells slots hcs hss k23_ hk23_ ad _ _ x y o l4 _ hf hl hP hS hD
set_option maxHeartbeats 4000000 in
set_option maxRecDepth 100000 in
theorem w_L_law_1254 {p : Program} {l : Launch} {e : Env} {s : State} {m : MethodId} {below : List Frame} {meth : Method} {c : Code} {b L : Nat} {xs : Nat → Int32} {E : gE} {g am : Nat → Nat} {qo : Nat} (hL : L ≤ 2560) (C0 : lw_At p s m meth c b L xs) (hG : gK E s) (hT : gTh (fun q : Nat => s.heap.size ≤ q) s s.heap) (hN : gNc s) (hst : l.stackTraces = false)  (cells slots : Nat) (hcs : cells + 16 ≤ 601000) (hss : slots + 200 ≤ 7293000) (k23_ : TG → TM → (Nat → Int64) → Int32 → Option (Int32)) (hk23_ : ∀ (ad : Nat → Nat → Nat) (H : Heap) (locs : List Loc) (x : TG) (y : TM) (o : Nat → Int64) (l4 : Int32) (ls : Array Slot), k23_ x y o l4 = some 1 → lv_has ls 9 [(0, .ref b), (1, .ref (g 0)), (2, .ref (am 0)), (3, .ref qo), (4, .int l4)] → va_P E.1 vwCl ((cML E am y) ++ ((cOut E qo o) ++ (cGL E g ad x))) H → va_S (fun q : Nat => s.heap.size ≤ q) s.heap H locs → va_D (fun q : Nat => s.heap.size ≤ q) ((cML E am y) ++ ((cOut E qo o) ++ (cGL E g ad x))) → W p l e room_1 s m #[Value.ref b] below meth c H locs (cells + 16) (slots + 200) (lw_Z below #[Value.ref b] s) (F0 m 23 ls [])) : ∀ (ad : Nat → Nat → Nat) (H : Heap) (locs : List Loc) (x : TG) (y : TM) (o : Nat → Int64) (l4 : Int32) (ls : Array Slot), f_L_law_1254 xs L k23_ x y o l4 = some 1 → lv_has ls 9 [(0, .ref b), (1, .ref (g 0)), (2, .ref (am 0)), (3, .ref qo), (4, .int l4)] → va_P E.1 vwCl ((cML E am y) ++ ((cOut E qo o) ++ (cGL E g ad x))) H → va_S (fun q : Nat => s.heap.size ≤ q) s.heap H locs → va_D (fun q : Nat => s.heap.size ≤ q) ((cML E am y) ++ ((cOut E qo o) ++ (cGL E g ad x))) → W p l e room_1 s m #[Value.ref b] below meth c H locs cells slots (lw_Z below #[Value.ref b] s) (F0 m 1254 ls []) := by
  obtain ⟨hx, hb, hr, hml, hown, hts0, hX, hbl, hlocks, hgv⟩ := id C0
  have hts := gL_hts hts0
  have hbA : ¬ (fun q : Nat => s.heap.size ≤ q) b := Nat.not_le.mpr hbl
  have hA : ∀ q : Nat, s.heap.size ≤ q → (fun q : Nat => s.heap.size ≤ q) q := fun _ h => h
  intro ad H locs x y o l4 ls hf hl hP hS hD
  unfold f_L_law_1254 at hf
  refine lv_aload_n hx hb dL_law_1254 rfl (lv_at hl 1 rfl) ?_
  refine lv_aload_n hx hb dL_law_1255 rfl (lv_at hl 0 rfl) ?_
  refine lv_iload hx hb dL_law_1256 (lv_at hl 4 rfl) ?_
  refine lv_iconst (v := 1) hx hb dL_law_1258 (by decide) ?_
  refine lv_iadd hx hb dL_law_1259 ?_
  refine g_sld hx hb hX hbl hbA hS hf dL_law_1260 (fun v134 hf => ?_)
  refine lv_aload_n hx hb dL_law_1261 rfl (lv_at hl 3 rfl) ?_
  have hA1 : ∀ q : Nat, Array.size H ≤ q → (fun q : Nat => s.heap.size ≤ q) q := fun q h => Nat.le_trans hS.1 h
  have hPc : va_P E.1 vwCl ((cOut E qo o) ++ (cGL E g ad x)) H := hP.right
  have hDc : va_D (fun q : Nat => s.heap.size ≤ q) ((cOut E qo o) ++ (cGL E g ad x)) := hD.right
  refine g_callA2 (fun v135 => some (.int v135.1)) (fun v135 ad => ((cOut E qo v135.2) ++ (cGL E g ad x))) hf (fun v135 hv => vx_runSW (As := [.ref (g 0), .int v134, .ref qo]) (rest := []) ⟨hx, hb, hml, hown, hts⟩ (c_L_count l E g ad qo x.1 x.2.1 x.2.2.1 x.2.2.2.1 x.2.2.2.2.1 x.2.2.2.2.2.1 x.2.2.2.2.2.2 o v134 hst _ v135 hv) (vx_cwSW 3 hts (gd_SH q716 q717 qRL q718) rfl rfl rfl (by decide +kernel) ⟨Nat.le_of_ble_eq_true rfl, Nat.le_of_ble_eq_true rfl⟩) (g_preSl hPc hDc hG hT hN hS (va_A.all hDc hA1)) rfl rfl hl.1 rfl (lv_room (Nat.le_of_ble_eq_true rfl)) dL_law_1262 ⟨(gRc (by (try dsimp only); omega)), (gRs (by (try dsimp only); omega))⟩) hS (va_A.all hDc hA1) (va_A.all hDc hA1) (fun v135 ad H1 locs hf hP1 hD1 hkp hS => ?_)
  obtain ⟨hP2, hD2⟩ := join_end hP hD hA1 hkp hP1 hD1
  clear hP hD hPc hDc hP1 hD1 hkp hA1
  revert hS hP2 hD2; generalize H1 = H; intro hS hP hD
  have hP : va_P E.1 vwCl ((cML E am y) ++ ((cOut E qo v135.2) ++ (cGL E g ad x))) H := hP
  have hD : va_D (fun q : Nat => s.heap.size ≤ q) ((cML E am y) ++ ((cOut E qo v135.2) ++ (cGL E g ad x))) := hD
  refine W.widen (k := cells + 1) (n := slots + 6) (by (try dsimp only); omega) (by (try dsimp only); omega) ?_
  refine lv_istore (lv' := [(5, .int v135.1), (0, .ref b), (1, .ref (g 0)), (2, .ref (am 0)), (3, .ref qo), (4, .int l4)]) hx hb dL_law_1265 hl (by decide) rfl (fun ls hl => ?_)
  refine lv_aload_n hx hb dL_law_1267 rfl (lv_at hl 3 rfl) ?_
  refine lv_aload_n hx hb dL_law_1268 rfl (lv_at hl 1 rfl) ?_
  refine lv_iload hx hb dL_law_1269 (lv_at hl 5 rfl) ?_
  refine lv_iconst (v := 1) hx hb dL_law_1271 (by decide) ?_
  refine lv_iadd hx hb dL_law_1272 ?_
  refine g_sld hx hb hX hbl hbA hS hf dL_law_1273 (fun v136 hf => ?_)
  have hPc : va_P E.1 vwCl (cML E am y) H := hP.left
  have hA1 : ∀ q : Nat, Array.size H ≤ q → (fun q : Nat => s.heap.size ≤ q) q := fun q h => Nat.le_trans hS.1 h
  have hDc : va_D (fun q : Nat => s.heap.size ≤ q) (cML E am y) := hD.left
  refine g_callMi (fun v137 => .int v137.1) (fun v137 => (cM E am 0 v137.2.1 y.2.1 y.2.2.1 y.2.2.2.1 y.2.2.2.2.1 y.2.2.2.2.2.1 y.2.2.2.2.2.2.1 v137.2.2.1 v137.2.2.2.1 v137.2.2.2.2.1 v137.2.2.2.2.2.1 v137.2.2.2.2.2.2.1 v137.2.2.2.2.2.2.2 y.2.2.2.2.2.2.2.2.2.2.2.2.2.1 y.2.2.2.2.2.2.2.2.2.2.2.2.2.2.1 y.2.2.2.2.2.2.2.2.2.2.2.2.2.2.2.1 y.2.2.2.2.2.2.2.2.2.2.2.2.2.2.2.2.1 y.2.2.2.2.2.2.2.2.2.2.2.2.2.2.2.2.2.1 y.2.2.2.2.2.2.2.2.2.2.2.2.2.2.2.2.2.2.1 y.2.2.2.2.2.2.2.2.2.2.2.2.2.2.2.2.2.2.2.1 y.2.2.2.2.2.2.2.2.2.2.2.2.2.2.2.2.2.2.2.2)) hf (fun v137 hv => va_runV (As := [.int v136]) (rest := []) ⟨hx, hb, hml, hown, hts⟩ (c_X6_count l E am 0 y.1 y.2.1 y.2.2.1 y.2.2.2.1 y.2.2.2.2.1 y.2.2.2.2.2.1 y.2.2.2.2.2.2.1 y.2.2.2.2.2.2.2.1 y.2.2.2.2.2.2.2.2.1 y.2.2.2.2.2.2.2.2.2.1 y.2.2.2.2.2.2.2.2.2.2.1 y.2.2.2.2.2.2.2.2.2.2.2.1 y.2.2.2.2.2.2.2.2.2.2.2.2.1 y.2.2.2.2.2.2.2.2.2.2.2.2.2.1 y.2.2.2.2.2.2.2.2.2.2.2.2.2.2.1 y.2.2.2.2.2.2.2.2.2.2.2.2.2.2.2.1 y.2.2.2.2.2.2.2.2.2.2.2.2.2.2.2.2.1 y.2.2.2.2.2.2.2.2.2.2.2.2.2.2.2.2.2.1 y.2.2.2.2.2.2.2.2.2.2.2.2.2.2.2.2.2.2.1 y.2.2.2.2.2.2.2.2.2.2.2.2.2.2.2.2.2.2.2.1 y.2.2.2.2.2.2.2.2.2.2.2.2.2.2.2.2.2.2.2.2 v136 _ v137 hv) (cwV 1 hts (gd_V q737 q738 q739 q5 q740) rfl rfl rfl (by decide +kernel) ⟨Nat.le_of_ble_eq_true rfl, Nat.le_of_ble_eq_true rfl⟩) (g_preVm hPc hDc hG rfl rfl) rfl rfl hl.1 rfl (lv_room (Nat.le_of_ble_eq_true rfl)) dL_law_1274 ⟨(gRc (by (try dsimp only); omega)), (gRs (by (try dsimp only); omega))⟩) hS (va_A.all hDc hA1) (va_A.all hDc hA1) (fun v137 H1 locs hf hP1 hsz hkp hS => ?_)
  have hP2 := put_mid (X := []) (C := (cML E am y)) (Y := ((cOut E qo v135.2) ++ (cGL E g ad x))) hP hD hkp hP1
  have hD2 : va_D (fun q : Nat => s.heap.size ≤ q) ((cM E am 0 v137.2.1 y.2.1 y.2.2.1 y.2.2.2.1 y.2.2.2.2.1 y.2.2.2.2.2.1 y.2.2.2.2.2.2.1 v137.2.2.1 v137.2.2.2.1 v137.2.2.2.2.1 v137.2.2.2.2.2.1 v137.2.2.2.2.2.2.1 v137.2.2.2.2.2.2.2 y.2.2.2.2.2.2.2.2.2.2.2.2.2.1 y.2.2.2.2.2.2.2.2.2.2.2.2.2.2.1 y.2.2.2.2.2.2.2.2.2.2.2.2.2.2.2.1 y.2.2.2.2.2.2.2.2.2.2.2.2.2.2.2.2.1 y.2.2.2.2.2.2.2.2.2.2.2.2.2.2.2.2.2.1 y.2.2.2.2.2.2.2.2.2.2.2.2.2.2.2.2.2.2.1 y.2.2.2.2.2.2.2.2.2.2.2.2.2.2.2.2.2.2.2.1 y.2.2.2.2.2.2.2.2.2.2.2.2.2.2.2.2.2.2.2.2) ++ ((cOut E qo v135.2) ++ (cGL E g ad x))) := va_D.sameL hD rfl
  clear hP hD hPc hDc hP1 hsz hkp hA1
  revert hS hP2 hD2; generalize H1 = H; intro hS hP hD
  have hP : va_P E.1 vwCl ((cM E am 0 v137.2.1 y.2.1 y.2.2.1 y.2.2.2.1 y.2.2.2.2.1 y.2.2.2.2.2.1 y.2.2.2.2.2.2.1 v137.2.2.1 v137.2.2.2.1 v137.2.2.2.2.1 v137.2.2.2.2.2.1 v137.2.2.2.2.2.2.1 v137.2.2.2.2.2.2.2 y.2.2.2.2.2.2.2.2.2.2.2.2.2.1 y.2.2.2.2.2.2.2.2.2.2.2.2.2.2.1 y.2.2.2.2.2.2.2.2.2.2.2.2.2.2.2.1 y.2.2.2.2.2.2.2.2.2.2.2.2.2.2.2.2.1 y.2.2.2.2.2.2.2.2.2.2.2.2.2.2.2.2.2.1 y.2.2.2.2.2.2.2.2.2.2.2.2.2.2.2.2.2.2.1 y.2.2.2.2.2.2.2.2.2.2.2.2.2.2.2.2.2.2.2.1 y.2.2.2.2.2.2.2.2.2.2.2.2.2.2.2.2.2.2.2.2) ++ ((cOut E qo v135.2) ++ (cGL E g ad x))) H := hP
  refine lv_istore (lv' := [(6, .int v137.1), (5, .int v135.1), (0, .ref b), (1, .ref (g 0)), (2, .ref (am 0)), (3, .ref qo), (4, .int l4)]) hx hb dL_law_1277 hl (by decide) rfl (fun ls hl => ?_)
  refine lv_aload_n hx hb dL_law_1279 rfl (lv_at hl 4 rfl) ?_
  have hPc : va_P E.1 vwCl (cM E am 0 v137.2.1 y.2.1 y.2.2.1 y.2.2.2.1 y.2.2.2.2.1 y.2.2.2.2.2.1 y.2.2.2.2.2.2.1 v137.2.2.1 v137.2.2.2.1 v137.2.2.2.2.1 v137.2.2.2.2.2.1 v137.2.2.2.2.2.2.1 v137.2.2.2.2.2.2.2 y.2.2.2.2.2.2.2.2.2.2.2.2.2.1 y.2.2.2.2.2.2.2.2.2.2.2.2.2.2.1 y.2.2.2.2.2.2.2.2.2.2.2.2.2.2.2.1 y.2.2.2.2.2.2.2.2.2.2.2.2.2.2.2.2.1 y.2.2.2.2.2.2.2.2.2.2.2.2.2.2.2.2.2.1 y.2.2.2.2.2.2.2.2.2.2.2.2.2.2.2.2.2.2.1 y.2.2.2.2.2.2.2.2.2.2.2.2.2.2.2.2.2.2.2.1 y.2.2.2.2.2.2.2.2.2.2.2.2.2.2.2.2.2.2.2.2) H := hP.left
  refine g_callR Value.int hf (fun v138 hv => va_runV (As := []) (rest := []) ⟨hx, hb, hml, hown, hts⟩ (c_X6_thrown l E am 0 v137.2.1 y.2.1 y.2.2.1 y.2.2.2.1 y.2.2.2.2.1 y.2.2.2.2.2.1 y.2.2.2.2.2.2.1 v137.2.2.1 v137.2.2.2.1 v137.2.2.2.2.1 v137.2.2.2.2.2.1 v137.2.2.2.2.2.2.1 v137.2.2.2.2.2.2.2 y.2.2.2.2.2.2.2.2.2.2.2.2.2.1 y.2.2.2.2.2.2.2.2.2.2.2.2.2.2.1 y.2.2.2.2.2.2.2.2.2.2.2.2.2.2.2.1 y.2.2.2.2.2.2.2.2.2.2.2.2.2.2.2.2.1 y.2.2.2.2.2.2.2.2.2.2.2.2.2.2.2.2.2.1 y.2.2.2.2.2.2.2.2.2.2.2.2.2.2.2.2.2.2.1 y.2.2.2.2.2.2.2.2.2.2.2.2.2.2.2.2.2.2.2.1 y.2.2.2.2.2.2.2.2.2.2.2.2.2.2.2.2.2.2.2.2 v138 hv) (cwV 0 hts (gd_V q246 q247 q248 q5 q249) rfl rfl rfl (by decide +kernel) ⟨Nat.le_of_ble_eq_true rfl, Nat.le_of_ble_eq_true rfl⟩) (g_preV hPc hG rfl rfl) rfl rfl hl.1 rfl (lv_room (Nat.le_of_ble_eq_true rfl)) dL_law_1280 ⟨(gRc (by (try dsimp only); omega)), (gRs (by (try dsimp only); omega))⟩) (fun v138 hf => ?_)
  clear hPc
  refine lv_iload hx hb dL_law_1283 (lv_at hl 1 rfl) ?_
  refine g_icmp_eq (tgt := 1290) hx hb hf dL_law_1285 (by decide) (fun hf => ?_) (fun hf => ?_)
  · refine lv_iload hx hb dL_law_1290 (lv_at hl 1 rfl) ?_
    refine g_if_ne (tgt := 1307) hx hb hf dL_law_1292 (by decide) (fun hf => ?_) (fun hf => ?_)
    · exact w_L_law_1307 hL C0 hG hT hN hst cells slots hcs hss k23_ hk23_ ad _ _ x (v137.2.1, y.2.1, y.2.2.1, y.2.2.2.1, y.2.2.2.2.1, y.2.2.2.2.2.1, y.2.2.2.2.2.2.1, v137.2.2.1, v137.2.2.2.1, v137.2.2.2.2.1, v137.2.2.2.2.2.1, v137.2.2.2.2.2.2.1, v137.2.2.2.2.2.2.2, y.2.2.2.2.2.2.2.2.2.2.2.2.2.1, y.2.2.2.2.2.2.2.2.2.2.2.2.2.2.1, y.2.2.2.2.2.2.2.2.2.2.2.2.2.2.2.1, y.2.2.2.2.2.2.2.2.2.2.2.2.2.2.2.2.1, y.2.2.2.2.2.2.2.2.2.2.2.2.2.2.2.2.2.1, y.2.2.2.2.2.2.2.2.2.2.2.2.2.2.2.2.2.2.1, y.2.2.2.2.2.2.2.2.2.2.2.2.2.2.2.2.2.2.2.1, y.2.2.2.2.2.2.2.2.2.2.2.2.2.2.2.2.2.2.2.2) v135.2 l4 _ hf (lv_sub hl [2, 3, 4, 5, 6] rfl) hP hS hD
    · refine lv_aload_n hx hb dL_law_1295 rfl (lv_at hl 5 rfl) ?_
      refine lv_iconst (v := 0) hx hb dL_law_1296 (by decide) ?_
      refine g_lald hx hb hG.1 hP 11 rfl hf dL_law_1297 (fun v139 hf => ?_)
      refine lv_iload hx hb dL_law_1298 (lv_at hl 0 rfl) ?_
      refine lv_i2l (v := (Int32.toInt64 v137.1)) hx hb dL_law_1300 rfl ?_
      refine W.lcmp hx hb dL_law_1301 ?_
      refine g_if_eq (tgt := 1307) hx hb hf dL_law_1302 (by decide) (fun hf => ?_) (fun hf => ?_)
      · exact w_L_law_1307 hL C0 hG hT hN hst cells slots hcs hss k23_ hk23_ ad _ _ x (v137.2.1, y.2.1, y.2.2.1, y.2.2.2.1, y.2.2.2.2.1, y.2.2.2.2.2.1, y.2.2.2.2.2.2.1, v137.2.2.1, v137.2.2.2.1, v137.2.2.2.2.1, v137.2.2.2.2.2.1, v137.2.2.2.2.2.2.1, v137.2.2.2.2.2.2.2, y.2.2.2.2.2.2.2.2.2.2.2.2.2.1, y.2.2.2.2.2.2.2.2.2.2.2.2.2.2.1, y.2.2.2.2.2.2.2.2.2.2.2.2.2.2.2.1, y.2.2.2.2.2.2.2.2.2.2.2.2.2.2.2.2.1, y.2.2.2.2.2.2.2.2.2.2.2.2.2.2.2.2.2.1, y.2.2.2.2.2.2.2.2.2.2.2.2.2.2.2.2.2.2.1, y.2.2.2.2.2.2.2.2.2.2.2.2.2.2.2.2.2.2.2.1, y.2.2.2.2.2.2.2.2.2.2.2.2.2.2.2.2.2.2.2.2) v135.2 l4 _ hf (lv_sub hl [2, 3, 4, 5, 6] rfl) hP hS hD
      · refine lv_iconst (v := 0) hx hb dL_law_1305 (by decide) ?_
        cases hf
  · refine lv_iconst (v := 0) hx hb dL_law_1288 (by decide) ?_
    cases hf
set_option maxHeartbeats 4000000 in
set_option maxRecDepth 100000 in
theorem w_L_law_1399 {p : Program} {l : Launch} {e : Env} {s : State} {m : MethodId} {below : List Frame} {meth : Method} {c : Code} {b L : Nat} {xs : Nat → Int32} {E : gE} {g am : Nat → Nat} {qo : Nat} (hL : L ≤ 2560) (C0 : lw_At p s m meth c b L xs) (hG : gK E s) (hT : gTh (fun q : Nat => s.heap.size ≤ q) s s.heap) (hN : gNc s) (hst : l.stackTraces = false)  (cells slots : Nat) (hcs : cells + 16 ≤ 601000) (hss : slots + 200 ≤ 7293000) (k23_ : TG → TM → (Nat → Int64) → Int32 → Option (Int32)) (hk23_ : ∀ (ad : Nat → Nat → Nat) (H : Heap) (locs : List Loc) (x : TG) (y : TM) (o : Nat → Int64) (l4 : Int32) (ls : Array Slot), k23_ x y o l4 = some 1 → lv_has ls 9 [(0, .ref b), (1, .ref (g 0)), (2, .ref (am 0)), (3, .ref qo), (4, .int l4)] → va_P E.1 vwCl ((cML E am y) ++ ((cOut E qo o) ++ (cGL E g ad x))) H → va_S (fun q : Nat => s.heap.size ≤ q) s.heap H locs → va_D (fun q : Nat => s.heap.size ≤ q) ((cML E am y) ++ ((cOut E qo o) ++ (cGL E g ad x))) → W p l e room_1 s m #[Value.ref b] below meth c H locs (cells + 16) (slots + 200) (lw_Z below #[Value.ref b] s) (F0 m 23 ls [])) : ∀ (ad : Nat → Nat → Nat) (H : Heap) (locs : List Loc) (x : TG) (y : TM) (o : Nat → Int64) (l4 : Int32) (ls : Array Slot), f_L_law_1399 xs L k23_ x y o l4 = some 1 → lv_has ls 9 [(0, .ref b), (1, .ref (g 0)), (2, .ref (am 0)), (3, .ref qo), (4, .int l4)] → va_P E.1 vwCl ((cML E am y) ++ ((cOut E qo o) ++ (cGL E g ad x))) H → va_S (fun q : Nat => s.heap.size ≤ q) s.heap H locs → va_D (fun q : Nat => s.heap.size ≤ q) ((cML E am y) ++ ((cOut E qo o) ++ (cGL E g ad x))) → W p l e room_1 s m #[Value.ref b] below meth c H locs (cells + 2) (slots + 12) (lw_Z below #[Value.ref b] s) (F0 m 1399 ls []) := by
  obtain ⟨hx, hb, hr, hml, hown, hts0, hX, hbl, hlocks, hgv⟩ := id C0
  have hts := gL_hts hts0
  have hbA : ¬ (fun q : Nat => s.heap.size ≤ q) b := Nat.not_le.mpr hbl
  have hA : ∀ q : Nat, s.heap.size ≤ q → (fun q : Nat => s.heap.size ≤ q) q := fun _ h => h
  intro ad H locs x y o l4 ls hf hl hP hS hD
  unfold f_L_law_1399 at hf
  refine lv_goto (tgt := 1526) hx hb dL_law_1399 (by decide) ?_
  refine W.widen (k := (cells + 8)) (n := (slots + 82)) (by (try dsimp only); omega) (by (try dsimp only); omega) ?_
  exact w_L_law_1526 hL C0 hG hT hN hst cells slots hcs hss k23_ hk23_ ad _ _ x y o l4 _ hf hl hP hS hD
set_option maxHeartbeats 4000000 in
set_option maxRecDepth 100000 in
theorem w_L_law_1310 {p : Program} {l : Launch} {e : Env} {s : State} {m : MethodId} {below : List Frame} {meth : Method} {c : Code} {b L : Nat} {xs : Nat → Int32} {E : gE} {g am : Nat → Nat} {qo : Nat} (hL : L ≤ 2560) (C0 : lw_At p s m meth c b L xs) (hG : gK E s) (hT : gTh (fun q : Nat => s.heap.size ≤ q) s s.heap) (hN : gNc s) (hst : l.stackTraces = false)  (cells slots : Nat) (hcs : cells + 16 ≤ 601000) (hss : slots + 200 ≤ 7293000) (k23_ : TG → TM → (Nat → Int64) → Int32 → Option (Int32)) (hk23_ : ∀ (ad : Nat → Nat → Nat) (H : Heap) (locs : List Loc) (x : TG) (y : TM) (o : Nat → Int64) (l4 : Int32) (ls : Array Slot), k23_ x y o l4 = some 1 → lv_has ls 9 [(0, .ref b), (1, .ref (g 0)), (2, .ref (am 0)), (3, .ref qo), (4, .int l4)] → va_P E.1 vwCl ((cML E am y) ++ ((cOut E qo o) ++ (cGL E g ad x))) H → va_S (fun q : Nat => s.heap.size ≤ q) s.heap H locs → va_D (fun q : Nat => s.heap.size ≤ q) ((cML E am y) ++ ((cOut E qo o) ++ (cGL E g ad x))) → W p l e room_1 s m #[Value.ref b] below meth c H locs (cells + 16) (slots + 200) (lw_Z below #[Value.ref b] s) (F0 m 23 ls [])) : ∀ (ad : Nat → Nat → Nat) (H : Heap) (locs : List Loc) (x : TG) (y : TM) (o : Nat → Int64) (l4 : Int32) (ls : Array Slot), f_L_law_1310 xs L k23_ x y o l4 = some 1 → lv_has ls 9 [(0, .ref b), (1, .ref (g 0)), (2, .ref (am 0)), (3, .ref qo), (4, .int l4)] → va_P E.1 vwCl ((cML E am y) ++ ((cOut E qo o) ++ (cGL E g ad x))) H → va_S (fun q : Nat => s.heap.size ≤ q) s.heap H locs → va_D (fun q : Nat => s.heap.size ≤ q) ((cML E am y) ++ ((cOut E qo o) ++ (cGL E g ad x))) → W p l e room_1 s m #[Value.ref b] below meth c H locs cells slots (lw_Z below #[Value.ref b] s) (F0 m 1310 ls []) := by
  obtain ⟨hx, hb, hr, hml, hown, hts0, hX, hbl, hlocks, hgv⟩ := id C0
  have hts := gL_hts hts0
  have hbA : ¬ (fun q : Nat => s.heap.size ≤ q) b := Nat.not_le.mpr hbl
  have hA : ∀ q : Nat, s.heap.size ≤ q → (fun q : Nat => s.heap.size ≤ q) q := fun _ h => h
  intro ad H locs x y o l4 ls hf hl hP hS hD
  unfold f_L_law_1310 at hf
  refine lv_aload_n hx hb dL_law_1310 rfl (lv_at hl 1 rfl) ?_
  refine lv_aload_n hx hb dL_law_1311 rfl (lv_at hl 0 rfl) ?_
  refine lv_iload hx hb dL_law_1312 (lv_at hl 4 rfl) ?_
  refine lv_iconst (v := 1) hx hb dL_law_1314 (by decide) ?_
  refine lv_iadd hx hb dL_law_1315 ?_
  refine g_sld hx hb hX hbl hbA hS hf dL_law_1316 (fun v140 hf => ?_)
  refine lv_aload_n hx hb dL_law_1317 rfl (lv_at hl 0 rfl) ?_
  refine lv_iload hx hb dL_law_1318 (lv_at hl 4 rfl) ?_
  refine lv_iconst (v := 2) hx hb dL_law_1320 (by decide) ?_
  refine lv_iadd hx hb dL_law_1321 ?_
  refine g_sld hx hb hX hbl hbA hS hf dL_law_1322 (fun v141 hf => ?_)
  refine lv_aload_n hx hb dL_law_1323 rfl (lv_at hl 0 rfl) ?_
  refine lv_iload hx hb dL_law_1324 (lv_at hl 4 rfl) ?_
  refine lv_iconst (v := 3) hx hb dL_law_1326 (by decide) ?_
  refine lv_iadd hx hb dL_law_1327 ?_
  refine g_sld hx hb hX hbl hbA hS hf dL_law_1328 (fun v142 hf => ?_)
  refine lv_aload_n hx hb dL_law_1329 rfl (lv_at hl 0 rfl) ?_
  refine lv_iload hx hb dL_law_1330 (lv_at hl 4 rfl) ?_
  refine lv_iconst (v := 4) hx hb dL_law_1332 (by decide) ?_
  refine lv_iadd hx hb dL_law_1333 ?_
  refine g_sld hx hb hX hbl hbA hS hf dL_law_1334 (fun v143 hf => ?_)
  refine lv_aload_n hx hb dL_law_1335 rfl (lv_at hl 3 rfl) ?_
  have hA1 : ∀ q : Nat, Array.size H ≤ q → (fun q : Nat => s.heap.size ≤ q) q := fun q h => Nat.le_trans hS.1 h
  have hPc : va_P E.1 vwCl ((cOut E qo o) ++ (cGL E g ad x)) H := hP.right
  have hDc : va_D (fun q : Nat => s.heap.size ≤ q) ((cOut E qo o) ++ (cGL E g ad x)) := hD.right
  refine g_callA2 (fun v144 => some (.int v144.1)) (fun v144 ad => ((cOut E qo v144.2.2.2) ++ (cG E g ad x.1 x.2.1 v144.2.1 v144.2.2.1 x.2.2.2.2.1 x.2.2.2.2.2.1 x.2.2.2.2.2.2))) hf (fun v144 hv => vx_runSW (As := [.ref (g 0), .int v140, .int v141, .int v142, .int v143, .ref qo]) (rest := []) ⟨hx, hb, hml, hown, hts⟩ (c_L_ifPut l E g ad qo x.1 x.2.1 x.2.2.1 x.2.2.2.1 x.2.2.2.2.1 x.2.2.2.2.2.1 x.2.2.2.2.2.2 o v140 v141 v142 v143 hst _ v144 hv) (vx_cwSW 6 hts (gd_SH q753 q754 qRL q755) rfl rfl rfl (by decide +kernel) ⟨Nat.le_of_ble_eq_true rfl, Nat.le_of_ble_eq_true rfl⟩) (g_preSl hPc hDc hG hT hN hS (va_A.all hDc hA1)) rfl rfl hl.1 rfl (lv_room (Nat.le_of_ble_eq_true rfl)) dL_law_1336 ⟨(gRc (by (try dsimp only); omega)), (gRs (by (try dsimp only); omega))⟩) hS (va_A.all hDc hA1) (va_A.all hDc hA1) (fun v144 ad H1 locs hf hP1 hD1 hkp hS => ?_)
  obtain ⟨hP2, hD2⟩ := join_end hP hD hA1 hkp hP1 hD1
  clear hP hD hPc hDc hP1 hD1 hkp hA1
  revert hS hP2 hD2; generalize H1 = H; intro hS hP hD
  have hP : va_P E.1 vwCl ((cML E am y) ++ ((cOut E qo v144.2.2.2) ++ (cG E g ad x.1 x.2.1 v144.2.1 v144.2.2.1 x.2.2.2.2.1 x.2.2.2.2.2.1 x.2.2.2.2.2.2))) H := hP
  have hD : va_D (fun q : Nat => s.heap.size ≤ q) ((cML E am y) ++ ((cOut E qo v144.2.2.2) ++ (cG E g ad x.1 x.2.1 v144.2.1 v144.2.2.1 x.2.2.2.2.1 x.2.2.2.2.2.1 x.2.2.2.2.2.2))) := hD
  refine W.widen (k := cells + 2) (n := slots + 12) (by (try dsimp only); omega) (by (try dsimp only); omega) ?_
  refine lv_istore (lv' := [(5, .int v144.1), (0, .ref b), (1, .ref (g 0)), (2, .ref (am 0)), (3, .ref qo), (4, .int l4)]) hx hb dL_law_1339 hl (by decide) rfl (fun ls hl => ?_)
  refine lv_aload_n hx hb dL_law_1341 rfl (lv_at hl 3 rfl) ?_
  refine lv_aload_n hx hb dL_law_1342 rfl (lv_at hl 1 rfl) ?_
  refine lv_iload hx hb dL_law_1343 (lv_at hl 5 rfl) ?_
  refine lv_iconst (v := 1) hx hb dL_law_1345 (by decide) ?_
  refine lv_iadd hx hb dL_law_1346 ?_
  refine g_sld hx hb hX hbl hbA hS hf dL_law_1347 (fun v145 hf => ?_)
  refine lv_aload_n hx hb dL_law_1348 rfl (lv_at hl 1 rfl) ?_
  refine lv_iload hx hb dL_law_1349 (lv_at hl 5 rfl) ?_
  refine lv_iconst (v := 2) hx hb dL_law_1351 (by decide) ?_
  refine lv_iadd hx hb dL_law_1352 ?_
  refine g_sld hx hb hX hbl hbA hS hf dL_law_1353 (fun v146 hf => ?_)
  refine lv_aload_n hx hb dL_law_1354 rfl (lv_at hl 1 rfl) ?_
  refine lv_iload hx hb dL_law_1355 (lv_at hl 5 rfl) ?_
  refine lv_iconst (v := 3) hx hb dL_law_1357 (by decide) ?_
  refine lv_iadd hx hb dL_law_1358 ?_
  refine g_sld hx hb hX hbl hbA hS hf dL_law_1359 (fun v147 hf => ?_)
  refine lv_aload_n hx hb dL_law_1360 rfl (lv_at hl 1 rfl) ?_
  refine lv_iload hx hb dL_law_1361 (lv_at hl 5 rfl) ?_
  refine lv_iconst (v := 4) hx hb dL_law_1363 (by decide) ?_
  refine lv_iadd hx hb dL_law_1364 ?_
  refine g_sld hx hb hX hbl hbA hS hf dL_law_1365 (fun v148 hf => ?_)
  have hPc : va_P E.1 vwCl (cML E am y) H := hP.left
  have hA1 : ∀ q : Nat, Array.size H ≤ q → (fun q : Nat => s.heap.size ≤ q) q := fun q h => Nat.le_trans hS.1 h
  have hDc : va_D (fun q : Nat => s.heap.size ≤ q) (cML E am y) := hD.left
  refine g_callMi (fun v149 => .int v149.1) (fun v149 => (cM E am 0 v149.2.1 v149.2.2.1 v149.2.2.2.1 y.2.2.2.1 y.2.2.2.2.1 y.2.2.2.2.2.1 y.2.2.2.2.2.2.1 v149.2.2.2.2.1 v149.2.2.2.2.2.1 v149.2.2.2.2.2.2.1 v149.2.2.2.2.2.2.2.1 v149.2.2.2.2.2.2.2.2.1 v149.2.2.2.2.2.2.2.2.2 y.2.2.2.2.2.2.2.2.2.2.2.2.2.1 y.2.2.2.2.2.2.2.2.2.2.2.2.2.2.1 y.2.2.2.2.2.2.2.2.2.2.2.2.2.2.2.1 y.2.2.2.2.2.2.2.2.2.2.2.2.2.2.2.2.1 y.2.2.2.2.2.2.2.2.2.2.2.2.2.2.2.2.2.1 y.2.2.2.2.2.2.2.2.2.2.2.2.2.2.2.2.2.2.1 y.2.2.2.2.2.2.2.2.2.2.2.2.2.2.2.2.2.2.2.1 y.2.2.2.2.2.2.2.2.2.2.2.2.2.2.2.2.2.2.2.2)) hf (fun v149 hv => va_runV (As := [.int v145, .int v146, .int v147, .int v148]) (rest := []) ⟨hx, hb, hml, hown, hts⟩ (c_X6_ifPut l E am 0 y.1 y.2.1 y.2.2.1 y.2.2.2.1 y.2.2.2.2.1 y.2.2.2.2.2.1 y.2.2.2.2.2.2.1 y.2.2.2.2.2.2.2.1 y.2.2.2.2.2.2.2.2.1 y.2.2.2.2.2.2.2.2.2.1 y.2.2.2.2.2.2.2.2.2.2.1 y.2.2.2.2.2.2.2.2.2.2.2.1 y.2.2.2.2.2.2.2.2.2.2.2.2.1 y.2.2.2.2.2.2.2.2.2.2.2.2.2.1 y.2.2.2.2.2.2.2.2.2.2.2.2.2.2.1 y.2.2.2.2.2.2.2.2.2.2.2.2.2.2.2.1 y.2.2.2.2.2.2.2.2.2.2.2.2.2.2.2.2.1 y.2.2.2.2.2.2.2.2.2.2.2.2.2.2.2.2.2.1 y.2.2.2.2.2.2.2.2.2.2.2.2.2.2.2.2.2.2.1 y.2.2.2.2.2.2.2.2.2.2.2.2.2.2.2.2.2.2.2.1 y.2.2.2.2.2.2.2.2.2.2.2.2.2.2.2.2.2.2.2.2 v145 v146 v147 v148 _ v149 hv) (cwV 4 hts (gd_V q760 q761 q762 q5 q763) rfl rfl rfl (by decide +kernel) ⟨Nat.le_of_ble_eq_true rfl, Nat.le_of_ble_eq_true rfl⟩) (g_preVm hPc hDc hG rfl rfl) rfl rfl hl.1 rfl (lv_room (Nat.le_of_ble_eq_true rfl)) dL_law_1366 ⟨(gRc (by (try dsimp only); omega)), (gRs (by (try dsimp only); omega))⟩) hS (va_A.all hDc hA1) (va_A.all hDc hA1) (fun v149 H1 locs hf hP1 hsz hkp hS => ?_)
  have hP2 := put_mid (X := []) (C := (cML E am y)) (Y := ((cOut E qo v144.2.2.2) ++ (cG E g ad x.1 x.2.1 v144.2.1 v144.2.2.1 x.2.2.2.2.1 x.2.2.2.2.2.1 x.2.2.2.2.2.2))) hP hD hkp hP1
  have hD2 : va_D (fun q : Nat => s.heap.size ≤ q) ((cM E am 0 v149.2.1 v149.2.2.1 v149.2.2.2.1 y.2.2.2.1 y.2.2.2.2.1 y.2.2.2.2.2.1 y.2.2.2.2.2.2.1 v149.2.2.2.2.1 v149.2.2.2.2.2.1 v149.2.2.2.2.2.2.1 v149.2.2.2.2.2.2.2.1 v149.2.2.2.2.2.2.2.2.1 v149.2.2.2.2.2.2.2.2.2 y.2.2.2.2.2.2.2.2.2.2.2.2.2.1 y.2.2.2.2.2.2.2.2.2.2.2.2.2.2.1 y.2.2.2.2.2.2.2.2.2.2.2.2.2.2.2.1 y.2.2.2.2.2.2.2.2.2.2.2.2.2.2.2.2.1 y.2.2.2.2.2.2.2.2.2.2.2.2.2.2.2.2.2.1 y.2.2.2.2.2.2.2.2.2.2.2.2.2.2.2.2.2.2.1 y.2.2.2.2.2.2.2.2.2.2.2.2.2.2.2.2.2.2.2.1 y.2.2.2.2.2.2.2.2.2.2.2.2.2.2.2.2.2.2.2.2) ++ ((cOut E qo v144.2.2.2) ++ (cG E g ad x.1 x.2.1 v144.2.1 v144.2.2.1 x.2.2.2.2.1 x.2.2.2.2.2.1 x.2.2.2.2.2.2))) := va_D.sameL hD rfl
  clear hP hD hPc hDc hP1 hsz hkp hA1
  revert hS hP2 hD2; generalize H1 = H; intro hS hP hD
  have hP : va_P E.1 vwCl ((cM E am 0 v149.2.1 v149.2.2.1 v149.2.2.2.1 y.2.2.2.1 y.2.2.2.2.1 y.2.2.2.2.2.1 y.2.2.2.2.2.2.1 v149.2.2.2.2.1 v149.2.2.2.2.2.1 v149.2.2.2.2.2.2.1 v149.2.2.2.2.2.2.2.1 v149.2.2.2.2.2.2.2.2.1 v149.2.2.2.2.2.2.2.2.2 y.2.2.2.2.2.2.2.2.2.2.2.2.2.1 y.2.2.2.2.2.2.2.2.2.2.2.2.2.2.1 y.2.2.2.2.2.2.2.2.2.2.2.2.2.2.2.1 y.2.2.2.2.2.2.2.2.2.2.2.2.2.2.2.2.1 y.2.2.2.2.2.2.2.2.2.2.2.2.2.2.2.2.2.1 y.2.2.2.2.2.2.2.2.2.2.2.2.2.2.2.2.2.2.1 y.2.2.2.2.2.2.2.2.2.2.2.2.2.2.2.2.2.2.2.1 y.2.2.2.2.2.2.2.2.2.2.2.2.2.2.2.2.2.2.2.2) ++ ((cOut E qo v144.2.2.2) ++ (cG E g ad x.1 x.2.1 v144.2.1 v144.2.2.1 x.2.2.2.2.1 x.2.2.2.2.2.1 x.2.2.2.2.2.2))) H := hP
  refine lv_istore (lv' := [(6, .int v149.1), (5, .int v144.1), (0, .ref b), (1, .ref (g 0)), (2, .ref (am 0)), (3, .ref qo), (4, .int l4)]) hx hb dL_law_1369 hl (by decide) rfl (fun ls hl => ?_)
  refine lv_aload_n hx hb dL_law_1371 rfl (lv_at hl 4 rfl) ?_
  have hPc : va_P E.1 vwCl (cM E am 0 v149.2.1 v149.2.2.1 v149.2.2.2.1 y.2.2.2.1 y.2.2.2.2.1 y.2.2.2.2.2.1 y.2.2.2.2.2.2.1 v149.2.2.2.2.1 v149.2.2.2.2.2.1 v149.2.2.2.2.2.2.1 v149.2.2.2.2.2.2.2.1 v149.2.2.2.2.2.2.2.2.1 v149.2.2.2.2.2.2.2.2.2 y.2.2.2.2.2.2.2.2.2.2.2.2.2.1 y.2.2.2.2.2.2.2.2.2.2.2.2.2.2.1 y.2.2.2.2.2.2.2.2.2.2.2.2.2.2.2.1 y.2.2.2.2.2.2.2.2.2.2.2.2.2.2.2.2.1 y.2.2.2.2.2.2.2.2.2.2.2.2.2.2.2.2.2.1 y.2.2.2.2.2.2.2.2.2.2.2.2.2.2.2.2.2.2.1 y.2.2.2.2.2.2.2.2.2.2.2.2.2.2.2.2.2.2.2.1 y.2.2.2.2.2.2.2.2.2.2.2.2.2.2.2.2.2.2.2.2) H := hP.left
  refine g_callR Value.int hf (fun v150 hv => va_runV (As := []) (rest := []) ⟨hx, hb, hml, hown, hts⟩ (c_X6_thrown l E am 0 v149.2.1 v149.2.2.1 v149.2.2.2.1 y.2.2.2.1 y.2.2.2.2.1 y.2.2.2.2.2.1 y.2.2.2.2.2.2.1 v149.2.2.2.2.1 v149.2.2.2.2.2.1 v149.2.2.2.2.2.2.1 v149.2.2.2.2.2.2.2.1 v149.2.2.2.2.2.2.2.2.1 v149.2.2.2.2.2.2.2.2.2 y.2.2.2.2.2.2.2.2.2.2.2.2.2.1 y.2.2.2.2.2.2.2.2.2.2.2.2.2.2.1 y.2.2.2.2.2.2.2.2.2.2.2.2.2.2.2.1 y.2.2.2.2.2.2.2.2.2.2.2.2.2.2.2.2.1 y.2.2.2.2.2.2.2.2.2.2.2.2.2.2.2.2.2.1 y.2.2.2.2.2.2.2.2.2.2.2.2.2.2.2.2.2.2.1 y.2.2.2.2.2.2.2.2.2.2.2.2.2.2.2.2.2.2.2.1 y.2.2.2.2.2.2.2.2.2.2.2.2.2.2.2.2.2.2.2.2 v150 hv) (cwV 0 hts (gd_V q246 q247 q248 q5 q249) rfl rfl rfl (by decide +kernel) ⟨Nat.le_of_ble_eq_true rfl, Nat.le_of_ble_eq_true rfl⟩) (g_preV hPc hG rfl rfl) rfl rfl hl.1 rfl (lv_room (Nat.le_of_ble_eq_true rfl)) dL_law_1372 ⟨(gRc (by (try dsimp only); omega)), (gRs (by (try dsimp only); omega))⟩) (fun v150 hf => ?_)
  clear hPc
  refine lv_iload hx hb dL_law_1375 (lv_at hl 1 rfl) ?_
  refine g_icmp_eq (tgt := 1382) hx hb hf dL_law_1377 (by decide) (fun hf => ?_) (fun hf => ?_)
  · refine lv_iload hx hb dL_law_1382 (lv_at hl 1 rfl) ?_
    refine g_if_ne (tgt := 1399) hx hb hf dL_law_1384 (by decide) (fun hf => ?_) (fun hf => ?_)
    · exact w_L_law_1399 hL C0 hG hT hN hst cells slots hcs hss k23_ hk23_ ad _ _ (x.1, x.2.1, v144.2.1, v144.2.2.1, x.2.2.2.2.1, x.2.2.2.2.2.1, x.2.2.2.2.2.2) (v149.2.1, v149.2.2.1, v149.2.2.2.1, y.2.2.2.1, y.2.2.2.2.1, y.2.2.2.2.2.1, y.2.2.2.2.2.2.1, v149.2.2.2.2.1, v149.2.2.2.2.2.1, v149.2.2.2.2.2.2.1, v149.2.2.2.2.2.2.2.1, v149.2.2.2.2.2.2.2.2.1, v149.2.2.2.2.2.2.2.2.2, y.2.2.2.2.2.2.2.2.2.2.2.2.2.1, y.2.2.2.2.2.2.2.2.2.2.2.2.2.2.1, y.2.2.2.2.2.2.2.2.2.2.2.2.2.2.2.1, y.2.2.2.2.2.2.2.2.2.2.2.2.2.2.2.2.1, y.2.2.2.2.2.2.2.2.2.2.2.2.2.2.2.2.2.1, y.2.2.2.2.2.2.2.2.2.2.2.2.2.2.2.2.2.2.1, y.2.2.2.2.2.2.2.2.2.2.2.2.2.2.2.2.2.2.2.1, y.2.2.2.2.2.2.2.2.2.2.2.2.2.2.2.2.2.2.2.2) v144.2.2.2 l4 _ hf (lv_sub hl [2, 3, 4, 5, 6] rfl) hP hS hD
    · refine lv_aload_n hx hb dL_law_1387 rfl (lv_at hl 5 rfl) ?_
      refine lv_iconst (v := 0) hx hb dL_law_1388 (by decide) ?_
      refine g_lald hx hb hG.1 hP 11 rfl hf dL_law_1389 (fun v151 hf => ?_)
      refine lv_iload hx hb dL_law_1390 (lv_at hl 0 rfl) ?_
      refine lv_i2l (v := (Int32.toInt64 v149.1)) hx hb dL_law_1392 rfl ?_
      refine W.lcmp hx hb dL_law_1393 ?_
      refine g_if_eq (tgt := 1399) hx hb hf dL_law_1394 (by decide) (fun hf => ?_) (fun hf => ?_)
      · exact w_L_law_1399 hL C0 hG hT hN hst cells slots hcs hss k23_ hk23_ ad _ _ (x.1, x.2.1, v144.2.1, v144.2.2.1, x.2.2.2.2.1, x.2.2.2.2.2.1, x.2.2.2.2.2.2) (v149.2.1, v149.2.2.1, v149.2.2.2.1, y.2.2.2.1, y.2.2.2.2.1, y.2.2.2.2.2.1, y.2.2.2.2.2.2.1, v149.2.2.2.2.1, v149.2.2.2.2.2.1, v149.2.2.2.2.2.2.1, v149.2.2.2.2.2.2.2.1, v149.2.2.2.2.2.2.2.2.1, v149.2.2.2.2.2.2.2.2.2, y.2.2.2.2.2.2.2.2.2.2.2.2.2.1, y.2.2.2.2.2.2.2.2.2.2.2.2.2.2.1, y.2.2.2.2.2.2.2.2.2.2.2.2.2.2.2.1, y.2.2.2.2.2.2.2.2.2.2.2.2.2.2.2.2.1, y.2.2.2.2.2.2.2.2.2.2.2.2.2.2.2.2.2.1, y.2.2.2.2.2.2.2.2.2.2.2.2.2.2.2.2.2.2.1, y.2.2.2.2.2.2.2.2.2.2.2.2.2.2.2.2.2.2.2.1, y.2.2.2.2.2.2.2.2.2.2.2.2.2.2.2.2.2.2.2.2) v144.2.2.2 l4 _ hf (lv_sub hl [2, 3, 4, 5, 6] rfl) hP hS hD
      · refine lv_iconst (v := 0) hx hb dL_law_1397 (by decide) ?_
        cases hf
  · refine lv_iconst (v := 0) hx hb dL_law_1380 (by decide) ?_
    cases hf
set_option maxHeartbeats 4000000 in
set_option maxRecDepth 100000 in
theorem w_L_law_1455 {p : Program} {l : Launch} {e : Env} {s : State} {m : MethodId} {below : List Frame} {meth : Method} {c : Code} {b L : Nat} {xs : Nat → Int32} {E : gE} {g am : Nat → Nat} {qo : Nat} (hL : L ≤ 2560) (C0 : lw_At p s m meth c b L xs) (hG : gK E s) (hT : gTh (fun q : Nat => s.heap.size ≤ q) s s.heap) (hN : gNc s) (hst : l.stackTraces = false)  (cells slots : Nat) (hcs : cells + 16 ≤ 601000) (hss : slots + 200 ≤ 7293000) (k23_ : TG → TM → (Nat → Int64) → Int32 → Option (Int32)) (hk23_ : ∀ (ad : Nat → Nat → Nat) (H : Heap) (locs : List Loc) (x : TG) (y : TM) (o : Nat → Int64) (l4 : Int32) (ls : Array Slot), k23_ x y o l4 = some 1 → lv_has ls 9 [(0, .ref b), (1, .ref (g 0)), (2, .ref (am 0)), (3, .ref qo), (4, .int l4)] → va_P E.1 vwCl ((cML E am y) ++ ((cOut E qo o) ++ (cGL E g ad x))) H → va_S (fun q : Nat => s.heap.size ≤ q) s.heap H locs → va_D (fun q : Nat => s.heap.size ≤ q) ((cML E am y) ++ ((cOut E qo o) ++ (cGL E g ad x))) → W p l e room_1 s m #[Value.ref b] below meth c H locs (cells + 16) (slots + 200) (lw_Z below #[Value.ref b] s) (F0 m 23 ls [])) : ∀ (ad : Nat → Nat → Nat) (H : Heap) (locs : List Loc) (x : TG) (y : TM) (o : Nat → Int64) (l4 : Int32) (ls : Array Slot), f_L_law_1455 xs L k23_ x y o l4 = some 1 → lv_has ls 9 [(0, .ref b), (1, .ref (g 0)), (2, .ref (am 0)), (3, .ref qo), (4, .int l4)] → va_P E.1 vwCl ((cML E am y) ++ ((cOut E qo o) ++ (cGL E g ad x))) H → va_S (fun q : Nat => s.heap.size ≤ q) s.heap H locs → va_D (fun q : Nat => s.heap.size ≤ q) ((cML E am y) ++ ((cOut E qo o) ++ (cGL E g ad x))) → W p l e room_1 s m #[Value.ref b] below meth c H locs (cells + 1) (slots + 6) (lw_Z below #[Value.ref b] s) (F0 m 1455 ls []) := by
  obtain ⟨hx, hb, hr, hml, hown, hts0, hX, hbl, hlocks, hgv⟩ := id C0
  have hts := gL_hts hts0
  have hbA : ¬ (fun q : Nat => s.heap.size ≤ q) b := Nat.not_le.mpr hbl
  have hA : ∀ q : Nat, s.heap.size ≤ q → (fun q : Nat => s.heap.size ≤ q) q := fun _ h => h
  intro ad H locs x y o l4 ls hf hl hP hS hD
  unfold f_L_law_1455 at hf
  refine lv_goto (tgt := 1526) hx hb dL_law_1455 (by decide) ?_
  refine W.widen (k := (cells + 8)) (n := (slots + 82)) (by (try dsimp only); omega) (by (try dsimp only); omega) ?_
  exact w_L_law_1526 hL C0 hG hT hN hst cells slots hcs hss k23_ hk23_ ad _ _ x y o l4 _ hf hl hP hS hD
set_option maxHeartbeats 4000000 in
set_option maxRecDepth 100000 in
theorem w_L_law_1402 {p : Program} {l : Launch} {e : Env} {s : State} {m : MethodId} {below : List Frame} {meth : Method} {c : Code} {b L : Nat} {xs : Nat → Int32} {E : gE} {g am : Nat → Nat} {qo : Nat} (hL : L ≤ 2560) (C0 : lw_At p s m meth c b L xs) (hG : gK E s) (hT : gTh (fun q : Nat => s.heap.size ≤ q) s s.heap) (hN : gNc s) (hst : l.stackTraces = false)  (cells slots : Nat) (hcs : cells + 16 ≤ 601000) (hss : slots + 200 ≤ 7293000) (k23_ : TG → TM → (Nat → Int64) → Int32 → Option (Int32)) (hk23_ : ∀ (ad : Nat → Nat → Nat) (H : Heap) (locs : List Loc) (x : TG) (y : TM) (o : Nat → Int64) (l4 : Int32) (ls : Array Slot), k23_ x y o l4 = some 1 → lv_has ls 9 [(0, .ref b), (1, .ref (g 0)), (2, .ref (am 0)), (3, .ref qo), (4, .int l4)] → va_P E.1 vwCl ((cML E am y) ++ ((cOut E qo o) ++ (cGL E g ad x))) H → va_S (fun q : Nat => s.heap.size ≤ q) s.heap H locs → va_D (fun q : Nat => s.heap.size ≤ q) ((cML E am y) ++ ((cOut E qo o) ++ (cGL E g ad x))) → W p l e room_1 s m #[Value.ref b] below meth c H locs (cells + 16) (slots + 200) (lw_Z below #[Value.ref b] s) (F0 m 23 ls [])) : ∀ (ad : Nat → Nat → Nat) (H : Heap) (locs : List Loc) (x : TG) (y : TM) (o : Nat → Int64) (l4 : Int32) (ls : Array Slot), f_L_law_1402 xs L k23_ x y o l4 = some 1 → lv_has ls 9 [(0, .ref b), (1, .ref (g 0)), (2, .ref (am 0)), (3, .ref qo), (4, .int l4)] → va_P E.1 vwCl ((cML E am y) ++ ((cOut E qo o) ++ (cGL E g ad x))) H → va_S (fun q : Nat => s.heap.size ≤ q) s.heap H locs → va_D (fun q : Nat => s.heap.size ≤ q) ((cML E am y) ++ ((cOut E qo o) ++ (cGL E g ad x))) → W p l e room_1 s m #[Value.ref b] below meth c H locs cells slots (lw_Z below #[Value.ref b] s) (F0 m 1402 ls []) := by
  obtain ⟨hx, hb, hr, hml, hown, hts0, hX, hbl, hlocks, hgv⟩ := id C0
  have hts := gL_hts hts0
  have hbA : ¬ (fun q : Nat => s.heap.size ≤ q) b := Nat.not_le.mpr hbl
  have hA : ∀ q : Nat, s.heap.size ≤ q → (fun q : Nat => s.heap.size ≤ q) q := fun _ h => h
  intro ad H locs x y o l4 ls hf hl hP hS hD
  unfold f_L_law_1402 at hf
  refine lv_aload_n hx hb dL_law_1402 rfl (lv_at hl 1 rfl) ?_
  refine lv_aload_n hx hb dL_law_1403 rfl (lv_at hl 0 rfl) ?_
  refine lv_iload hx hb dL_law_1404 (lv_at hl 4 rfl) ?_
  refine lv_iconst (v := 1) hx hb dL_law_1406 (by decide) ?_
  refine lv_iadd hx hb dL_law_1407 ?_
  refine g_sld hx hb hX hbl hbA hS hf dL_law_1408 (fun v152 hf => ?_)
  refine lv_aload_n hx hb dL_law_1409 rfl (lv_at hl 3 rfl) ?_
  have hA1 : ∀ q : Nat, Array.size H ≤ q → (fun q : Nat => s.heap.size ≤ q) q := fun q h => Nat.le_trans hS.1 h
  have hPc : va_P E.1 vwCl ((cOut E qo o) ++ (cGL E g ad x)) H := hP.right
  have hDc : va_D (fun q : Nat => s.heap.size ≤ q) ((cOut E qo o) ++ (cGL E g ad x)) := hD.right
  refine g_callA2 (fun v153 => some (.int v153.1)) (fun v153 ad => ((cOut E qo v153.2.2.2) ++ (cG E g ad x.1 x.2.1 v153.2.1 v153.2.2.1 x.2.2.2.2.1 x.2.2.2.2.2.1 x.2.2.2.2.2.2))) hf (fun v153 hv => vx_runSW (As := [.ref (g 0), .int v152, .ref qo]) (rest := []) ⟨hx, hb, hml, hown, hts⟩ (c_L_solution l E g ad qo x.1 x.2.1 x.2.2.1 x.2.2.2.1 x.2.2.2.2.1 x.2.2.2.2.2.1 x.2.2.2.2.2.2 o v152 hst _ v153 hv) (vx_cwSW 3 hts (gd_SH q776 q777 qRL q778) rfl rfl rfl (by decide +kernel) ⟨Nat.le_of_ble_eq_true rfl, Nat.le_of_ble_eq_true rfl⟩) (g_preSl hPc hDc hG hT hN hS (va_A.all hDc hA1)) rfl rfl hl.1 rfl (lv_room (Nat.le_of_ble_eq_true rfl)) dL_law_1410 ⟨(gRc (by (try dsimp only); omega)), (gRs (by (try dsimp only); omega))⟩) hS (va_A.all hDc hA1) (va_A.all hDc hA1) (fun v153 ad H1 locs hf hP1 hD1 hkp hS => ?_)
  obtain ⟨hP2, hD2⟩ := join_end hP hD hA1 hkp hP1 hD1
  clear hP hD hPc hDc hP1 hD1 hkp hA1
  revert hS hP2 hD2; generalize H1 = H; intro hS hP hD
  have hP : va_P E.1 vwCl ((cML E am y) ++ ((cOut E qo v153.2.2.2) ++ (cG E g ad x.1 x.2.1 v153.2.1 v153.2.2.1 x.2.2.2.2.1 x.2.2.2.2.2.1 x.2.2.2.2.2.2))) H := hP
  have hD : va_D (fun q : Nat => s.heap.size ≤ q) ((cML E am y) ++ ((cOut E qo v153.2.2.2) ++ (cG E g ad x.1 x.2.1 v153.2.1 v153.2.2.1 x.2.2.2.2.1 x.2.2.2.2.2.1 x.2.2.2.2.2.2))) := hD
  refine W.widen (k := cells + 1) (n := slots + 6) (by (try dsimp only); omega) (by (try dsimp only); omega) ?_
  refine lv_istore (lv' := [(5, .int v153.1), (0, .ref b), (1, .ref (g 0)), (2, .ref (am 0)), (3, .ref qo), (4, .int l4)]) hx hb dL_law_1413 hl (by decide) rfl (fun ls hl => ?_)
  refine lv_aload_n hx hb dL_law_1415 rfl (lv_at hl 3 rfl) ?_
  refine lv_aload_n hx hb dL_law_1416 rfl (lv_at hl 1 rfl) ?_
  refine lv_iload hx hb dL_law_1417 (lv_at hl 5 rfl) ?_
  refine lv_iconst (v := 1) hx hb dL_law_1419 (by decide) ?_
  refine lv_iadd hx hb dL_law_1420 ?_
  refine g_sld hx hb hX hbl hbA hS hf dL_law_1421 (fun v154 hf => ?_)
  have hPc : va_P E.1 vwCl (cML E am y) H := hP.left
  have hA1 : ∀ q : Nat, Array.size H ≤ q → (fun q : Nat => s.heap.size ≤ q) q := fun q h => Nat.le_trans hS.1 h
  have hDc : va_D (fun q : Nat => s.heap.size ≤ q) (cML E am y) := hD.left
  refine g_callMi (fun v155 => .int v155.1) (fun v155 => (cM E am 0 v155.2.1 v155.2.2.1 v155.2.2.2.1 y.2.2.2.1 y.2.2.2.2.1 y.2.2.2.2.2.1 y.2.2.2.2.2.2.1 v155.2.2.2.2.1 v155.2.2.2.2.2.1 v155.2.2.2.2.2.2.1 v155.2.2.2.2.2.2.2.1 v155.2.2.2.2.2.2.2.2.1 v155.2.2.2.2.2.2.2.2.2 y.2.2.2.2.2.2.2.2.2.2.2.2.2.1 y.2.2.2.2.2.2.2.2.2.2.2.2.2.2.1 y.2.2.2.2.2.2.2.2.2.2.2.2.2.2.2.1 y.2.2.2.2.2.2.2.2.2.2.2.2.2.2.2.2.1 y.2.2.2.2.2.2.2.2.2.2.2.2.2.2.2.2.2.1 y.2.2.2.2.2.2.2.2.2.2.2.2.2.2.2.2.2.2.1 y.2.2.2.2.2.2.2.2.2.2.2.2.2.2.2.2.2.2.2.1 y.2.2.2.2.2.2.2.2.2.2.2.2.2.2.2.2.2.2.2.2)) hf (fun v155 hv => va_runV (As := [.int v154]) (rest := []) ⟨hx, hb, hml, hown, hts⟩ (c_X6_solution l E am 0 y.1 y.2.1 y.2.2.1 y.2.2.2.1 y.2.2.2.2.1 y.2.2.2.2.2.1 y.2.2.2.2.2.2.1 y.2.2.2.2.2.2.2.1 y.2.2.2.2.2.2.2.2.1 y.2.2.2.2.2.2.2.2.2.1 y.2.2.2.2.2.2.2.2.2.2.1 y.2.2.2.2.2.2.2.2.2.2.2.1 y.2.2.2.2.2.2.2.2.2.2.2.2.1 y.2.2.2.2.2.2.2.2.2.2.2.2.2.1 y.2.2.2.2.2.2.2.2.2.2.2.2.2.2.1 y.2.2.2.2.2.2.2.2.2.2.2.2.2.2.2.1 y.2.2.2.2.2.2.2.2.2.2.2.2.2.2.2.2.1 y.2.2.2.2.2.2.2.2.2.2.2.2.2.2.2.2.2.1 y.2.2.2.2.2.2.2.2.2.2.2.2.2.2.2.2.2.2.1 y.2.2.2.2.2.2.2.2.2.2.2.2.2.2.2.2.2.2.2.1 y.2.2.2.2.2.2.2.2.2.2.2.2.2.2.2.2.2.2.2.2 v154 _ v155 hv) (cwV 1 hts (gd_V q794 q795 q796 q5 q797) rfl rfl rfl (by decide +kernel) ⟨Nat.le_of_ble_eq_true rfl, Nat.le_of_ble_eq_true rfl⟩) (g_preVm hPc hDc hG rfl rfl) rfl rfl hl.1 rfl (lv_room (Nat.le_of_ble_eq_true rfl)) dL_law_1422 ⟨(gRc (by (try dsimp only); omega)), (gRs (by (try dsimp only); omega))⟩) hS (va_A.all hDc hA1) (va_A.all hDc hA1) (fun v155 H1 locs hf hP1 hsz hkp hS => ?_)
  have hP2 := put_mid (X := []) (C := (cML E am y)) (Y := ((cOut E qo v153.2.2.2) ++ (cG E g ad x.1 x.2.1 v153.2.1 v153.2.2.1 x.2.2.2.2.1 x.2.2.2.2.2.1 x.2.2.2.2.2.2))) hP hD hkp hP1
  have hD2 : va_D (fun q : Nat => s.heap.size ≤ q) ((cM E am 0 v155.2.1 v155.2.2.1 v155.2.2.2.1 y.2.2.2.1 y.2.2.2.2.1 y.2.2.2.2.2.1 y.2.2.2.2.2.2.1 v155.2.2.2.2.1 v155.2.2.2.2.2.1 v155.2.2.2.2.2.2.1 v155.2.2.2.2.2.2.2.1 v155.2.2.2.2.2.2.2.2.1 v155.2.2.2.2.2.2.2.2.2 y.2.2.2.2.2.2.2.2.2.2.2.2.2.1 y.2.2.2.2.2.2.2.2.2.2.2.2.2.2.1 y.2.2.2.2.2.2.2.2.2.2.2.2.2.2.2.1 y.2.2.2.2.2.2.2.2.2.2.2.2.2.2.2.2.1 y.2.2.2.2.2.2.2.2.2.2.2.2.2.2.2.2.2.1 y.2.2.2.2.2.2.2.2.2.2.2.2.2.2.2.2.2.2.1 y.2.2.2.2.2.2.2.2.2.2.2.2.2.2.2.2.2.2.2.1 y.2.2.2.2.2.2.2.2.2.2.2.2.2.2.2.2.2.2.2.2) ++ ((cOut E qo v153.2.2.2) ++ (cG E g ad x.1 x.2.1 v153.2.1 v153.2.2.1 x.2.2.2.2.1 x.2.2.2.2.2.1 x.2.2.2.2.2.2))) := va_D.sameL hD rfl
  clear hP hD hPc hDc hP1 hsz hkp hA1
  revert hS hP2 hD2; generalize H1 = H; intro hS hP hD
  have hP : va_P E.1 vwCl ((cM E am 0 v155.2.1 v155.2.2.1 v155.2.2.2.1 y.2.2.2.1 y.2.2.2.2.1 y.2.2.2.2.2.1 y.2.2.2.2.2.2.1 v155.2.2.2.2.1 v155.2.2.2.2.2.1 v155.2.2.2.2.2.2.1 v155.2.2.2.2.2.2.2.1 v155.2.2.2.2.2.2.2.2.1 v155.2.2.2.2.2.2.2.2.2 y.2.2.2.2.2.2.2.2.2.2.2.2.2.1 y.2.2.2.2.2.2.2.2.2.2.2.2.2.2.1 y.2.2.2.2.2.2.2.2.2.2.2.2.2.2.2.1 y.2.2.2.2.2.2.2.2.2.2.2.2.2.2.2.2.1 y.2.2.2.2.2.2.2.2.2.2.2.2.2.2.2.2.2.1 y.2.2.2.2.2.2.2.2.2.2.2.2.2.2.2.2.2.2.1 y.2.2.2.2.2.2.2.2.2.2.2.2.2.2.2.2.2.2.2.1 y.2.2.2.2.2.2.2.2.2.2.2.2.2.2.2.2.2.2.2.2) ++ ((cOut E qo v153.2.2.2) ++ (cG E g ad x.1 x.2.1 v153.2.1 v153.2.2.1 x.2.2.2.2.1 x.2.2.2.2.2.1 x.2.2.2.2.2.2))) H := hP
  refine lv_istore (lv' := [(6, .int v155.1), (5, .int v153.1), (0, .ref b), (1, .ref (g 0)), (2, .ref (am 0)), (3, .ref qo), (4, .int l4)]) hx hb dL_law_1425 hl (by decide) rfl (fun ls hl => ?_)
  refine lv_aload_n hx hb dL_law_1427 rfl (lv_at hl 4 rfl) ?_
  have hPc : va_P E.1 vwCl (cM E am 0 v155.2.1 v155.2.2.1 v155.2.2.2.1 y.2.2.2.1 y.2.2.2.2.1 y.2.2.2.2.2.1 y.2.2.2.2.2.2.1 v155.2.2.2.2.1 v155.2.2.2.2.2.1 v155.2.2.2.2.2.2.1 v155.2.2.2.2.2.2.2.1 v155.2.2.2.2.2.2.2.2.1 v155.2.2.2.2.2.2.2.2.2 y.2.2.2.2.2.2.2.2.2.2.2.2.2.1 y.2.2.2.2.2.2.2.2.2.2.2.2.2.2.1 y.2.2.2.2.2.2.2.2.2.2.2.2.2.2.2.1 y.2.2.2.2.2.2.2.2.2.2.2.2.2.2.2.2.1 y.2.2.2.2.2.2.2.2.2.2.2.2.2.2.2.2.2.1 y.2.2.2.2.2.2.2.2.2.2.2.2.2.2.2.2.2.2.1 y.2.2.2.2.2.2.2.2.2.2.2.2.2.2.2.2.2.2.2.1 y.2.2.2.2.2.2.2.2.2.2.2.2.2.2.2.2.2.2.2.2) H := hP.left
  refine g_callR Value.int hf (fun v156 hv => va_runV (As := []) (rest := []) ⟨hx, hb, hml, hown, hts⟩ (c_X6_thrown l E am 0 v155.2.1 v155.2.2.1 v155.2.2.2.1 y.2.2.2.1 y.2.2.2.2.1 y.2.2.2.2.2.1 y.2.2.2.2.2.2.1 v155.2.2.2.2.1 v155.2.2.2.2.2.1 v155.2.2.2.2.2.2.1 v155.2.2.2.2.2.2.2.1 v155.2.2.2.2.2.2.2.2.1 v155.2.2.2.2.2.2.2.2.2 y.2.2.2.2.2.2.2.2.2.2.2.2.2.1 y.2.2.2.2.2.2.2.2.2.2.2.2.2.2.1 y.2.2.2.2.2.2.2.2.2.2.2.2.2.2.2.1 y.2.2.2.2.2.2.2.2.2.2.2.2.2.2.2.2.1 y.2.2.2.2.2.2.2.2.2.2.2.2.2.2.2.2.2.1 y.2.2.2.2.2.2.2.2.2.2.2.2.2.2.2.2.2.2.1 y.2.2.2.2.2.2.2.2.2.2.2.2.2.2.2.2.2.2.2.1 y.2.2.2.2.2.2.2.2.2.2.2.2.2.2.2.2.2.2.2.2 v156 hv) (cwV 0 hts (gd_V q246 q247 q248 q5 q249) rfl rfl rfl (by decide +kernel) ⟨Nat.le_of_ble_eq_true rfl, Nat.le_of_ble_eq_true rfl⟩) (g_preV hPc hG rfl rfl) rfl rfl hl.1 rfl (lv_room (Nat.le_of_ble_eq_true rfl)) dL_law_1428 ⟨(gRc (by (try dsimp only); omega)), (gRs (by (try dsimp only); omega))⟩) (fun v156 hf => ?_)
  clear hPc
  refine lv_iload hx hb dL_law_1431 (lv_at hl 1 rfl) ?_
  refine g_icmp_eq (tgt := 1438) hx hb hf dL_law_1433 (by decide) (fun hf => ?_) (fun hf => ?_)
  · refine lv_iload hx hb dL_law_1438 (lv_at hl 1 rfl) ?_
    refine g_if_ne (tgt := 1455) hx hb hf dL_law_1440 (by decide) (fun hf => ?_) (fun hf => ?_)
    · exact w_L_law_1455 hL C0 hG hT hN hst cells slots hcs hss k23_ hk23_ ad _ _ (x.1, x.2.1, v153.2.1, v153.2.2.1, x.2.2.2.2.1, x.2.2.2.2.2.1, x.2.2.2.2.2.2) (v155.2.1, v155.2.2.1, v155.2.2.2.1, y.2.2.2.1, y.2.2.2.2.1, y.2.2.2.2.2.1, y.2.2.2.2.2.2.1, v155.2.2.2.2.1, v155.2.2.2.2.2.1, v155.2.2.2.2.2.2.1, v155.2.2.2.2.2.2.2.1, v155.2.2.2.2.2.2.2.2.1, v155.2.2.2.2.2.2.2.2.2, y.2.2.2.2.2.2.2.2.2.2.2.2.2.1, y.2.2.2.2.2.2.2.2.2.2.2.2.2.2.1, y.2.2.2.2.2.2.2.2.2.2.2.2.2.2.2.1, y.2.2.2.2.2.2.2.2.2.2.2.2.2.2.2.2.1, y.2.2.2.2.2.2.2.2.2.2.2.2.2.2.2.2.2.1, y.2.2.2.2.2.2.2.2.2.2.2.2.2.2.2.2.2.2.1, y.2.2.2.2.2.2.2.2.2.2.2.2.2.2.2.2.2.2.2.1, y.2.2.2.2.2.2.2.2.2.2.2.2.2.2.2.2.2.2.2.2) v153.2.2.2 l4 _ hf (lv_sub hl [2, 3, 4, 5, 6] rfl) hP hS hD
    · refine lv_aload_n hx hb dL_law_1443 rfl (lv_at hl 5 rfl) ?_
      refine lv_iconst (v := 0) hx hb dL_law_1444 (by decide) ?_
      refine g_lald hx hb hG.1 hP 11 rfl hf dL_law_1445 (fun v157 hf => ?_)
      refine lv_iload hx hb dL_law_1446 (lv_at hl 0 rfl) ?_
      refine lv_i2l (v := (Int32.toInt64 v155.1)) hx hb dL_law_1448 rfl ?_
      refine W.lcmp hx hb dL_law_1449 ?_
      refine g_if_eq (tgt := 1455) hx hb hf dL_law_1450 (by decide) (fun hf => ?_) (fun hf => ?_)
      · exact w_L_law_1455 hL C0 hG hT hN hst cells slots hcs hss k23_ hk23_ ad _ _ (x.1, x.2.1, v153.2.1, v153.2.2.1, x.2.2.2.2.1, x.2.2.2.2.2.1, x.2.2.2.2.2.2) (v155.2.1, v155.2.2.1, v155.2.2.2.1, y.2.2.2.1, y.2.2.2.2.1, y.2.2.2.2.2.1, y.2.2.2.2.2.2.1, v155.2.2.2.2.1, v155.2.2.2.2.2.1, v155.2.2.2.2.2.2.1, v155.2.2.2.2.2.2.2.1, v155.2.2.2.2.2.2.2.2.1, v155.2.2.2.2.2.2.2.2.2, y.2.2.2.2.2.2.2.2.2.2.2.2.2.1, y.2.2.2.2.2.2.2.2.2.2.2.2.2.2.1, y.2.2.2.2.2.2.2.2.2.2.2.2.2.2.2.1, y.2.2.2.2.2.2.2.2.2.2.2.2.2.2.2.2.1, y.2.2.2.2.2.2.2.2.2.2.2.2.2.2.2.2.2.1, y.2.2.2.2.2.2.2.2.2.2.2.2.2.2.2.2.2.2.1, y.2.2.2.2.2.2.2.2.2.2.2.2.2.2.2.2.2.2.2.1, y.2.2.2.2.2.2.2.2.2.2.2.2.2.2.2.2.2.2.2.2) v153.2.2.2 l4 _ hf (lv_sub hl [2, 3, 4, 5, 6] rfl) hP hS hD
      · refine lv_iconst (v := 0) hx hb dL_law_1453 (by decide) ?_
        cases hf
  · refine lv_iconst (v := 0) hx hb dL_law_1436 (by decide) ?_
    cases hf
set_option maxHeartbeats 4000000 in
set_option maxRecDepth 100000 in
theorem w_L_law_1458 {p : Program} {l : Launch} {e : Env} {s : State} {m : MethodId} {below : List Frame} {meth : Method} {c : Code} {b L : Nat} {xs : Nat → Int32} {E : gE} {g am : Nat → Nat} {qo : Nat} (hL : L ≤ 2560) (C0 : lw_At p s m meth c b L xs) (hG : gK E s) (hT : gTh (fun q : Nat => s.heap.size ≤ q) s s.heap) (hN : gNc s) (hst : l.stackTraces = false)  (cells slots : Nat) (hcs : cells + 16 ≤ 601000) (hss : slots + 200 ≤ 7293000) (k23_ : TG → TM → (Nat → Int64) → Int32 → Option (Int32)) (hk23_ : ∀ (ad : Nat → Nat → Nat) (H : Heap) (locs : List Loc) (x : TG) (y : TM) (o : Nat → Int64) (l4 : Int32) (ls : Array Slot), k23_ x y o l4 = some 1 → lv_has ls 9 [(0, .ref b), (1, .ref (g 0)), (2, .ref (am 0)), (3, .ref qo), (4, .int l4)] → va_P E.1 vwCl ((cML E am y) ++ ((cOut E qo o) ++ (cGL E g ad x))) H → va_S (fun q : Nat => s.heap.size ≤ q) s.heap H locs → va_D (fun q : Nat => s.heap.size ≤ q) ((cML E am y) ++ ((cOut E qo o) ++ (cGL E g ad x))) → W p l e room_1 s m #[Value.ref b] below meth c H locs (cells + 16) (slots + 200) (lw_Z below #[Value.ref b] s) (F0 m 23 ls [])) : ∀ (ad : Nat → Nat → Nat) (H : Heap) (locs : List Loc) (x : TG) (y : TM) (o : Nat → Int64) (l4 : Int32) (ls : Array Slot), f_L_law_1458 xs L k23_ x y o l4 = some 1 → lv_has ls 9 [(0, .ref b), (1, .ref (g 0)), (2, .ref (am 0)), (3, .ref qo), (4, .int l4)] → va_P E.1 vwCl ((cML E am y) ++ ((cOut E qo o) ++ (cGL E g ad x))) H → va_S (fun q : Nat => s.heap.size ≤ q) s.heap H locs → va_D (fun q : Nat => s.heap.size ≤ q) ((cML E am y) ++ ((cOut E qo o) ++ (cGL E g ad x))) → W p l e room_1 s m #[Value.ref b] below meth c H locs cells slots (lw_Z below #[Value.ref b] s) (F0 m 1458 ls []) := by
  obtain ⟨hx, hb, hr, hml, hown, hts0, hX, hbl, hlocks, hgv⟩ := id C0
  have hts := gL_hts hts0
  have hbA : ¬ (fun q : Nat => s.heap.size ≤ q) b := Nat.not_le.mpr hbl
  have hA : ∀ q : Nat, s.heap.size ≤ q → (fun q : Nat => s.heap.size ≤ q) q := fun _ h => h
  intro ad H locs x y o l4 ls hf hl hP hS hD
  unfold f_L_law_1458 at hf
  refine lv_aload_n hx hb dL_law_1458 rfl (lv_at hl 1 rfl) ?_
  have hPc : va_P E.1 vwCl (cGL E g ad x) H := hP.right.right
  have hA1 : ∀ q : Nat, Array.size H ≤ q → (fun q : Nat => s.heap.size ≤ q) q := fun q h => Nat.le_trans hS.1 h
  have hDc : va_D (fun q : Nat => s.heap.size ≤ q) (cGL E g ad x) := hD.right.right
  refine g_callA2 (fun v158 => some (.int v158.1)) (fun v158 ad => (cG E g ad x.1 x.2.1 v158.2.1 v158.2.2 x.2.2.2.2.1 x.2.2.2.2.2.1 x.2.2.2.2.2.2)) hf (fun v158 hv => va_runV (As := []) (rest := []) ⟨hx, hb, hml, hown, hts⟩ (c_X5_culprit l E g ad x.1 x.2.1 x.2.2.1 x.2.2.2.1 x.2.2.2.2.1 x.2.2.2.2.2.1 x.2.2.2.2.2.2 _ v158 hv) (cwV 0 hts (gd_V q806 q807 q808 q2 q809) rfl rfl rfl (by decide +kernel) ⟨Nat.le_of_ble_eq_true rfl, Nat.le_of_ble_eq_true rfl⟩) (g_preVm hPc hDc hG rfl rfl) rfl rfl hl.1 rfl (lv_room (Nat.le_of_ble_eq_true rfl)) dL_law_1459 ⟨(gRc (by (try dsimp only); omega)), (gRs (by (try dsimp only); omega))⟩) hS (va_A.all hDc hA1) (va_A.all hDc hA1) (fun v158 ad H1 locs hf hP1 hD1 hkp hS => ?_)
  obtain ⟨hP2, hD2⟩ := join_end (X := (cML E am y) ++ (cOut E qo o)) (by rw [List.append_assoc]; exact hP) (by rw [List.append_assoc]; exact hD) hA1 hkp hP1 hD1
  rw [List.append_assoc] at hP2 hD2
  clear hP hD hPc hDc hP1 hD1 hkp hA1
  revert hS hP2 hD2; generalize H1 = H; intro hS hP hD
  have hP : va_P E.1 vwCl ((cML E am y) ++ ((cOut E qo o) ++ (cG E g ad x.1 x.2.1 v158.2.1 v158.2.2 x.2.2.2.2.1 x.2.2.2.2.2.1 x.2.2.2.2.2.2))) H := hP
  have hD : va_D (fun q : Nat => s.heap.size ≤ q) ((cML E am y) ++ ((cOut E qo o) ++ (cG E g ad x.1 x.2.1 v158.2.1 v158.2.2 x.2.2.2.2.1 x.2.2.2.2.2.1 x.2.2.2.2.2.2))) := hD
  refine W.widen (k := cells) (n := slots) (by (try dsimp only); omega) (by (try dsimp only); omega) ?_
  refine lv_aload_n hx hb dL_law_1462 rfl (lv_at hl 2 rfl) ?_
  have hPc : va_P E.1 vwCl (cML E am y) H := hP.left
  have hA1 : ∀ q : Nat, Array.size H ≤ q → (fun q : Nat => s.heap.size ≤ q) q := fun q h => Nat.le_trans hS.1 h
  have hDc : va_D (fun q : Nat => s.heap.size ≤ q) (cML E am y) := hD.left
  refine g_callMi (fun v159 => .int v159.1) (fun v159 => (cM E am 0 v159.2.1 v159.2.2.1 v159.2.2.2.1 y.2.2.2.1 y.2.2.2.2.1 y.2.2.2.2.2.1 y.2.2.2.2.2.2.1 v159.2.2.2.2.1 v159.2.2.2.2.2.1 v159.2.2.2.2.2.2.1 v159.2.2.2.2.2.2.2.1 v159.2.2.2.2.2.2.2.2.1 v159.2.2.2.2.2.2.2.2.2 y.2.2.2.2.2.2.2.2.2.2.2.2.2.1 y.2.2.2.2.2.2.2.2.2.2.2.2.2.2.1 y.2.2.2.2.2.2.2.2.2.2.2.2.2.2.2.1 y.2.2.2.2.2.2.2.2.2.2.2.2.2.2.2.2.1 y.2.2.2.2.2.2.2.2.2.2.2.2.2.2.2.2.2.1 y.2.2.2.2.2.2.2.2.2.2.2.2.2.2.2.2.2.2.1 y.2.2.2.2.2.2.2.2.2.2.2.2.2.2.2.2.2.2.2.1 y.2.2.2.2.2.2.2.2.2.2.2.2.2.2.2.2.2.2.2.2)) hf (fun v159 hv => va_runV (As := []) (rest := [.int v158.1]) ⟨hx, hb, hml, hown, hts⟩ (c_X6_culprit l E am 0 y.1 y.2.1 y.2.2.1 y.2.2.2.1 y.2.2.2.2.1 y.2.2.2.2.2.1 y.2.2.2.2.2.2.1 y.2.2.2.2.2.2.2.1 y.2.2.2.2.2.2.2.2.1 y.2.2.2.2.2.2.2.2.2.1 y.2.2.2.2.2.2.2.2.2.2.1 y.2.2.2.2.2.2.2.2.2.2.2.1 y.2.2.2.2.2.2.2.2.2.2.2.2.1 y.2.2.2.2.2.2.2.2.2.2.2.2.2.1 y.2.2.2.2.2.2.2.2.2.2.2.2.2.2.1 y.2.2.2.2.2.2.2.2.2.2.2.2.2.2.2.1 y.2.2.2.2.2.2.2.2.2.2.2.2.2.2.2.2.1 y.2.2.2.2.2.2.2.2.2.2.2.2.2.2.2.2.2.1 y.2.2.2.2.2.2.2.2.2.2.2.2.2.2.2.2.2.2.1 y.2.2.2.2.2.2.2.2.2.2.2.2.2.2.2.2.2.2.2.1 y.2.2.2.2.2.2.2.2.2.2.2.2.2.2.2.2.2.2.2.2 _ v159 hv) (cwV 0 hts (gd_V q814 q815 q816 q5 q817) rfl rfl rfl (by decide +kernel) ⟨Nat.le_of_ble_eq_true rfl, Nat.le_of_ble_eq_true rfl⟩) (g_preVm hPc hDc hG rfl rfl) rfl rfl hl.1 rfl (lv_room (Nat.le_of_ble_eq_true rfl)) dL_law_1463 ⟨(gRc (by (try dsimp only); omega)), (gRs (by (try dsimp only); omega))⟩) hS (va_A.all hDc hA1) (va_A.all hDc hA1) (fun v159 H1 locs hf hP1 hsz hkp hS => ?_)
  have hP2 := put_mid (X := []) (C := (cML E am y)) (Y := ((cOut E qo o) ++ (cG E g ad x.1 x.2.1 v158.2.1 v158.2.2 x.2.2.2.2.1 x.2.2.2.2.2.1 x.2.2.2.2.2.2))) hP hD hkp hP1
  have hD2 : va_D (fun q : Nat => s.heap.size ≤ q) ((cM E am 0 v159.2.1 v159.2.2.1 v159.2.2.2.1 y.2.2.2.1 y.2.2.2.2.1 y.2.2.2.2.2.1 y.2.2.2.2.2.2.1 v159.2.2.2.2.1 v159.2.2.2.2.2.1 v159.2.2.2.2.2.2.1 v159.2.2.2.2.2.2.2.1 v159.2.2.2.2.2.2.2.2.1 v159.2.2.2.2.2.2.2.2.2 y.2.2.2.2.2.2.2.2.2.2.2.2.2.1 y.2.2.2.2.2.2.2.2.2.2.2.2.2.2.1 y.2.2.2.2.2.2.2.2.2.2.2.2.2.2.2.1 y.2.2.2.2.2.2.2.2.2.2.2.2.2.2.2.2.1 y.2.2.2.2.2.2.2.2.2.2.2.2.2.2.2.2.2.1 y.2.2.2.2.2.2.2.2.2.2.2.2.2.2.2.2.2.2.1 y.2.2.2.2.2.2.2.2.2.2.2.2.2.2.2.2.2.2.2.1 y.2.2.2.2.2.2.2.2.2.2.2.2.2.2.2.2.2.2.2.2) ++ ((cOut E qo o) ++ (cG E g ad x.1 x.2.1 v158.2.1 v158.2.2 x.2.2.2.2.1 x.2.2.2.2.2.1 x.2.2.2.2.2.2))) := va_D.sameL hD rfl
  clear hP hD hPc hDc hP1 hsz hkp hA1
  revert hS hP2 hD2; generalize H1 = H; intro hS hP hD
  have hP : va_P E.1 vwCl ((cM E am 0 v159.2.1 v159.2.2.1 v159.2.2.2.1 y.2.2.2.1 y.2.2.2.2.1 y.2.2.2.2.2.1 y.2.2.2.2.2.2.1 v159.2.2.2.2.1 v159.2.2.2.2.2.1 v159.2.2.2.2.2.2.1 v159.2.2.2.2.2.2.2.1 v159.2.2.2.2.2.2.2.2.1 v159.2.2.2.2.2.2.2.2.2 y.2.2.2.2.2.2.2.2.2.2.2.2.2.1 y.2.2.2.2.2.2.2.2.2.2.2.2.2.2.1 y.2.2.2.2.2.2.2.2.2.2.2.2.2.2.2.1 y.2.2.2.2.2.2.2.2.2.2.2.2.2.2.2.2.1 y.2.2.2.2.2.2.2.2.2.2.2.2.2.2.2.2.2.1 y.2.2.2.2.2.2.2.2.2.2.2.2.2.2.2.2.2.2.1 y.2.2.2.2.2.2.2.2.2.2.2.2.2.2.2.2.2.2.2.1 y.2.2.2.2.2.2.2.2.2.2.2.2.2.2.2.2.2.2.2.2) ++ ((cOut E qo o) ++ (cG E g ad x.1 x.2.1 v158.2.1 v158.2.2 x.2.2.2.2.1 x.2.2.2.2.2.1 x.2.2.2.2.2.2))) H := hP
  refine g_icmp_eq (tgt := 1526) hx hb hf dL_law_1466 (by decide) (fun hf => ?_) (fun hf => ?_)
  · refine W.widen (k := (cells + 8)) (n := (slots + 82)) (by (try dsimp only); omega) (by (try dsimp only); omega) ?_
    exact w_L_law_1526 hL C0 hG hT hN hst cells slots hcs hss k23_ hk23_ ad _ _ (x.1, x.2.1, v158.2.1, v158.2.2, x.2.2.2.2.1, x.2.2.2.2.2.1, x.2.2.2.2.2.2) (v159.2.1, v159.2.2.1, v159.2.2.2.1, y.2.2.2.1, y.2.2.2.2.1, y.2.2.2.2.2.1, y.2.2.2.2.2.2.1, v159.2.2.2.2.1, v159.2.2.2.2.2.1, v159.2.2.2.2.2.2.1, v159.2.2.2.2.2.2.2.1, v159.2.2.2.2.2.2.2.2.1, v159.2.2.2.2.2.2.2.2.2, y.2.2.2.2.2.2.2.2.2.2.2.2.2.1, y.2.2.2.2.2.2.2.2.2.2.2.2.2.2.1, y.2.2.2.2.2.2.2.2.2.2.2.2.2.2.2.1, y.2.2.2.2.2.2.2.2.2.2.2.2.2.2.2.2.1, y.2.2.2.2.2.2.2.2.2.2.2.2.2.2.2.2.2.1, y.2.2.2.2.2.2.2.2.2.2.2.2.2.2.2.2.2.2.1, y.2.2.2.2.2.2.2.2.2.2.2.2.2.2.2.2.2.2.2.1, y.2.2.2.2.2.2.2.2.2.2.2.2.2.2.2.2.2.2.2.2) o l4 _ hf hl hP hS hD
  · refine lv_iconst (v := 0) hx hb dL_law_1469 (by decide) ?_
    cases hf
set_option maxHeartbeats 4000000 in
set_option maxRecDepth 100000 in
theorem w_L_law_1509 {p : Program} {l : Launch} {e : Env} {s : State} {m : MethodId} {below : List Frame} {meth : Method} {c : Code} {b L : Nat} {xs : Nat → Int32} {E : gE} {g am : Nat → Nat} {qo : Nat} (hL : L ≤ 2560) (C0 : lw_At p s m meth c b L xs) (hG : gK E s) (hT : gTh (fun q : Nat => s.heap.size ≤ q) s s.heap) (hN : gNc s) (hst : l.stackTraces = false)  (cells slots : Nat) (hcs : cells + 16 ≤ 601000) (hss : slots + 200 ≤ 7293000) (k23_ : TG → TM → (Nat → Int64) → Int32 → Option (Int32)) (hk23_ : ∀ (ad : Nat → Nat → Nat) (H : Heap) (locs : List Loc) (x : TG) (y : TM) (o : Nat → Int64) (l4 : Int32) (ls : Array Slot), k23_ x y o l4 = some 1 → lv_has ls 9 [(0, .ref b), (1, .ref (g 0)), (2, .ref (am 0)), (3, .ref qo), (4, .int l4)] → va_P E.1 vwCl ((cML E am y) ++ ((cOut E qo o) ++ (cGL E g ad x))) H → va_S (fun q : Nat => s.heap.size ≤ q) s.heap H locs → va_D (fun q : Nat => s.heap.size ≤ q) ((cML E am y) ++ ((cOut E qo o) ++ (cGL E g ad x))) → W p l e room_1 s m #[Value.ref b] below meth c H locs (cells + 16) (slots + 200) (lw_Z below #[Value.ref b] s) (F0 m 23 ls [])) : ∀ (ad : Nat → Nat → Nat) (H : Heap) (locs : List Loc) (x : TG) (y : TM) (o : Nat → Int64) (l4 : Int32) (ls : Array Slot), f_L_law_1509 xs L k23_ x y o l4 = some 1 → lv_has ls 9 [(0, .ref b), (1, .ref (g 0)), (2, .ref (am 0)), (3, .ref qo), (4, .int l4)] → va_P E.1 vwCl ((cML E am y) ++ ((cOut E qo o) ++ (cGL E g ad x))) H → va_S (fun q : Nat => s.heap.size ≤ q) s.heap H locs → va_D (fun q : Nat => s.heap.size ≤ q) ((cML E am y) ++ ((cOut E qo o) ++ (cGL E g ad x))) → W p l e room_1 s m #[Value.ref b] below meth c H locs cells slots (lw_Z below #[Value.ref b] s) (F0 m 1509 ls []) := by
  obtain ⟨hx, hb, hr, hml, hown, hts0, hX, hbl, hlocks, hgv⟩ := id C0
  have hts := gL_hts hts0
  have hbA : ¬ (fun q : Nat => s.heap.size ≤ q) b := Nat.not_le.mpr hbl
  have hA : ∀ q : Nat, s.heap.size ≤ q → (fun q : Nat => s.heap.size ≤ q) q := fun _ h => h
  intro ad H locs x y o l4 ls hf hl hP hS hD
  unfold f_L_law_1509 at hf
  refine lv_goto (tgt := 1526) hx hb dL_law_1509 (by decide) ?_
  refine W.widen (k := (cells + 8)) (n := (slots + 82)) (by (try dsimp only); omega) (by (try dsimp only); omega) ?_
  exact w_L_law_1526 hL C0 hG hT hN hst cells slots hcs hss k23_ hk23_ ad _ _ x y o l4 _ hf hl hP hS hD
set_option maxHeartbeats 4000000 in
set_option maxRecDepth 100000 in
theorem w_L_law_1471 {p : Program} {l : Launch} {e : Env} {s : State} {m : MethodId} {below : List Frame} {meth : Method} {c : Code} {b L : Nat} {xs : Nat → Int32} {E : gE} {g am : Nat → Nat} {qo : Nat} (hL : L ≤ 2560) (C0 : lw_At p s m meth c b L xs) (hG : gK E s) (hT : gTh (fun q : Nat => s.heap.size ≤ q) s s.heap) (hN : gNc s) (hst : l.stackTraces = false)  (cells slots : Nat) (hcs : cells + 16 ≤ 601000) (hss : slots + 200 ≤ 7293000) (k23_ : TG → TM → (Nat → Int64) → Int32 → Option (Int32)) (hk23_ : ∀ (ad : Nat → Nat → Nat) (H : Heap) (locs : List Loc) (x : TG) (y : TM) (o : Nat → Int64) (l4 : Int32) (ls : Array Slot), k23_ x y o l4 = some 1 → lv_has ls 9 [(0, .ref b), (1, .ref (g 0)), (2, .ref (am 0)), (3, .ref qo), (4, .int l4)] → va_P E.1 vwCl ((cML E am y) ++ ((cOut E qo o) ++ (cGL E g ad x))) H → va_S (fun q : Nat => s.heap.size ≤ q) s.heap H locs → va_D (fun q : Nat => s.heap.size ≤ q) ((cML E am y) ++ ((cOut E qo o) ++ (cGL E g ad x))) → W p l e room_1 s m #[Value.ref b] below meth c H locs (cells + 16) (slots + 200) (lw_Z below #[Value.ref b] s) (F0 m 23 ls [])) : ∀ (ad : Nat → Nat → Nat) (H : Heap) (locs : List Loc) (x : TG) (y : TM) (o : Nat → Int64) (l4 : Int32) (ls : Array Slot), f_L_law_1471 xs L k23_ x y o l4 = some 1 → lv_has ls 9 [(0, .ref b), (1, .ref (g 0)), (2, .ref (am 0)), (3, .ref qo), (4, .int l4)] → va_P E.1 vwCl ((cML E am y) ++ ((cOut E qo o) ++ (cGL E g ad x))) H → va_S (fun q : Nat => s.heap.size ≤ q) s.heap H locs → va_D (fun q : Nat => s.heap.size ≤ q) ((cML E am y) ++ ((cOut E qo o) ++ (cGL E g ad x))) → W p l e room_1 s m #[Value.ref b] below meth c H locs cells slots (lw_Z below #[Value.ref b] s) (F0 m 1471 ls []) := by
  obtain ⟨hx, hb, hr, hml, hown, hts0, hX, hbl, hlocks, hgv⟩ := id C0
  have hts := gL_hts hts0
  have hbA : ¬ (fun q : Nat => s.heap.size ≤ q) b := Nat.not_le.mpr hbl
  have hA : ∀ q : Nat, s.heap.size ≤ q → (fun q : Nat => s.heap.size ≤ q) q := fun _ h => h
  intro ad H locs x y o l4 ls hf hl hP hS hD
  unfold f_L_law_1471 at hf
  refine lv_aload_n hx hb dL_law_1471 rfl (lv_at hl 1 rfl) ?_
  have hPc : va_P E.1 vwCl (cGL E g ad x) H := hP.right.right
  refine g_callR Value.double hf (fun v160 hv => va_runV (As := []) (rest := []) ⟨hx, hb, hml, hown, hts⟩ (c_X5_turningShare l E g ad x.1 x.2.1 x.2.2.1 x.2.2.2.1 x.2.2.2.2.1 x.2.2.2.2.2.1 x.2.2.2.2.2.2 v160 hv) (cwV 0 hts (gd_V q822 q823 q824 q2 q825) rfl rfl rfl (by decide +kernel) ⟨Nat.le_of_ble_eq_true rfl, Nat.le_of_ble_eq_true rfl⟩) (g_preV hPc hG rfl rfl) rfl rfl hl.1 rfl (lv_room (Nat.le_of_ble_eq_true rfl)) dL_law_1472 ⟨(gRc (by (try dsimp only); omega)), (gRs (by (try dsimp only); omega))⟩) (fun v160 hf => ?_)
  clear hPc
  refine lv_dstore (lv' := [(5, .double v160), (0, .ref b), (1, .ref (g 0)), (2, .ref (am 0)), (3, .ref qo), (4, .int l4)]) hx hb dL_law_1475 hl (by decide) rfl (fun ls hl => ?_)
  refine lv_aload_n hx hb dL_law_1477 rfl (lv_at hl 3 rfl) ?_
  have hPc : va_P E.1 vwCl (cML E am y) H := hP.left
  have hA1 : ∀ q : Nat, Array.size H ≤ q → (fun q : Nat => s.heap.size ≤ q) q := fun q h => Nat.le_trans hS.1 h
  have hDc : va_D (fun q : Nat => s.heap.size ≤ q) (cML E am y) := hD.left
  refine g_callMi (fun v161 => .double v161.1) (fun v161 => (cM E am 0 v161.2.1 y.2.1 y.2.2.1 y.2.2.2.1 y.2.2.2.2.1 y.2.2.2.2.2.1 y.2.2.2.2.2.2.1 v161.2.2.1 v161.2.2.2.1 v161.2.2.2.2.1 v161.2.2.2.2.2.1 v161.2.2.2.2.2.2.1 v161.2.2.2.2.2.2.2 y.2.2.2.2.2.2.2.2.2.2.2.2.2.1 y.2.2.2.2.2.2.2.2.2.2.2.2.2.2.1 y.2.2.2.2.2.2.2.2.2.2.2.2.2.2.2.1 y.2.2.2.2.2.2.2.2.2.2.2.2.2.2.2.2.1 y.2.2.2.2.2.2.2.2.2.2.2.2.2.2.2.2.2.1 y.2.2.2.2.2.2.2.2.2.2.2.2.2.2.2.2.2.2.1 y.2.2.2.2.2.2.2.2.2.2.2.2.2.2.2.2.2.2.2.1 y.2.2.2.2.2.2.2.2.2.2.2.2.2.2.2.2.2.2.2.2)) hf (fun v161 hv => va_runV (As := []) (rest := []) ⟨hx, hb, hml, hown, hts⟩ (c_X6_turningShare l E am 0 y.1 y.2.1 y.2.2.1 y.2.2.2.1 y.2.2.2.2.1 y.2.2.2.2.2.1 y.2.2.2.2.2.2.1 y.2.2.2.2.2.2.2.1 y.2.2.2.2.2.2.2.2.1 y.2.2.2.2.2.2.2.2.2.1 y.2.2.2.2.2.2.2.2.2.2.1 y.2.2.2.2.2.2.2.2.2.2.2.1 y.2.2.2.2.2.2.2.2.2.2.2.2.1 y.2.2.2.2.2.2.2.2.2.2.2.2.2.1 y.2.2.2.2.2.2.2.2.2.2.2.2.2.2.1 y.2.2.2.2.2.2.2.2.2.2.2.2.2.2.2.1 y.2.2.2.2.2.2.2.2.2.2.2.2.2.2.2.2.1 y.2.2.2.2.2.2.2.2.2.2.2.2.2.2.2.2.2.1 y.2.2.2.2.2.2.2.2.2.2.2.2.2.2.2.2.2.2.1 y.2.2.2.2.2.2.2.2.2.2.2.2.2.2.2.2.2.2.2.1 y.2.2.2.2.2.2.2.2.2.2.2.2.2.2.2.2.2.2.2.2 _ v161 hv) (cwV 0 hts (gd_V q826 q827 q828 q5 q829) rfl rfl rfl (by decide +kernel) ⟨Nat.le_of_ble_eq_true rfl, Nat.le_of_ble_eq_true rfl⟩) (g_preVm hPc hDc hG rfl rfl) rfl rfl hl.1 rfl (lv_room (Nat.le_of_ble_eq_true rfl)) dL_law_1478 ⟨(gRc (by (try dsimp only); omega)), (gRs (by (try dsimp only); omega))⟩) hS (va_A.all hDc hA1) (va_A.all hDc hA1) (fun v161 H1 locs hf hP1 hsz hkp hS => ?_)
  have hP2 := put_mid (X := []) (C := (cML E am y)) (Y := ((cOut E qo o) ++ (cGL E g ad x))) hP hD hkp hP1
  have hD2 : va_D (fun q : Nat => s.heap.size ≤ q) ((cM E am 0 v161.2.1 y.2.1 y.2.2.1 y.2.2.2.1 y.2.2.2.2.1 y.2.2.2.2.2.1 y.2.2.2.2.2.2.1 v161.2.2.1 v161.2.2.2.1 v161.2.2.2.2.1 v161.2.2.2.2.2.1 v161.2.2.2.2.2.2.1 v161.2.2.2.2.2.2.2 y.2.2.2.2.2.2.2.2.2.2.2.2.2.1 y.2.2.2.2.2.2.2.2.2.2.2.2.2.2.1 y.2.2.2.2.2.2.2.2.2.2.2.2.2.2.2.1 y.2.2.2.2.2.2.2.2.2.2.2.2.2.2.2.2.1 y.2.2.2.2.2.2.2.2.2.2.2.2.2.2.2.2.2.1 y.2.2.2.2.2.2.2.2.2.2.2.2.2.2.2.2.2.2.1 y.2.2.2.2.2.2.2.2.2.2.2.2.2.2.2.2.2.2.2.1 y.2.2.2.2.2.2.2.2.2.2.2.2.2.2.2.2.2.2.2.2) ++ ((cOut E qo o) ++ (cGL E g ad x))) := va_D.sameL hD rfl
  clear hP hD hPc hDc hP1 hsz hkp hA1
  revert hS hP2 hD2; generalize H1 = H; intro hS hP hD
  have hP : va_P E.1 vwCl ((cM E am 0 v161.2.1 y.2.1 y.2.2.1 y.2.2.2.1 y.2.2.2.2.1 y.2.2.2.2.2.1 y.2.2.2.2.2.2.1 v161.2.2.1 v161.2.2.2.1 v161.2.2.2.2.1 v161.2.2.2.2.2.1 v161.2.2.2.2.2.2.1 v161.2.2.2.2.2.2.2 y.2.2.2.2.2.2.2.2.2.2.2.2.2.1 y.2.2.2.2.2.2.2.2.2.2.2.2.2.2.1 y.2.2.2.2.2.2.2.2.2.2.2.2.2.2.2.1 y.2.2.2.2.2.2.2.2.2.2.2.2.2.2.2.2.1 y.2.2.2.2.2.2.2.2.2.2.2.2.2.2.2.2.2.1 y.2.2.2.2.2.2.2.2.2.2.2.2.2.2.2.2.2.2.1 y.2.2.2.2.2.2.2.2.2.2.2.2.2.2.2.2.2.2.2.1 y.2.2.2.2.2.2.2.2.2.2.2.2.2.2.2.2.2.2.2.2) ++ ((cOut E qo o) ++ (cGL E g ad x))) H := hP
  refine lv_dstore (lv' := [(7, .double v161.1), (5, .double v160), (0, .ref b), (1, .ref (g 0)), (2, .ref (am 0)), (3, .ref qo), (4, .int l4)]) hx hb dL_law_1481 hl (by decide) rfl (fun ls hl => ?_)
  refine lv_dload hx hb dL_law_1483 (lv_at hl 1 rfl) ?_
  refine lv_dload hx hb dL_law_1485 (lv_at hl 0 rfl) ?_
  refine lv_dcmp hx hb dL_law_1487 ?_
  refine g_if_eq (tgt := 1509) hx hb hf dL_law_1488 (by decide) (fun hf => ?_) (fun hf => ?_)
  · exact w_L_law_1509 hL C0 hG hT hN hst cells slots hcs hss k23_ hk23_ ad _ _ x (v161.2.1, y.2.1, y.2.2.1, y.2.2.2.1, y.2.2.2.2.1, y.2.2.2.2.2.1, y.2.2.2.2.2.2.1, v161.2.2.1, v161.2.2.2.1, v161.2.2.2.2.1, v161.2.2.2.2.2.1, v161.2.2.2.2.2.2.1, v161.2.2.2.2.2.2.2, y.2.2.2.2.2.2.2.2.2.2.2.2.2.1, y.2.2.2.2.2.2.2.2.2.2.2.2.2.2.1, y.2.2.2.2.2.2.2.2.2.2.2.2.2.2.2.1, y.2.2.2.2.2.2.2.2.2.2.2.2.2.2.2.2.1, y.2.2.2.2.2.2.2.2.2.2.2.2.2.2.2.2.2.1, y.2.2.2.2.2.2.2.2.2.2.2.2.2.2.2.2.2.2.1, y.2.2.2.2.2.2.2.2.2.2.2.2.2.2.2.2.2.2.2.1, y.2.2.2.2.2.2.2.2.2.2.2.2.2.2.2.2.2.2.2.2) o l4 _ hf (lv_sub hl [2, 3, 4, 5, 6] rfl) hP hS hD
  · refine lv_dload hx hb dL_law_1491 (lv_at hl 1 rfl) ?_
    refine lv_dload hx hb dL_law_1493 (lv_at hl 1 rfl) ?_
    refine lv_dcmp hx hb dL_law_1495 ?_
    refine g_if_eq (tgt := 1507) hx hb hf dL_law_1496 (by decide) (fun hf => ?_) (fun hf => ?_)
    · refine lv_iconst (v := 0) hx hb dL_law_1507 (by decide) ?_
      cases hf
    · refine lv_dload hx hb dL_law_1499 (lv_at hl 0 rfl) ?_
      refine lv_dload hx hb dL_law_1501 (lv_at hl 0 rfl) ?_
      refine lv_dcmp hx hb dL_law_1503 ?_
      refine g_if_ne (tgt := 1509) hx hb hf dL_law_1504 (by decide) (fun hf => ?_) (fun hf => ?_)
      · exact w_L_law_1509 hL C0 hG hT hN hst cells slots hcs hss k23_ hk23_ ad _ _ x (v161.2.1, y.2.1, y.2.2.1, y.2.2.2.1, y.2.2.2.2.1, y.2.2.2.2.2.1, y.2.2.2.2.2.2.1, v161.2.2.1, v161.2.2.2.1, v161.2.2.2.2.1, v161.2.2.2.2.2.1, v161.2.2.2.2.2.2.1, v161.2.2.2.2.2.2.2, y.2.2.2.2.2.2.2.2.2.2.2.2.2.1, y.2.2.2.2.2.2.2.2.2.2.2.2.2.2.1, y.2.2.2.2.2.2.2.2.2.2.2.2.2.2.2.1, y.2.2.2.2.2.2.2.2.2.2.2.2.2.2.2.2.1, y.2.2.2.2.2.2.2.2.2.2.2.2.2.2.2.2.2.1, y.2.2.2.2.2.2.2.2.2.2.2.2.2.2.2.2.2.2.1, y.2.2.2.2.2.2.2.2.2.2.2.2.2.2.2.2.2.2.2.1, y.2.2.2.2.2.2.2.2.2.2.2.2.2.2.2.2.2.2.2.2) o l4 _ hf (lv_sub hl [2, 3, 4, 5, 6] rfl) hP hS hD
      · refine lv_iconst (v := 0) hx hb dL_law_1507 (by decide) ?_
        cases hf
set_option maxHeartbeats 4000000 in
set_option maxRecDepth 100000 in
theorem w_L_law_1512 {p : Program} {l : Launch} {e : Env} {s : State} {m : MethodId} {below : List Frame} {meth : Method} {c : Code} {b L : Nat} {xs : Nat → Int32} {E : gE} {g am : Nat → Nat} {qo : Nat} (hL : L ≤ 2560) (C0 : lw_At p s m meth c b L xs) (hG : gK E s) (hT : gTh (fun q : Nat => s.heap.size ≤ q) s s.heap) (hN : gNc s) (hst : l.stackTraces = false)  (cells slots : Nat) (hcs : cells + 16 ≤ 601000) (hss : slots + 200 ≤ 7293000) (k23_ : TG → TM → (Nat → Int64) → Int32 → Option (Int32)) (hk23_ : ∀ (ad : Nat → Nat → Nat) (H : Heap) (locs : List Loc) (x : TG) (y : TM) (o : Nat → Int64) (l4 : Int32) (ls : Array Slot), k23_ x y o l4 = some 1 → lv_has ls 9 [(0, .ref b), (1, .ref (g 0)), (2, .ref (am 0)), (3, .ref qo), (4, .int l4)] → va_P E.1 vwCl ((cML E am y) ++ ((cOut E qo o) ++ (cGL E g ad x))) H → va_S (fun q : Nat => s.heap.size ≤ q) s.heap H locs → va_D (fun q : Nat => s.heap.size ≤ q) ((cML E am y) ++ ((cOut E qo o) ++ (cGL E g ad x))) → W p l e room_1 s m #[Value.ref b] below meth c H locs (cells + 16) (slots + 200) (lw_Z below #[Value.ref b] s) (F0 m 23 ls [])) : ∀ (ad : Nat → Nat → Nat) (H : Heap) (locs : List Loc) (x : TG) (y : TM) (o : Nat → Int64) (l4 : Int32) (ls : Array Slot), f_L_law_1512 xs L k23_ x y o l4 = some 1 → lv_has ls 9 [(0, .ref b), (1, .ref (g 0)), (2, .ref (am 0)), (3, .ref qo), (4, .int l4)] → va_P E.1 vwCl ((cML E am y) ++ ((cOut E qo o) ++ (cGL E g ad x))) H → va_S (fun q : Nat => s.heap.size ≤ q) s.heap H locs → va_D (fun q : Nat => s.heap.size ≤ q) ((cML E am y) ++ ((cOut E qo o) ++ (cGL E g ad x))) → W p l e room_1 s m #[Value.ref b] below meth c H locs cells slots (lw_Z below #[Value.ref b] s) (F0 m 1512 ls []) := by
  obtain ⟨hx, hb, hr, hml, hown, hts0, hX, hbl, hlocks, hgv⟩ := id C0
  have hts := gL_hts hts0
  have hbA : ¬ (fun q : Nat => s.heap.size ≤ q) b := Nat.not_le.mpr hbl
  have hA : ∀ q : Nat, s.heap.size ≤ q → (fun q : Nat => s.heap.size ≤ q) q := fun _ h => h
  intro ad H locs x y o l4 ls hf hl hP hS hD
  unfold f_L_law_1512 at hf
  refine lv_aload_n hx hb dL_law_1512 rfl (lv_at hl 1 rfl) ?_
  have hPc : va_P E.1 vwCl (cGL E g ad x) H := hP.right.right
  have hA1 : ∀ q : Nat, Array.size H ≤ q → (fun q : Nat => s.heap.size ≤ q) q := fun q h => Nat.le_trans hS.1 h
  have hDc : va_D (fun q : Nat => s.heap.size ≤ q) (cGL E g ad x) := hD.right.right
  refine g_callA2 (fun v162 => some (.long v162.1)) (fun v162 ad => (cG E g ad x.1 x.2.1 v162.2.1 v162.2.2.1 v162.2.2.2 x.2.2.2.2.2.1 x.2.2.2.2.2.2)) hf (fun v162 hv => va_runV (As := []) (rest := []) ⟨hx, hb, hml, hown, hts⟩ (c_X5_digest l E g ad x.1 x.2.1 x.2.2.1 x.2.2.2.1 x.2.2.2.2.1 x.2.2.2.2.2.1 x.2.2.2.2.2.2 _ v162 hv) (cwV 0 hts (gd_V q834 q835 q836 q2 q837) rfl rfl rfl (by decide +kernel) ⟨Nat.le_of_ble_eq_true rfl, Nat.le_of_ble_eq_true rfl⟩) (g_preVm hPc hDc hG rfl rfl) rfl rfl hl.1 rfl (lv_room (Nat.le_of_ble_eq_true rfl)) dL_law_1513 ⟨(gRc (by (try dsimp only); omega)), (gRs (by (try dsimp only); omega))⟩) hS (va_A.all hDc hA1) (va_A.all hDc hA1) (fun v162 ad H1 locs hf hP1 hD1 hkp hS => ?_)
  obtain ⟨hP2, hD2⟩ := join_end (X := (cML E am y) ++ (cOut E qo o)) (by rw [List.append_assoc]; exact hP) (by rw [List.append_assoc]; exact hD) hA1 hkp hP1 hD1
  rw [List.append_assoc] at hP2 hD2
  clear hP hD hPc hDc hP1 hD1 hkp hA1
  revert hS hP2 hD2; generalize H1 = H; intro hS hP hD
  have hP : va_P E.1 vwCl ((cML E am y) ++ ((cOut E qo o) ++ (cG E g ad x.1 x.2.1 v162.2.1 v162.2.2.1 v162.2.2.2 x.2.2.2.2.2.1 x.2.2.2.2.2.2))) H := hP
  have hD : va_D (fun q : Nat => s.heap.size ≤ q) ((cML E am y) ++ ((cOut E qo o) ++ (cG E g ad x.1 x.2.1 v162.2.1 v162.2.2.1 v162.2.2.2 x.2.2.2.2.2.1 x.2.2.2.2.2.2))) := hD
  refine W.widen (k := cells) (n := slots) (by (try dsimp only); omega) (by (try dsimp only); omega) ?_
  refine lv_aload_n hx hb dL_law_1516 rfl (lv_at hl 2 rfl) ?_
  have hPc : va_P E.1 vwCl (cML E am y) H := hP.left
  have hA1 : ∀ q : Nat, Array.size H ≤ q → (fun q : Nat => s.heap.size ≤ q) q := fun q h => Nat.le_trans hS.1 h
  have hDc : va_D (fun q : Nat => s.heap.size ≤ q) (cML E am y) := hD.left
  refine g_callMi (fun v163 => .long v163.1) (fun v163 => (cM E am 0 v163.2.1 v163.2.2.1 v163.2.2.2.1 y.2.2.2.1 y.2.2.2.2.1 y.2.2.2.2.2.1 y.2.2.2.2.2.2.1 v163.2.2.2.2.1 v163.2.2.2.2.2.1 v163.2.2.2.2.2.2.1 v163.2.2.2.2.2.2.2.1 v163.2.2.2.2.2.2.2.2.1 v163.2.2.2.2.2.2.2.2.2.1 y.2.2.2.2.2.2.2.2.2.2.2.2.2.1 y.2.2.2.2.2.2.2.2.2.2.2.2.2.2.1 y.2.2.2.2.2.2.2.2.2.2.2.2.2.2.2.1 v163.2.2.2.2.2.2.2.2.2.2.1 v163.2.2.2.2.2.2.2.2.2.2.2.1 v163.2.2.2.2.2.2.2.2.2.2.2.2.1 v163.2.2.2.2.2.2.2.2.2.2.2.2.2.1 v163.2.2.2.2.2.2.2.2.2.2.2.2.2.2)) hf (fun v163 hv => va_runV (As := []) (rest := [.long v162.1]) ⟨hx, hb, hml, hown, hts⟩ (c_X6_digest l E am 0 y.1 y.2.1 y.2.2.1 y.2.2.2.1 y.2.2.2.2.1 y.2.2.2.2.2.1 y.2.2.2.2.2.2.1 y.2.2.2.2.2.2.2.1 y.2.2.2.2.2.2.2.2.1 y.2.2.2.2.2.2.2.2.2.1 y.2.2.2.2.2.2.2.2.2.2.1 y.2.2.2.2.2.2.2.2.2.2.2.1 y.2.2.2.2.2.2.2.2.2.2.2.2.1 y.2.2.2.2.2.2.2.2.2.2.2.2.2.1 y.2.2.2.2.2.2.2.2.2.2.2.2.2.2.1 y.2.2.2.2.2.2.2.2.2.2.2.2.2.2.2.1 y.2.2.2.2.2.2.2.2.2.2.2.2.2.2.2.2.1 y.2.2.2.2.2.2.2.2.2.2.2.2.2.2.2.2.2.1 y.2.2.2.2.2.2.2.2.2.2.2.2.2.2.2.2.2.2.1 y.2.2.2.2.2.2.2.2.2.2.2.2.2.2.2.2.2.2.2.1 y.2.2.2.2.2.2.2.2.2.2.2.2.2.2.2.2.2.2.2.2 _ v163 hv) (cwV 0 hts (gd_V q864 q865 q866 q5 q867) rfl rfl rfl (by decide +kernel) ⟨Nat.le_of_ble_eq_true rfl, Nat.le_of_ble_eq_true rfl⟩) (g_preVm hPc hDc hG rfl rfl) rfl rfl hl.1 rfl (lv_room (Nat.le_of_ble_eq_true rfl)) dL_law_1517 ⟨(gRc (by (try dsimp only); omega)), (gRs (by (try dsimp only); omega))⟩) hS (va_A.all hDc hA1) (va_A.all hDc hA1) (fun v163 H1 locs hf hP1 hsz hkp hS => ?_)
  have hP2 := put_mid (X := []) (C := (cML E am y)) (Y := ((cOut E qo o) ++ (cG E g ad x.1 x.2.1 v162.2.1 v162.2.2.1 v162.2.2.2 x.2.2.2.2.2.1 x.2.2.2.2.2.2))) hP hD hkp hP1
  have hD2 : va_D (fun q : Nat => s.heap.size ≤ q) ((cM E am 0 v163.2.1 v163.2.2.1 v163.2.2.2.1 y.2.2.2.1 y.2.2.2.2.1 y.2.2.2.2.2.1 y.2.2.2.2.2.2.1 v163.2.2.2.2.1 v163.2.2.2.2.2.1 v163.2.2.2.2.2.2.1 v163.2.2.2.2.2.2.2.1 v163.2.2.2.2.2.2.2.2.1 v163.2.2.2.2.2.2.2.2.2.1 y.2.2.2.2.2.2.2.2.2.2.2.2.2.1 y.2.2.2.2.2.2.2.2.2.2.2.2.2.2.1 y.2.2.2.2.2.2.2.2.2.2.2.2.2.2.2.1 v163.2.2.2.2.2.2.2.2.2.2.1 v163.2.2.2.2.2.2.2.2.2.2.2.1 v163.2.2.2.2.2.2.2.2.2.2.2.2.1 v163.2.2.2.2.2.2.2.2.2.2.2.2.2.1 v163.2.2.2.2.2.2.2.2.2.2.2.2.2.2) ++ ((cOut E qo o) ++ (cG E g ad x.1 x.2.1 v162.2.1 v162.2.2.1 v162.2.2.2 x.2.2.2.2.2.1 x.2.2.2.2.2.2))) := va_D.sameL hD rfl
  clear hP hD hPc hDc hP1 hsz hkp hA1
  revert hS hP2 hD2; generalize H1 = H; intro hS hP hD
  have hP : va_P E.1 vwCl ((cM E am 0 v163.2.1 v163.2.2.1 v163.2.2.2.1 y.2.2.2.1 y.2.2.2.2.1 y.2.2.2.2.2.1 y.2.2.2.2.2.2.1 v163.2.2.2.2.1 v163.2.2.2.2.2.1 v163.2.2.2.2.2.2.1 v163.2.2.2.2.2.2.2.1 v163.2.2.2.2.2.2.2.2.1 v163.2.2.2.2.2.2.2.2.2.1 y.2.2.2.2.2.2.2.2.2.2.2.2.2.1 y.2.2.2.2.2.2.2.2.2.2.2.2.2.2.1 y.2.2.2.2.2.2.2.2.2.2.2.2.2.2.2.1 v163.2.2.2.2.2.2.2.2.2.2.1 v163.2.2.2.2.2.2.2.2.2.2.2.1 v163.2.2.2.2.2.2.2.2.2.2.2.2.1 v163.2.2.2.2.2.2.2.2.2.2.2.2.2.1 v163.2.2.2.2.2.2.2.2.2.2.2.2.2.2) ++ ((cOut E qo o) ++ (cG E g ad x.1 x.2.1 v162.2.1 v162.2.2.1 v162.2.2.2 x.2.2.2.2.2.1 x.2.2.2.2.2.2))) H := hP
  refine W.lcmp hx hb dL_law_1520 ?_
  refine g_if_eq (tgt := 1526) hx hb hf dL_law_1521 (by decide) (fun hf => ?_) (fun hf => ?_)
  · refine W.widen (k := (cells + 8)) (n := (slots + 82)) (by (try dsimp only); omega) (by (try dsimp only); omega) ?_
    exact w_L_law_1526 hL C0 hG hT hN hst cells slots hcs hss k23_ hk23_ ad _ _ (x.1, x.2.1, v162.2.1, v162.2.2.1, v162.2.2.2, x.2.2.2.2.2.1, x.2.2.2.2.2.2) (v163.2.1, v163.2.2.1, v163.2.2.2.1, y.2.2.2.1, y.2.2.2.2.1, y.2.2.2.2.2.1, y.2.2.2.2.2.2.1, v163.2.2.2.2.1, v163.2.2.2.2.2.1, v163.2.2.2.2.2.2.1, v163.2.2.2.2.2.2.2.1, v163.2.2.2.2.2.2.2.2.1, v163.2.2.2.2.2.2.2.2.2.1, y.2.2.2.2.2.2.2.2.2.2.2.2.2.1, y.2.2.2.2.2.2.2.2.2.2.2.2.2.2.1, y.2.2.2.2.2.2.2.2.2.2.2.2.2.2.2.1, v163.2.2.2.2.2.2.2.2.2.2.1, v163.2.2.2.2.2.2.2.2.2.2.2.1, v163.2.2.2.2.2.2.2.2.2.2.2.2.1, v163.2.2.2.2.2.2.2.2.2.2.2.2.2.1, v163.2.2.2.2.2.2.2.2.2.2.2.2.2.2) o l4 _ hf hl hP hS hD
  · refine lv_iconst (v := 0) hx hb dL_law_1524 (by decide) ?_
    cases hf
set_option maxHeartbeats 4000000 in
set_option maxRecDepth 100000 in
theorem w_L_law_23b {p : Program} {l : Launch} {e : Env} {s : State} {m : MethodId} {below : List Frame} {meth : Method} {c : Code} {b L : Nat} {xs : Nat → Int32} {E : gE} {g am : Nat → Nat} {qo : Nat} (hL : L ≤ 2560) (C0 : lw_At p s m meth c b L xs) (hG : gK E s) (hT : gTh (fun q : Nat => s.heap.size ≤ q) s s.heap) (hN : gNc s) (hst : l.stackTraces = false)  (cells slots : Nat) (hcs : cells + 16 ≤ 601000) (hss : slots + 200 ≤ 7293000) (k23_ : TG → TM → (Nat → Int64) → Int32 → Option (Int32)) (hk23_ : ∀ (ad : Nat → Nat → Nat) (H : Heap) (locs : List Loc) (x : TG) (y : TM) (o : Nat → Int64) (l4 : Int32) (ls : Array Slot), k23_ x y o l4 = some 1 → lv_has ls 9 [(0, .ref b), (1, .ref (g 0)), (2, .ref (am 0)), (3, .ref qo), (4, .int l4)] → va_P E.1 vwCl ((cML E am y) ++ ((cOut E qo o) ++ (cGL E g ad x))) H → va_S (fun q : Nat => s.heap.size ≤ q) s.heap H locs → va_D (fun q : Nat => s.heap.size ≤ q) ((cML E am y) ++ ((cOut E qo o) ++ (cGL E g ad x))) → W p l e room_1 s m #[Value.ref b] below meth c H locs (cells + 16) (slots + 200) (lw_Z below #[Value.ref b] s) (F0 m 23 ls [])) : ∀ (ad : Nat → Nat → Nat) (H : Heap) (locs : List Loc) (x : TG) (y : TM) (o : Nat → Int64) (l4 : Int32) (ls : Array Slot), f_L_law_23b xs L k23_ x y o l4 = some 1 → lv_has ls 9 [(0, .ref b), (1, .ref (g 0)), (2, .ref (am 0)), (3, .ref qo), (4, .int l4)] → va_P E.1 vwCl ((cML E am y) ++ ((cOut E qo o) ++ (cGL E g ad x))) H → va_S (fun q : Nat => s.heap.size ≤ q) s.heap H locs → va_D (fun q : Nat => s.heap.size ≤ q) ((cML E am y) ++ ((cOut E qo o) ++ (cGL E g ad x))) → W p l e room_1 s m #[Value.ref b] below meth c H locs cells slots (lw_Z below #[Value.ref b] s) (F0 m 23 ls []) := by
  obtain ⟨hx, hb, hr, hml, hown, hts0, hX, hbl, hlocks, hgv⟩ := id C0
  have hts := gL_hts hts0
  have hbA : ¬ (fun q : Nat => s.heap.size ≤ q) b := Nat.not_le.mpr hbl
  have hA : ∀ q : Nat, s.heap.size ≤ q → (fun q : Nat => s.heap.size ≤ q) q := fun _ h => h
  intro ad H locs x y o l4 ls hf hl hP hS hD
  unfold f_L_law_23b at hf
  refine lv_iload hx hb dL_law_23 (lv_at hl 4 rfl) ?_
  refine lv_aload_n hx hb dL_law_25 rfl (lv_at hl 0 rfl) ?_
  refine va_slen hx hb hX hbl hbA hS dL_law_26 ?_
  refine lv_iconst (v := 5) hx hb dL_law_27 (by decide) ?_
  refine lv_isub hx hb dL_law_28 ?_
  refine g_icmp_gt (tgt := 1532) hx hb hf dL_law_29 (by decide) (fun hf => ?_) (fun hf => ?_)
  · refine lv_iconst (v := 1) hx hb dL_law_1532 (by decide) ?_
    clear hf
    refine va_forget (fun q hq => hS.2.2 q hq) ?_
    refine W.widen (k := 601024) (n := 7293034) (by (try dsimp only); omega) (by (try dsimp only); omega) ?_
    exact lw_ret (d0 := s.drawn) (Drawn.sameBut.refl s.drawn lw_cs) hx hb hr hlocks dL_law_1533
  · refine lv_aload_n hx hb dL_law_32 rfl (lv_at hl 0 rfl) ?_
    refine lv_iload hx hb dL_law_33 (lv_at hl 4 rfl) ?_
    refine g_sld hx hb hX hbl hbA hS hf dL_law_35 (fun v1 hf => ?_)
    refine lv_bipush (v := 31) hx hb dL_law_36 (by decide) ?_
    refine lv_iand hx hb dL_law_38 ?_
    refine g_topi hf (fun y2 hf => ?_)
    replace hf := br_or hf
    rcases hf with ⟨hz0, hf⟩ | ⟨hz0, hf⟩
    · subst hz0
      refine lv_tableIn (off := 113) (tgt := 152) hx hb dL_law_39 (by decide) (by decide) rfl (by decide) ?_
      exact w_L_law_152 hL C0 hG hT hN hst cells slots hcs hss k23_ hk23_ ad _ _ x y o l4 _ hf hl hP hS hD
    replace hf := br_or hf
    rcases hf with ⟨hz1, hf⟩ | ⟨hz1, hf⟩
    · subst hz1
      refine lv_tableIn (off := 181) (tgt := 220) hx hb dL_law_39 (by decide) (by decide) rfl (by decide) ?_
      exact w_L_law_220 hL C0 hG hT hN hst cells slots hcs hss k23_ hk23_ ad _ _ x y o l4 _ hf hl hP hS hD
    replace hf := br_or hf
    rcases hf with ⟨hz2, hf⟩ | ⟨hz2, hf⟩
    · subst hz2
      refine lv_tableIn (off := 261) (tgt := 300) hx hb dL_law_39 (by decide) (by decide) rfl (by decide) ?_
      exact w_L_law_300 hL C0 hG hT hN hst cells slots hcs hss k23_ hk23_ ad _ _ x y o l4 _ hf hl hP hS hD
    replace hf := br_or hf
    rcases hf with ⟨hz3, hf⟩ | ⟨hz3, hf⟩
    · subst hz3
      refine lv_tableIn (off := 341) (tgt := 380) hx hb dL_law_39 (by decide) (by decide) rfl (by decide) ?_
      exact w_L_law_380 hL C0 hG hT hN hst cells slots hcs hss k23_ hk23_ ad _ _ x y o l4 _ hf hl hP hS hD
    replace hf := br_or hf
    rcases hf with ⟨hz4, hf⟩ | ⟨hz4, hf⟩
    · subst hz4
      refine lv_tableIn (off := 421) (tgt := 460) hx hb dL_law_39 (by decide) (by decide) rfl (by decide) ?_
      exact w_L_law_460 hL C0 hG hT hN hst cells slots hcs hss k23_ hk23_ ad _ _ x y o l4 _ hf hl hP hS hD
    replace hf := br_or hf
    rcases hf with ⟨hz5, hf⟩ | ⟨hz5, hf⟩
    · subst hz5
      refine lv_tableIn (off := 477) (tgt := 516) hx hb dL_law_39 (by decide) (by decide) rfl (by decide) ?_
      exact w_L_law_516 hL C0 hG hT hN hst cells slots hcs hss k23_ hk23_ ad _ _ x y o l4 _ hf hl hP hS hD
    replace hf := br_or hf
    rcases hf with ⟨hz6, hf⟩ | ⟨hz6, hf⟩
    · subst hz6
      refine lv_tableIn (off := 533) (tgt := 572) hx hb dL_law_39 (by decide) (by decide) rfl (by decide) ?_
      exact w_L_law_572 hL C0 hG hT hN hst cells slots hcs hss k23_ hk23_ ad _ _ x y o l4 _ hf hl hP hS hD
    replace hf := br_or hf
    rcases hf with ⟨hz7, hf⟩ | ⟨hz7, hf⟩
    · subst hz7
      refine lv_tableIn (off := 613) (tgt := 652) hx hb dL_law_39 (by decide) (by decide) rfl (by decide) ?_
      exact w_L_law_652 hL C0 hG hT hN hst cells slots hcs hss k23_ hk23_ ad _ _ x y o l4 _ hf hl hP hS hD
    replace hf := br_or hf
    rcases hf with ⟨hz8, hf⟩ | ⟨hz8, hf⟩
    · subst hz8
      refine lv_tableIn (off := 669) (tgt := 708) hx hb dL_law_39 (by decide) (by decide) rfl (by decide) ?_
      exact w_L_law_708 hL C0 hG hT hN hst cells slots hcs hss k23_ hk23_ ad _ _ x y o l4 _ hf hl hP hS hD
    replace hf := br_or hf
    rcases hf with ⟨hz9, hf⟩ | ⟨hz9, hf⟩
    · subst hz9
      refine lv_tableIn (off := 725) (tgt := 764) hx hb dL_law_39 (by decide) (by decide) rfl (by decide) ?_
      exact w_L_law_764 hL C0 hG hT hN hst cells slots hcs hss k23_ hk23_ ad _ _ x y o l4 _ hf hl hP hS hD
    replace hf := br_or hf
    rcases hf with ⟨hz10, hf⟩ | ⟨hz10, hf⟩
    · subst hz10
      refine lv_tableIn (off := 738) (tgt := 777) hx hb dL_law_39 (by decide) (by decide) rfl (by decide) ?_
      exact w_L_law_777 hL C0 hG hT hN hst cells slots hcs hss k23_ hk23_ ad _ _ x y o l4 _ hf hl hP hS hD
    replace hf := br_or hf
    rcases hf with ⟨hz11, hf⟩ | ⟨hz11, hf⟩
    · subst hz11
      refine lv_tableIn (off := 751) (tgt := 790) hx hb dL_law_39 (by decide) (by decide) rfl (by decide) ?_
      exact w_L_law_790 hL C0 hG hT hN hst cells slots hcs hss k23_ hk23_ ad _ _ x y o l4 _ hf hl hP hS hD
    replace hf := br_or hf
    rcases hf with ⟨hz12, hf⟩ | ⟨hz12, hf⟩
    · subst hz12
      refine lv_tableIn (off := 795) (tgt := 834) hx hb dL_law_39 (by decide) (by decide) rfl (by decide) ?_
      exact w_L_law_834 hL C0 hG hT hN hst cells slots hcs hss k23_ hk23_ ad _ _ x y o l4 _ hf hl hP hS hD
    replace hf := br_or hf
    rcases hf with ⟨hz13, hf⟩ | ⟨hz13, hf⟩
    · subst hz13
      refine lv_tableIn (off := 839) (tgt := 878) hx hb dL_law_39 (by decide) (by decide) rfl (by decide) ?_
      exact w_L_law_878 hL C0 hG hT hN hst cells slots hcs hss k23_ hk23_ ad _ _ x y o l4 _ hf hl hP hS hD
    replace hf := br_or hf
    rcases hf with ⟨hz14, hf⟩ | ⟨hz14, hf⟩
    · subst hz14
      refine lv_tableIn (off := 907) (tgt := 946) hx hb dL_law_39 (by decide) (by decide) rfl (by decide) ?_
      exact w_L_law_946 hL C0 hG hT hN hst cells slots hcs hss k23_ hk23_ ad _ _ x y o l4 _ hf hl hP hS hD
    replace hf := br_or hf
    rcases hf with ⟨hz15, hf⟩ | ⟨hz15, hf⟩
    · subst hz15
      refine lv_tableIn (off := 974) (tgt := 1013) hx hb dL_law_39 (by decide) (by decide) rfl (by decide) ?_
      exact w_L_law_1013 hL C0 hG hT hN hst cells slots hcs hss k23_ hk23_ ad _ _ x y o l4 _ hf hl hP hS hD
    replace hf := br_or hf
    rcases hf with ⟨hz16, hf⟩ | ⟨hz16, hf⟩
    · subst hz16
      refine lv_tableIn (off := 1042) (tgt := 1081) hx hb dL_law_39 (by decide) (by decide) rfl (by decide) ?_
      exact w_L_law_1081 hL C0 hG hT hN hst cells slots hcs hss k23_ hk23_ ad _ _ x y o l4 _ hf hl hP hS hD
    replace hf := br_or hf
    rcases hf with ⟨hz17, hf⟩ | ⟨hz17, hf⟩
    · subst hz17
      refine lv_tableIn (off := 1122) (tgt := 1161) hx hb dL_law_39 (by decide) (by decide) rfl (by decide) ?_
      exact w_L_law_1161 hL C0 hG hT hN hst cells slots hcs hss k23_ hk23_ ad _ _ x y o l4 _ hf hl hP hS hD
    replace hf := br_or hf
    rcases hf with ⟨hz18, hf⟩ | ⟨hz18, hf⟩
    · subst hz18
      refine lv_tableIn (off := 1201) (tgt := 1240) hx hb dL_law_39 (by decide) (by decide) rfl (by decide) ?_
      exact w_L_law_1240 hL C0 hG hT hN hst cells slots hcs hss k23_ hk23_ ad _ _ x y o l4 _ hf hl hP hS hD
    replace hf := br_or hf
    rcases hf with ⟨hz19, hf⟩ | ⟨hz19, hf⟩
    · subst hz19
      refine lv_tableIn (off := 1215) (tgt := 1254) hx hb dL_law_39 (by decide) (by decide) rfl (by decide) ?_
      exact w_L_law_1254 hL C0 hG hT hN hst cells slots hcs hss k23_ hk23_ ad _ _ x y o l4 _ hf hl hP hS hD
    replace hf := br_or hf
    rcases hf with ⟨hz20, hf⟩ | ⟨hz20, hf⟩
    · subst hz20
      refine lv_tableIn (off := 1271) (tgt := 1310) hx hb dL_law_39 (by decide) (by decide) rfl (by decide) ?_
      exact w_L_law_1310 hL C0 hG hT hN hst cells slots hcs hss k23_ hk23_ ad _ _ x y o l4 _ hf hl hP hS hD
    replace hf := br_or hf
    rcases hf with ⟨hz21, hf⟩ | ⟨hz21, hf⟩
    · subst hz21
      refine lv_tableIn (off := 1363) (tgt := 1402) hx hb dL_law_39 (by decide) (by decide) rfl (by decide) ?_
      exact w_L_law_1402 hL C0 hG hT hN hst cells slots hcs hss k23_ hk23_ ad _ _ x y o l4 _ hf hl hP hS hD
    replace hf := br_or hf
    rcases hf with ⟨hz22, hf⟩ | ⟨hz22, hf⟩
    · subst hz22
      refine lv_tableIn (off := 1419) (tgt := 1458) hx hb dL_law_39 (by decide) (by decide) rfl (by decide) ?_
      exact w_L_law_1458 hL C0 hG hT hN hst cells slots hcs hss k23_ hk23_ ad _ _ x y o l4 _ hf hl hP hS hD
    replace hf := br_or hf
    rcases hf with ⟨hz23, hf⟩ | ⟨hz23, hf⟩
    · subst hz23
      refine lv_tableIn (off := 1432) (tgt := 1471) hx hb dL_law_39 (by decide) (by decide) rfl (by decide) ?_
      exact w_L_law_1471 hL C0 hG hT hN hst cells slots hcs hss k23_ hk23_ ad _ _ x y o l4 _ hf hl hP hS hD
    replace hf := br_or hf
    rcases hf with ⟨hz24, hf⟩ | ⟨hz24, hf⟩
    · subst hz24
      refine lv_tableIn (off := 1473) (tgt := 1512) hx hb dL_law_39 (by decide) (by decide) rfl (by decide) ?_
      exact w_L_law_1512 hL C0 hG hT hN hst cells slots hcs hss k23_ hk23_ ad _ _ x y o l4 _ hf hl hP hS hD
    refine lv_tableOut (tgt := 1526) hx hb dL_law_39 (tb_out (lo := 0) (hi := 24) (fun k h1 h2 => ?_)) (by decide) ?_
    · intro he
      have hk : k = 0 ∨ k = 1 ∨ k = 2 ∨ k = 3 ∨ k = 4 ∨ k = 5 ∨ k = 6 ∨ k = 7 ∨ k = 8 ∨ k = 9 ∨ k = 10 ∨ k = 11 ∨ k = 12 ∨ k = 13 ∨ k = 14 ∨ k = 15 ∨ k = 16 ∨ k = 17 ∨ k = 18 ∨ k = 19 ∨ k = 20 ∨ k = 21 ∨ k = 22 ∨ k = 23 ∨ k = 24 := by omega
      rcases hk with rfl | rfl | rfl | rfl | rfl | rfl | rfl | rfl | rfl | rfl | rfl | rfl | rfl | rfl | rfl | rfl | rfl | rfl | rfl | rfl | rfl | rfl | rfl | rfl | rfl
      · exact hz0 (Int32.toInt_inj.mp (by rw [he]; rfl))
      · exact hz1 (Int32.toInt_inj.mp (by rw [he]; rfl))
      · exact hz2 (Int32.toInt_inj.mp (by rw [he]; rfl))
      · exact hz3 (Int32.toInt_inj.mp (by rw [he]; rfl))
      · exact hz4 (Int32.toInt_inj.mp (by rw [he]; rfl))
      · exact hz5 (Int32.toInt_inj.mp (by rw [he]; rfl))
      · exact hz6 (Int32.toInt_inj.mp (by rw [he]; rfl))
      · exact hz7 (Int32.toInt_inj.mp (by rw [he]; rfl))
      · exact hz8 (Int32.toInt_inj.mp (by rw [he]; rfl))
      · exact hz9 (Int32.toInt_inj.mp (by rw [he]; rfl))
      · exact hz10 (Int32.toInt_inj.mp (by rw [he]; rfl))
      · exact hz11 (Int32.toInt_inj.mp (by rw [he]; rfl))
      · exact hz12 (Int32.toInt_inj.mp (by rw [he]; rfl))
      · exact hz13 (Int32.toInt_inj.mp (by rw [he]; rfl))
      · exact hz14 (Int32.toInt_inj.mp (by rw [he]; rfl))
      · exact hz15 (Int32.toInt_inj.mp (by rw [he]; rfl))
      · exact hz16 (Int32.toInt_inj.mp (by rw [he]; rfl))
      · exact hz17 (Int32.toInt_inj.mp (by rw [he]; rfl))
      · exact hz18 (Int32.toInt_inj.mp (by rw [he]; rfl))
      · exact hz19 (Int32.toInt_inj.mp (by rw [he]; rfl))
      · exact hz20 (Int32.toInt_inj.mp (by rw [he]; rfl))
      · exact hz21 (Int32.toInt_inj.mp (by rw [he]; rfl))
      · exact hz22 (Int32.toInt_inj.mp (by rw [he]; rfl))
      · exact hz23 (Int32.toInt_inj.mp (by rw [he]; rfl))
      · exact hz24 (Int32.toInt_inj.mp (by rw [he]; rfl))
    refine W.widen (k := (cells + 8)) (n := (slots + 82)) (by (try dsimp only); omega) (by (try dsimp only); omega) ?_
    exact w_L_law_1526 hL C0 hG hT hN hst cells slots hcs hss k23_ hk23_ ad _ _ x y o l4 _ hf hl hP hS hD
theorem w_L_law_23 {p : Program} {l : Launch} {e : Env} {s : State} {m : MethodId} {below : List Frame} {meth : Method} {c : Code} {b L : Nat} {xs : Nat → Int32} {E : gE} {g am : Nat → Nat} {qo : Nat} (hL : L ≤ 2560) (C0 : lw_At p s m meth c b L xs) (hG : gK E s) (hT : gTh (fun q : Nat => s.heap.size ≤ q) s s.heap) (hN : gNc s) (hst : l.stackTraces = false) : ∀ (n cells slots : Nat), cells + 16 * n ≤ 601000 → slots + 200 * n ≤ 7293000 → ∀ (ad : Nat → Nat → Nat) (H : Heap) (locs : List Loc) (x : TG) (y : TM) (o : Nat → Int64) (l4 : Int32) (ls : Array Slot), f_L_law_23 xs L n x y o l4 = some 1 → lv_has ls 9 [(0, .ref b), (1, .ref (g 0)), (2, .ref (am 0)), (3, .ref qo), (4, .int l4)] → va_P E.1 vwCl ((cML E am y) ++ ((cOut E qo o) ++ (cGL E g ad x))) H → va_S (fun q : Nat => s.heap.size ≤ q) s.heap H locs → va_D (fun q : Nat => s.heap.size ≤ q) ((cML E am y) ++ ((cOut E qo o) ++ (cGL E g ad x))) → W p l e room_1 s m #[Value.ref b] below meth c H locs cells slots (lw_Z below #[Value.ref b] s) (F0 m 23 ls []) := by
  intro n
  induction n with
  | zero => intro cells slots _ _ ad H locs x y o l4 ls hf; exact nomatch (show (none : Option Int32) = some 1 from hf)
  | succ n ih => intro cells slots h1 h2; exact w_L_law_23b hL C0 hG hT hN hst cells slots (by (try dsimp only); omega) (by (try dsimp only); omega) (f_L_law_23 xs L n) (ih (cells + 16) (slots + 200) (by (try dsimp only); omega) (by (try dsimp only); omega))
