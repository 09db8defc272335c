set_option maxHeartbeats 4000000 in
set_option maxRecDepth 100000 in
theorem w_L_law_149 {p : Program} {l : Launch} {e : Env} {s : State} {m : MethodId} {below : List Frame} {meth : Method} {c : Code} {b L : Nat} {xs : Nat → Int32} {E : gE} {g : Nat → Nat} (hL : L ≤ 260) (C0 : lw_At p s m meth c b L xs) (hG : gK E s)  (cells slots : Nat) (hcs : cells + 130 ≤ 20000) (hss : slots + 1700 ≤ 200000) (k77_ : TG → Int32 → Int32 → Option (Int32)) (hk77_ : ∀ (ad : Nat → Nat → Nat) (H : Heap) (locs : List Loc) (x : TG) (l2 : Int32) (l3 : Int32) (ls : Array Slot), k77_ x l2 l3 = some 1 → lv_has ls 7 [(0, .ref b), (1, .ref (g 0)), (2, .int l2), (3, .int l3)] → va_P E.1 vwCl (cGL E g ad x) H → va_S (fun q : Nat => s.heap.size ≤ q) s.heap H locs → va_D (fun q : Nat => s.heap.size ≤ q) (cGL E g ad x) → W p l e room_1 s m #[Value.ref b] below meth c H locs (cells + 130) (slots + 1700) (lw_Z below #[Value.ref b] s) (F0 m 77 ls [])) : ∀ (ad : Nat → Nat → Nat) (H : Heap) (locs : List Loc) (x : TG) (l2 : Int32) (l3 : Int32) (ls : Array Slot), f_L_law_149 xs L k77_ x l2 l3 = some 1 → lv_has ls 7 [(0, .ref b), (1, .ref (g 0)), (2, .int l2), (3, .int l3)] → va_P E.1 vwCl (cGL E g ad x) H → va_S (fun q : Nat => s.heap.size ≤ q) s.heap H locs → va_D (fun q : Nat => s.heap.size ≤ q) (cGL E g ad x) → W p l e room_1 s m #[Value.ref b] below meth c H locs (cells + 125) (slots + 1600) (lw_Z below #[Value.ref b] s) (F0 m 149 ls []) := by
  obtain ⟨hx, hb, hr, hml, hown, hts0, hX, hbl, hlocks, hgv⟩ := id C0
  have hts := gL_hts hts0
  have hbA : ¬ (fun q : Nat => s.heap.size ≤ q) b := Nat.not_le.mpr hbl
  have hA : ∀ q : Nat, s.heap.size ≤ q → (fun q : Nat => s.heap.size ≤ q) q := fun _ h => h
  intro ad H locs x l2 l3 ls hf hl hP hS hD
  unfold f_L_law_149 at hf
  refine g_iinc hx hb (fun y6 => [(3, .int y6), (0, .ref b), (1, .ref (g 0)), (2, .int l2)]) (v := (l3 + 1)) hf dL_law_149 hl (j := 3) rfl rfl (by decide) (fun _ => rfl) (fun y6 ls hf hl => ?_)
  refine lv_goto (tgt := 77) hx hb dL_law_152 (by decide) ?_
  refine W.widen (k := cells + 130) (n := slots + 1700) (by (try dsimp only); omega) (by (try dsimp only); omega) ?_
  exact hk77_ ad _ _ x l2 y6 _ hf (lv_sub hl [1, 2, 3, 0] rfl) hP hS hD
set_option maxHeartbeats 4000000 in
set_option maxRecDepth 100000 in
theorem w_L_law_132 {p : Program} {l : Launch} {e : Env} {s : State} {m : MethodId} {below : List Frame} {meth : Method} {c : Code} {b L : Nat} {xs : Nat → Int32} {E : gE} {g : Nat → Nat} (hL : L ≤ 260) (C0 : lw_At p s m meth c b L xs) (hG : gK E s)  (cells slots : Nat) (hcs : cells + 130 ≤ 20000) (hss : slots + 1700 ≤ 200000) (k77_ : TG → Int32 → Int32 → Option (Int32)) (hk77_ : ∀ (ad : Nat → Nat → Nat) (H : Heap) (locs : List Loc) (x : TG) (l2 : Int32) (l3 : Int32) (ls : Array Slot), k77_ x l2 l3 = some 1 → lv_has ls 7 [(0, .ref b), (1, .ref (g 0)), (2, .int l2), (3, .int l3)] → va_P E.1 vwCl (cGL E g ad x) H → va_S (fun q : Nat => s.heap.size ≤ q) s.heap H locs → va_D (fun q : Nat => s.heap.size ≤ q) (cGL E g ad x) → W p l e room_1 s m #[Value.ref b] below meth c H locs (cells + 130) (slots + 1700) (lw_Z below #[Value.ref b] s) (F0 m 77 ls [])) : ∀ (ad : Nat → Nat → Nat) (H : Heap) (locs : List Loc) (x : TG) (l2 : Int32) (l3 : Int32) (ls : Array Slot), f_L_law_132 xs L k77_ x l2 l3 = some 1 → lv_has ls 7 [(0, .ref b), (1, .ref (g 0)), (2, .int l2), (3, .int l3)] → va_P E.1 vwCl (cGL E g ad x) H → va_S (fun q : Nat => s.heap.size ≤ q) s.heap H locs → va_D (fun q : Nat => s.heap.size ≤ q) (cGL E g ad x) → W p l e room_1 s m #[Value.ref b] below meth c H locs (cells + 110) (slots + 1408) (lw_Z below #[Value.ref b] s) (F0 m 132 ls []) := by
  obtain ⟨hx, hb, hr, hml, hown, hts0, hX, hbl, hlocks, hgv⟩ := id C0
  have hts := gL_hts hts0
  have hbA : ¬ (fun q : Nat => s.heap.size ≤ q) b := Nat.not_le.mpr hbl
  have hA : ∀ q : Nat, s.heap.size ≤ q → (fun q : Nat => s.heap.size ≤ q) q := fun _ h => h
  intro ad H locs x l2 l3 ls hf hl hP hS hD
  unfold f_L_law_132 at hf
  refine lv_iload_n hx hb dL_law_132 rfl (lv_at hl 3 rfl) ?_
  refine lv_bipush (v := 7) hx hb dL_law_133 (by decide) ?_
  refine g_irem hx hb hf dL_law_135 (fun v5 hf => ?_)
  refine lv_iconst (v := 4) hx hb dL_law_136 (by decide) ?_
  refine g_icmp_ne (tgt := 149) hx hb hf dL_law_137 (by decide) (fun hf => ?_) (fun hf => ?_)
  · refine W.widen (k := cells + 125) (n := slots + 1600) (by (try dsimp only); omega) (by (try dsimp only); omega) ?_
    exact w_L_law_149 hL C0 hG cells slots hcs hss k77_ hk77_ ad _ _ x l2 l3 _ hf hl hP hS hD
  · refine lv_aload_n hx hb dL_law_140 rfl (lv_at hl 1 rfl) ?_
    obtain ⟨v7, hv, hf⟩ := bd_some hf
    have hA1 : ∀ q : Nat, Array.size H ≤ q → (fun q : Nat => s.heap.size ≤ q) q := fun q h => Nat.le_trans hS.1 h
    refine g_callA1 (some (.int v7.1)) (fun ad => (cG E g ad v7.2.1 v7.2.2.1 v7.2.2.2.1 v7.2.2.2.2.1 x.2.2.2.2.1 x.2.2.2.2.2.1 v7.2.2.2.2.2)) (va_runS (As := [.ref (g 0)]) (rest := []) ⟨hx, hb, hml, hown, hts⟩ (c_L_areAnswersSo l E g ad x.1 x.2.1 x.2.2.1 x.2.2.2.1 x.2.2.2.2.1 x.2.2.2.2.2.1 x.2.2.2.2.2.2 _ v7 hv) (va_cwS 1 hts (gd_S q371 q372 q85 q373) rfl rfl rfl (by decide +kernel) ⟨Nat.le_of_ble_eq_true rfl, Nat.le_of_ble_eq_true rfl⟩) (g_preSm hP hD hG) rfl rfl hl.1 rfl (lv_room (Nat.le_of_ble_eq_true rfl)) dL_law_141 ⟨(gRc (by (try dsimp only); omega)), (gRs (by (try dsimp only); omega))⟩) hS (va_A.all hD hA1) (va_A.all hD hA1) (fun ad H locs hP hD hS => ?_)
    clear hv
    refine W.widen (k := cells + 125) (n := slots + 1600) (by (try dsimp only); omega) (by (try dsimp only); omega) ?_
    refine g_if_ne (tgt := 149) hx hb hf dL_law_144 (by decide) (fun hf => ?_) (fun hf => ?_)
    · exact w_L_law_149 hL C0 hG cells slots hcs hss k77_ hk77_ ad _ _ (v7.2.1, v7.2.2.1, v7.2.2.2.1, v7.2.2.2.2.1, x.2.2.2.2.1, x.2.2.2.2.2.1, v7.2.2.2.2.2) l2 l3 _ hf hl hP hS hD
    · refine lv_iconst (v := 0) hx hb dL_law_147 (by decide) ?_
      cases hf
set_option maxHeartbeats 4000000 in
set_option maxRecDepth 100000 in
theorem w_L_law_116 {p : Program} {l : Launch} {e : Env} {s : State} {m : MethodId} {below : List Frame} {meth : Method} {c : Code} {b L : Nat} {xs : Nat → Int32} {E : gE} {g : Nat → Nat} (hL : L ≤ 260) (C0 : lw_At p s m meth c b L xs) (hG : gK E s)  (cells slots : Nat) (hcs : cells + 130 ≤ 20000) (hss : slots + 1700 ≤ 200000) (k77_ : TG → Int32 → Int32 → Option (Int32)) (hk77_ : ∀ (ad : Nat → Nat → Nat) (H : Heap) (locs : List Loc) (x : TG) (l2 : Int32) (l3 : Int32) (ls : Array Slot), k77_ x l2 l3 = some 1 → lv_has ls 7 [(0, .ref b), (1, .ref (g 0)), (2, .int l2), (3, .int l3)] → va_P E.1 vwCl (cGL E g ad x) H → va_S (fun q : Nat => s.heap.size ≤ q) s.heap H locs → va_D (fun q : Nat => s.heap.size ≤ q) (cGL E g ad x) → W p l e room_1 s m #[Value.ref b] below meth c H locs (cells + 130) (slots + 1700) (lw_Z below #[Value.ref b] s) (F0 m 77 ls [])) : ∀ (ad : Nat → Nat → Nat) (H : Heap) (locs : List Loc) (x : TG) (l2 : Int32) (l3 : Int32) (k0 : Int32) (ls : Array Slot), f_L_law_116 xs L k77_ x l2 l3 k0 = some 1 → lv_has ls 7 [(0, .ref b), (1, .ref (g 0)), (2, .int l2), (3, .int l3)] → va_P E.1 vwCl (cGL E g ad x) H → va_S (fun q : Nat => s.heap.size ≤ q) s.heap H locs → va_D (fun q : Nat => s.heap.size ≤ q) (cGL E g ad x) → W p l e room_1 s m #[Value.ref b] below meth c H locs (cells + 110) (slots + 1408) (lw_Z below #[Value.ref b] s) (F0 m 116 ls [.int k0]) := by
  obtain ⟨hx, hb, hr, hml, hown, hts0, hX, hbl, hlocks, hgv⟩ := id C0
  have hts := gL_hts hts0
  have hbA : ¬ (fun q : Nat => s.heap.size ≤ q) b := Nat.not_le.mpr hbl
  have hA : ∀ q : Nat, s.heap.size ≤ q → (fun q : Nat => s.heap.size ≤ q) q := fun _ h => h
  intro ad H locs x l2 l3 k0 ls hf hl hP hS hD
  unfold f_L_law_116 at hf
  refine lv_istore (lv' := [(5, .int k0), (0, .ref b), (1, .ref (g 0)), (2, .int l2), (3, .int l3)]) hx hb dL_law_116 hl (by decide) rfl (fun ls hl => ?_)
  refine lv_iload_n hx hb dL_law_118 rfl (lv_at hl 4 rfl) ?_
  refine lv_iconst (v := 3) hx hb dL_law_119 (by decide) ?_
  refine g_irem hx hb hf dL_law_120 (fun v4 hf => ?_)
  refine lv_iconst (v := 2) hx hb dL_law_121 (by decide) ?_
  refine g_icmp_ne (tgt := 132) hx hb hf dL_law_122 (by decide) (fun hf => ?_) (fun hf => ?_)
  · exact w_L_law_132 hL C0 hG cells slots hcs hss k77_ hk77_ ad _ _ x l2 l3 _ hf (lv_sub hl [1, 2, 3, 4] rfl) hP hS hD
  · refine lv_aload_n hx hb dL_law_125 rfl (lv_at hl 2 rfl) ?_
    obtain ⟨v8, hv, hf⟩ := bd_some hf
    have hA1 : ∀ q : Nat, Array.size H ≤ q → (fun q : Nat => s.heap.size ≤ q) q := fun q h => Nat.le_trans hS.1 h
    refine g_callA1 (some (.int v8.1)) (fun ad => (cG E g ad x.1 x.2.1 x.2.2.1 x.2.2.2.1 v8.2 x.2.2.2.2.2.1 x.2.2.2.2.2.2)) (va_runS (As := [.ref (g 0)]) (rest := []) ⟨hx, hb, hml, hown, hts⟩ (c_L_arePegsSo l E g ad x.1 x.2.1 x.2.2.1 x.2.2.2.1 x.2.2.2.2.1 x.2.2.2.2.2.1 x.2.2.2.2.2.2 _ v8 hv) (va_cwS 1 hts (gd_S q312 q313 q85 q314) rfl rfl rfl (by decide +kernel) ⟨Nat.le_of_ble_eq_true rfl, Nat.le_of_ble_eq_true rfl⟩) (g_preSm hP hD hG) rfl rfl hl.1 rfl (lv_room (Nat.le_of_ble_eq_true rfl)) dL_law_126 ⟨(gRc (by (try dsimp only); omega)), (gRs (by (try dsimp only); omega))⟩) hS (va_A.all hD hA1) (va_A.all hD hA1) (fun ad H locs hP hD hS => ?_)
    clear hv
    refine g_if_eq (tgt := 147) hx hb hf dL_law_129 (by decide) (fun hf => ?_) (fun hf => ?_)
    · refine lv_iconst (v := 0) hx hb dL_law_147 (by decide) ?_
      cases hf
    · exact w_L_law_132 hL C0 hG cells slots hcs hss k77_ hk77_ ad _ _ (x.1, x.2.1, x.2.2.1, x.2.2.2.1, v8.2, x.2.2.2.2.2.1, x.2.2.2.2.2.2) l2 l3 _ hf (lv_sub hl [1, 2, 3, 4] rfl) hP hS hD
set_option maxHeartbeats 4000000 in
set_option maxRecDepth 100000 in
theorem w_L_law_77b {p : Program} {l : Launch} {e : Env} {s : State} {m : MethodId} {below : List Frame} {meth : Method} {c : Code} {b L : Nat} {xs : Nat → Int32} {E : gE} {g : Nat → Nat} (hL : L ≤ 260) (C0 : lw_At p s m meth c b L xs) (hG : gK E s)  (cells slots : Nat) (hcs : cells + 130 ≤ 20000) (hss : slots + 1700 ≤ 200000) (k77_ : TG → Int32 → Int32 → Option (Int32)) (hk77_ : ∀ (ad : Nat → Nat → Nat) (H : Heap) (locs : List Loc) (x : TG) (l2 : Int32) (l3 : Int32) (ls : Array Slot), k77_ x l2 l3 = some 1 → lv_has ls 7 [(0, .ref b), (1, .ref (g 0)), (2, .int l2), (3, .int l3)] → va_P E.1 vwCl (cGL E g ad x) H → va_S (fun q : Nat => s.heap.size ≤ q) s.heap H locs → va_D (fun q : Nat => s.heap.size ≤ q) (cGL E g ad x) → W p l e room_1 s m #[Value.ref b] below meth c H locs (cells + 130) (slots + 1700) (lw_Z below #[Value.ref b] s) (F0 m 77 ls [])) : ∀ (ad : Nat → Nat → Nat) (H : Heap) (locs : List Loc) (x : TG) (l2 : Int32) (l3 : Int32) (ls : Array Slot), f_L_law_77b xs L k77_ x l2 l3 = some 1 → lv_has ls 7 [(0, .ref b), (1, .ref (g 0)), (2, .int l2), (3, .int l3)] → va_P E.1 vwCl (cGL E g ad x) H → va_S (fun q : Nat => s.heap.size ≤ q) s.heap H locs → va_D (fun q : Nat => s.heap.size ≤ q) (cGL E g ad x) → W p l e room_1 s m #[Value.ref b] below meth c H locs cells slots (lw_Z below #[Value.ref b] s) (F0 m 77 ls []) := by
  obtain ⟨hx, hb, hr, hml, hown, hts0, hX, hbl, hlocks, hgv⟩ := id C0
  have hts := gL_hts hts0
  have hbA : ¬ (fun q : Nat => s.heap.size ≤ q) b := Nat.not_le.mpr hbl
  have hA : ∀ q : Nat, s.heap.size ≤ q → (fun q : Nat => s.heap.size ≤ q) q := fun _ h => h
  intro ad H locs x l2 l3 ls hf hl hP hS hD
  unfold f_L_law_77b at hf
  refine lv_iload_n hx hb dL_law_77 rfl (lv_at hl 3 rfl) ?_
  refine lv_bipush (v := 46) hx hb dL_law_78 (by decide) ?_
  refine g_icmp_ge (tgt := 155) hx hb hf dL_law_80 (by decide) (fun hf => ?_) (fun hf => ?_)
  · refine lv_iload_n hx hb dL_law_155 rfl (lv_at hl 2 rfl) ?_
    refine lv_iconst (v := (-1)) hx hb dL_law_156 (by decide) ?_
    refine g_icmp_ne (tgt := 164) hx hb hf dL_law_157 (by decide) (fun hf => ?_) (fun hf => ?_)
    · refine lv_iconst (v := 0) hx hb dL_law_164 (by decide) ?_
      cases hf
    · refine lv_iconst (v := 1) hx hb dL_law_160 (by decide) ?_
      refine lv_goto (tgt := 165) hx hb dL_law_161 (by decide) ?_
      clear hf
      refine va_forget (fun q hq => hS.2.2 q hq) ?_
      refine W.widen (k := 600104) (n := 7301314) (by (try dsimp only); omega) (by (try dsimp only); omega) ?_
      exact lw_ret hx hb hr hlocks dL_law_165
  · refine lv_aload_n hx hb dL_law_83 rfl (lv_at hl 0 rfl) ?_
    refine lv_iload_n hx hb dL_law_84 rfl (lv_at hl 3 rfl) ?_
    obtain ⟨v2, hv, hf⟩ := bd_some hf
    refine g_callR1 (.int v2) (va_runS (As := [.ref b, .int l3]) (rest := []) ⟨hx, hb, hml, hown, hts⟩ (c_L_cell l b L xs l3 v2 hv) (va_cwS 2 hts (gd_S q83 q84 q85 q86) rfl rfl rfl (by decide +kernel) ⟨Nat.le_of_ble_eq_true rfl, Nat.le_of_ble_eq_true rfl⟩) (g_preCell (va_X.kept hX (hS.2.1 b hbl hbA)) (Nat.lt_of_lt_of_le hbl hS.1)) rfl rfl hl.1 rfl (lv_room (Nat.le_of_ble_eq_true rfl)) dL_law_85 ⟨(gRc (by (try dsimp only); omega)), (gRs (by (try dsimp only); omega))⟩) ?_
    clear hv
    refine lv_istore (lv' := [(4, .int v2), (0, .ref b), (1, .ref (g 0)), (2, .int l2), (3, .int l3)]) hx hb dL_law_88 hl (by decide) rfl (fun ls hl => ?_)
    refine lv_iload hx hb dL_law_90 (lv_at hl 0 rfl) ?_
    refine lv_iconst (v := 1) hx hb dL_law_92 (by decide) ?_
    refine lv_iand hx hb dL_law_93 ?_
    refine g_if_ne (tgt := 108) hx hb hf dL_law_94 (by decide) (fun hf => ?_) (fun hf => ?_)
    · refine lv_aload_n hx hb dL_law_108 rfl (lv_at hl 2 rfl) ?_
      refine lv_iload hx hb dL_law_109 (lv_at hl 0 rfl) ?_
      refine lv_iconst (v := 1) hx hb dL_law_111 (by decide) ?_
      refine lv_ishr hx hb dL_law_112 ?_
      obtain ⟨v3, hv, hf⟩ := bd_some hf
      have hA1 : ∀ q : Nat, Array.size H ≤ q → (fun q : Nat => s.heap.size ≤ q) q := fun q h => Nat.le_trans hS.1 h
      refine g_callA1 (some (.int v3.1)) (fun ad => (cG E g ad v3.2.1 v3.2.2.1 v3.2.2.2.1 v3.2.2.2.2.1 x.2.2.2.2.1 x.2.2.2.2.2.1 v3.2.2.2.2.2)) (va_runS (As := [.ref (g 0), .int (v2 >>> (1 &&& 31))]) (rest := []) ⟨hx, hb, hml, hown, hts⟩ (c_L_does l E g ad x.1 x.2.1 x.2.2.1 x.2.2.2.1 x.2.2.2.2.1 x.2.2.2.2.2.1 x.2.2.2.2.2.2 (v2 >>> (1 &&& 31)) _ v3 hv) (va_cwS 2 hts (gd_S q283 q284 q85 q285) rfl rfl rfl (by decide +kernel) ⟨Nat.le_of_ble_eq_true rfl, Nat.le_of_ble_eq_true rfl⟩) (g_preSm hP hD hG) rfl rfl hl.1 rfl (lv_room (Nat.le_of_ble_eq_true rfl)) dL_law_113 ⟨(gRc (by (try dsimp only); omega)), (gRs (by (try dsimp only); omega))⟩) hS (va_A.all hD hA1) (va_A.all hD hA1) (fun ad H locs hP hD hS => ?_)
      clear hv
      refine W.widen (k := cells + 5) (n := slots + 64) (by (try dsimp only); omega) (by (try dsimp only); omega) ?_
      refine W.widen (k := cells + 110) (n := slots + 1408) (by (try dsimp only); omega) (by (try dsimp only); omega) ?_
      exact w_L_law_116 hL C0 hG cells slots hcs hss k77_ hk77_ ad _ _ (v3.2.1, v3.2.2.1, v3.2.2.2.1, v3.2.2.2.2.1, x.2.2.2.2.1, x.2.2.2.2.2.1, v3.2.2.2.2.2) l2 l3 v3.1 _ hf (lv_sub hl [1, 2, 3, 4] rfl) hP hS hD
    · refine lv_aload_n hx hb dL_law_97 rfl (lv_at hl 2 rfl) ?_
      refine lv_iload hx hb dL_law_98 (lv_at hl 0 rfl) ?_
      refine lv_iconst (v := 1) hx hb dL_law_100 (by decide) ?_
      refine lv_ishr hx hb dL_law_101 ?_
      obtain ⟨v9, hv, hf⟩ := bd_some hf
      have hA1 : ∀ q : Nat, Array.size H ≤ q → (fun q : Nat => s.heap.size ≤ q) q := fun q h => Nat.le_trans hS.1 h
      refine g_callA1 (some (.int v9.1)) (fun ad => (cG E g ad v9.2.1 v9.2.2.1 v9.2.2.2.1 v9.2.2.2.2.1 x.2.2.2.2.1 x.2.2.2.2.2.1 v9.2.2.2.2.2)) (va_runS (As := [.ref (g 0), .int (v2 >>> (1 &&& 31))]) (rest := []) ⟨hx, hb, hml, hown, hts⟩ (c_L_fits l E g ad x.1 x.2.1 x.2.2.1 x.2.2.2.1 x.2.2.2.2.1 x.2.2.2.2.2.1 x.2.2.2.2.2.2 (v2 >>> (1 &&& 31)) _ v9 hv) (va_cwS 2 hts (gd_S q205 q206 q85 q207) rfl rfl rfl (by decide +kernel) ⟨Nat.le_of_ble_eq_true rfl, Nat.le_of_ble_eq_true rfl⟩) (g_preSm hP hD hG) rfl rfl hl.1 rfl (lv_room (Nat.le_of_ble_eq_true rfl)) dL_law_102 ⟨(gRc (by (try dsimp only); omega)), (gRs (by (try dsimp only); omega))⟩) hS (va_A.all hD hA1) (va_A.all hD hA1) (fun ad H locs hP hD hS => ?_)
      clear hv
      refine W.widen (k := cells + 110) (n := slots + 1408) (by (try dsimp only); omega) (by (try dsimp only); omega) ?_
      refine lv_goto (tgt := 116) hx hb dL_law_105 (by decide) ?_
      exact w_L_law_116 hL C0 hG cells slots hcs hss k77_ hk77_ ad _ _ (v9.2.1, v9.2.2.1, v9.2.2.2.1, v9.2.2.2.2.1, x.2.2.2.2.1, x.2.2.2.2.2.1, v9.2.2.2.2.2) l2 l3 v9.1 _ hf (lv_sub hl [1, 2, 3, 4] rfl) hP hS hD
set_option maxRecDepth 100000 in
theorem w_L_law_77 {p : Program} {l : Launch} {e : Env} {s : State} {m : MethodId} {below : List Frame} {meth : Method} {c : Code} {b L : Nat} {xs : Nat → Int32} {E : gE} {g : Nat → Nat} (hL : L ≤ 260) (C0 : lw_At p s m meth c b L xs) (hG : gK E s) : ∀ (n cells slots : Nat), cells + 130 * n ≤ 20000 → slots + 1700 * n ≤ 200000 → ∀ (ad : Nat → Nat → Nat) (H : Heap) (locs : List Loc) (x : TG) (l2 : Int32) (l3 : Int32) (ls : Array Slot), f_L_law_77 xs L n x l2 l3 = some 1 → lv_has ls 7 [(0, .ref b), (1, .ref (g 0)), (2, .int l2), (3, .int l3)] → va_P E.1 vwCl (cGL E g ad x) H → va_S (fun q : Nat => s.heap.size ≤ q) s.heap H locs → va_D (fun q : Nat => s.heap.size ≤ q) (cGL E g ad x) → W p l e room_1 s m #[Value.ref b] below meth c H locs cells slots (lw_Z below #[Value.ref b] s) (F0 m 77 ls []) := by
  intro n
  induction n with
  | zero => intro cells slots _ _ ad H locs x l2 l3 ls hf; exact nomatch (show (none : Option Int32) = some 1 from hf)
  | succ n ih => intro cells slots h1 h2; exact w_L_law_77b hL C0 hG cells slots (by omega) (by omega) (f_L_law_77 xs L n) (ih (cells + 130) (slots + 1700) (by omega) (by omega))
set_option maxHeartbeats 4000000 in
set_option maxRecDepth 100000 in
theorem w_L_law_10b {p : Program} {l : Launch} {e : Env} {s : State} {m : MethodId} {below : List Frame} {meth : Method} {c : Code} {b L : Nat} {xs : Nat → Int32} {E : gE} {g : Nat → Nat} (hL : L ≤ 260) (C0 : lw_At p s m meth c b L xs) (hG : gK E s)  (cells slots : Nat) (hcs : cells + 5 ≤ 600) (hss : slots + 64 ≤ 8000) (k10_ : TG → Int32 → Option (Int32)) (hk10_ : ∀ (ad : Nat → Nat → Nat) (H : Heap) (locs : List Loc) (x : TG) (l2 : Int32) (ls : Array Slot), k10_ x l2 = some 1 → lv_has ls 7 [(0, .ref b), (1, .ref (g 0)), (2, .int l2)] → va_P E.1 vwCl (cGL E g ad x) H → va_S (fun q : Nat => s.heap.size ≤ q) s.heap H locs → va_D (fun q : Nat => s.heap.size ≤ q) (cGL E g ad x) → W p l e room_1 s m #[Value.ref b] below meth c H locs (cells + 5) (slots + 64) (lw_Z below #[Value.ref b] s) (F0 m 10 ls [])) : ∀ (ad : Nat → Nat → Nat) (H : Heap) (locs : List Loc) (x : TG) (l2 : Int32) (ls : Array Slot), f_L_law_10b xs L k10_ x l2 = some 1 → lv_has ls 7 [(0, .ref b), (1, .ref (g 0)), (2, .int l2)] → va_P E.1 vwCl (cGL E g ad x) H → va_S (fun q : Nat => s.heap.size ≤ q) s.heap H locs → va_D (fun q : Nat => s.heap.size ≤ q) (cGL E g ad x) → W p l e room_1 s m #[Value.ref b] below meth c H locs cells slots (lw_Z below #[Value.ref b] s) (F0 m 10 ls []) := by
  obtain ⟨hx, hb, hr, hml, hown, hts0, hX, hbl, hlocks, hgv⟩ := id C0
  have hts := gL_hts hts0
  have hbA : ¬ (fun q : Nat => s.heap.size ≤ q) b := Nat.not_le.mpr hbl
  have hA : ∀ q : Nat, s.heap.size ≤ q → (fun q : Nat => s.heap.size ≤ q) q := fun _ h => h
  intro ad H locs x l2 ls hf hl hP hS hD
  unfold f_L_law_10b at hf
  refine lv_iload_n hx hb dL_law_10 rfl (lv_at hl 2 rfl) ?_
  refine lv_bipush (v := 7) hx hb dL_law_11 (by decide) ?_
  refine g_icmp_ge (tgt := 68) hx hb hf dL_law_13 (by decide) (fun hf => ?_) (fun hf => ?_)
  · refine lv_aload_n hx hb dL_law_68 rfl (lv_at hl 1 rfl) ?_
    refine lv_iconst (v := 0) hx hb dL_law_69 (by decide) ?_
    obtain ⟨v1, hv, hf⟩ := bd_some hf
    obtain ⟨hk, hf⟩ := br_z hf (fun _ hf => by cases hf)
    have hA1 : ∀ q : Nat, Array.size H ≤ q → (fun q : Nat => s.heap.size ≤ q) q := fun q h => Nat.le_trans hS.1 h
    refine g_callA1 (some (.int v1.2.1)) (fun ad => (cG E g ad v1.2.2.1 v1.2.2.2.1 v1.2.2.2.2.1 x.2.2.2.1 x.2.2.2.2.1 x.2.2.2.2.2.1 v1.2.2.2.2.2)) (va_runV (As := [.int 0]) (rest := []) ⟨hx, hb, hml, hown, hts⟩ (c_X5_drive l E g ad x.1 x.2.1 x.2.2.1 x.2.2.2.1 x.2.2.2.2.1 x.2.2.2.2.2.1 x.2.2.2.2.2.2 0 _ v1 hv hk) (cwV 1 hts (gd_V q195 q196 q197 q2 q198) rfl rfl rfl (by decide +kernel) ⟨Nat.le_of_ble_eq_true rfl, Nat.le_of_ble_eq_true rfl⟩) (g_preVm hP hD hG rfl rfl) rfl rfl hl.1 rfl (lv_room (Nat.le_of_ble_eq_true rfl)) dL_law_70 ⟨(gRc (by (try dsimp only); omega)), (gRs (by (try dsimp only); omega))⟩) hS (va_A.all hD hA1) (va_A.all hD hA1) (fun ad H locs hP hD hS => ?_)
    clear hv hk
    refine W.widen (k := cells + 5) (n := slots + 64) (by (try dsimp only); omega) (by (try dsimp only); omega) ?_
    refine lv_istore_n (lv' := [(2, .int v1.2.1), (0, .ref b), (1, .ref (g 0))]) hx hb dL_law_73 rfl hl (by decide) rfl (fun ls hl => ?_)
    refine lv_bipush (v := 7) hx hb dL_law_74 (by decide) ?_
    refine lv_istore_n (lv' := [(3, .int 7), (2, .int v1.2.1), (0, .ref b), (1, .ref (g 0))]) hx hb dL_law_76 rfl hl (by decide) rfl (fun ls hl => ?_)
    exact w_L_law_77 hL C0 hG 41 (cells + 5) (slots + 64) (by (try dsimp only); omega) (by (try dsimp only); omega) ad _ _ (v1.2.2.1, v1.2.2.2.1, v1.2.2.2.2.1, x.2.2.2.1, x.2.2.2.2.1, x.2.2.2.2.2.1, v1.2.2.2.2.2) v1.2.1 7 _ hf (lv_sub hl [2, 3, 1, 0] rfl) hP hS hD
  · refine lv_aload_n hx hb dL_law_16 rfl (lv_at hl 0 rfl) ?_
    refine lv_iload_n hx hb dL_law_17 rfl (lv_at hl 2 rfl) ?_
    obtain ⟨v10, hv, hf⟩ := bd_some hf
    refine g_callR1 (.int v10) (va_runS (As := [.ref b, .int l2]) (rest := []) ⟨hx, hb, hml, hown, hts⟩ (c_L_cell l b L xs l2 v10 hv) (va_cwS 2 hts (gd_S q83 q84 q85 q86) rfl rfl rfl (by decide +kernel) ⟨Nat.le_of_ble_eq_true rfl, Nat.le_of_ble_eq_true rfl⟩) (g_preCell (va_X.kept hX (hS.2.1 b hbl hbA)) (Nat.lt_of_lt_of_le hbl hS.1)) rfl rfl hl.1 rfl (lv_room (Nat.le_of_ble_eq_true rfl)) dL_law_18 ⟨(gRc (by (try dsimp only); omega)), (gRs (by (try dsimp only); omega))⟩) ?_
    clear hv
    refine lv_istore_n (lv' := [(3, .int v10), (0, .ref b), (1, .ref (g 0)), (2, .int l2)]) hx hb dL_law_21 rfl hl (by decide) rfl (fun ls hl => ?_)
    refine lv_bipush (v := 9) hx hb dL_law_22 (by decide) ?_
    refine lv_iload_n hx hb dL_law_24 rfl (lv_at hl 3 rfl) ?_
    refine lv_iconst (v := 3) hx hb dL_law_25 (by decide) ?_
    refine g_irem hx hb hf dL_law_26 (fun v11 hf => ?_)
    refine lv_imul hx hb dL_law_27 ?_
    refine lv_iload_n hx hb dL_law_28 rfl (lv_at hl 0 rfl) ?_
    refine lv_iconst (v := 4) hx hb dL_law_29 (by decide) ?_
    obtain ⟨v12, hv, hf⟩ := bd_some hf
    have hPn : va_P E.1 vwCl ([] : va_W) _ := hP.sub [] rfl
    refine g_callR1 (.int v12) (va_runS (As := [.int v10, .int 4]) (rest := [.int (9 * v11)]) ⟨hx, hb, hml, hown, hts⟩ (c_L_low l E v10 4 v12 hv) (va_cwS 2 hts (gd_S q87 q88 q85 q89) rfl rfl rfl (by decide +kernel) ⟨Nat.le_of_ble_eq_true rfl, Nat.le_of_ble_eq_true rfl⟩) (g_preS hPn hG) rfl rfl hl.1 rfl (lv_room (Nat.le_of_ble_eq_true rfl)) dL_law_30 ⟨(gRc (by (try dsimp only); omega)), (gRs (by (try dsimp only); omega))⟩) ?_
    clear hv
    refine lv_iadd hx hb dL_law_33 ?_
    refine g_istore hx hb (fun y13 => [(4, .int y13), (3, .int v10), (0, .ref b), (1, .ref (g 0)), (2, .int l2)]) hf dL_law_34 hl (by decide) (fun _ => rfl) (fun y13 ls hf hl => ?_)
    refine lv_bipush (v := 9) hx hb dL_law_36 (by decide) ?_
    refine lv_iload_n hx hb dL_law_38 rfl (lv_at hl 4 rfl) ?_
    refine lv_iconst (v := 3) hx hb dL_law_39 (by decide) ?_
    refine g_idiv hx hb hf dL_law_40 (fun v14 hf => ?_)
    refine lv_imul hx hb dL_law_41 ?_
    refine lv_iload_n hx hb dL_law_42 rfl (lv_at hl 1 rfl) ?_
    refine lv_iconst (v := 3) hx hb dL_law_43 (by decide) ?_
    refine lv_ishr hx hb dL_law_44 ?_
    refine lv_iconst (v := 4) hx hb dL_law_45 (by decide) ?_
    obtain ⟨v15, hv, hf⟩ := bd_some hf
    have hPn : va_P E.1 vwCl ([] : va_W) _ := hP.sub [] rfl
    refine g_callR1 (.int v15) (va_runS (As := [.int (v10 >>> (3 &&& 31)), .int 4]) (rest := [.int (9 * v14)]) ⟨hx, hb, hml, hown, hts⟩ (c_L_low l E (v10 >>> (3 &&& 31)) 4 v15 hv) (va_cwS 2 hts (gd_S q87 q88 q85 q89) rfl rfl rfl (by decide +kernel) ⟨Nat.le_of_ble_eq_true rfl, Nat.le_of_ble_eq_true rfl⟩) (g_preS hPn hG) rfl rfl hl.1 rfl (lv_room (Nat.le_of_ble_eq_true rfl)) dL_law_46 ⟨(gRc (by (try dsimp only); omega)), (gRs (by (try dsimp only); omega))⟩) ?_
    clear hv
    refine lv_iadd hx hb dL_law_49 ?_
    refine g_istore hx hb (fun y16 => [(5, .int y16), (4, .int y13), (3, .int v10), (0, .ref b), (1, .ref (g 0)), (2, .int l2)]) hf dL_law_50 hl (by decide) (fun _ => rfl) (fun y16 ls hf hl => ?_)
    refine lv_aload_n hx hb dL_law_52 rfl (lv_at hl 4 rfl) ?_
    refine lv_iload hx hb dL_law_53 (lv_at hl 1 rfl) ?_
    refine lv_iload hx hb dL_law_55 (lv_at hl 0 rfl) ?_
    obtain ⟨v17, hv, hf⟩ := bd_some hf
    obtain ⟨hk, hf⟩ := br_z hf (fun _ hf => by cases hf)
    have hA1 : ∀ q : Nat, Array.size H ≤ q → (fun q : Nat => s.heap.size ≤ q) q := fun q h => Nat.le_trans hS.1 h
    refine g_callA1 (some (.int v17.2.1)) (fun ad => (cG E g ad v17.2.2.1 v17.2.2.2.1 v17.2.2.2.2.1 x.2.2.2.1 x.2.2.2.2.1 x.2.2.2.2.2.1 v17.2.2.2.2.2)) (va_runV (As := [.int y13, .int y16]) (rest := []) ⟨hx, hb, hml, hown, hts⟩ (c_X5_addPeg l E g ad x.1 x.2.1 x.2.2.1 x.2.2.2.1 x.2.2.2.2.1 x.2.2.2.2.2.1 x.2.2.2.2.2.2 y13 y16 _ v17 hv hk) (cwV 2 hts (gd_V q91 q92 q93 q2 q94) rfl rfl rfl (by decide +kernel) ⟨Nat.le_of_ble_eq_true rfl, Nat.le_of_ble_eq_true rfl⟩) (g_preVm hP hD hG rfl rfl) rfl rfl hl.1 rfl (lv_room (Nat.le_of_ble_eq_true rfl)) dL_law_57 ⟨(gRc (by (try dsimp only); omega)), (gRs (by (try dsimp only); omega))⟩) hS (va_A.all hD hA1) (va_A.all hD hA1) (fun ad H locs hP hD hS => ?_)
    clear hv hk
    refine W.widen (k := cells + 5) (n := slots + 64) (by (try dsimp only); omega) (by (try dsimp only); omega) ?_
    refine lv_istore (lv' := [(6, .int v17.2.1), (5, .int y16), (4, .int y13), (3, .int v10), (0, .ref b), (1, .ref (g 0)), (2, .int l2)]) hx hb dL_law_60 hl (by decide) rfl (fun ls hl => ?_)
    refine g_iinc hx hb (fun y18 => [(2, .int y18), (6, .int v17.2.1), (5, .int y16), (4, .int y13), (3, .int v10), (0, .ref b), (1, .ref (g 0))]) (v := (l2 + 1)) hf dL_law_62 hl (j := 6) rfl rfl (by decide) (fun _ => rfl) (fun y18 ls hf hl => ?_)
    refine lv_goto (tgt := 10) hx hb dL_law_65 (by decide) ?_
    exact hk10_ ad _ _ (v17.2.2.1, v17.2.2.2.1, v17.2.2.2.2.1, x.2.2.2.1, x.2.2.2.2.1, x.2.2.2.2.2.1, v17.2.2.2.2.2) y18 _ hf (lv_sub hl [5, 6, 0] rfl) hP hS hD
set_option maxRecDepth 100000 in
theorem w_L_law_10 {p : Program} {l : Launch} {e : Env} {s : State} {m : MethodId} {below : List Frame} {meth : Method} {c : Code} {b L : Nat} {xs : Nat → Int32} {E : gE} {g : Nat → Nat} (hL : L ≤ 260) (C0 : lw_At p s m meth c b L xs) (hG : gK E s) : ∀ (n cells slots : Nat), cells + 5 * n ≤ 600 → slots + 64 * n ≤ 8000 → ∀ (ad : Nat → Nat → Nat) (H : Heap) (locs : List Loc) (x : TG) (l2 : Int32) (ls : Array Slot), f_L_law_10 xs L n x l2 = some 1 → lv_has ls 7 [(0, .ref b), (1, .ref (g 0)), (2, .int l2)] → va_P E.1 vwCl (cGL E g ad x) H → va_S (fun q : Nat => s.heap.size ≤ q) s.heap H locs → va_D (fun q : Nat => s.heap.size ≤ q) (cGL E g ad x) → W p l e room_1 s m #[Value.ref b] below meth c H locs cells slots (lw_Z below #[Value.ref b] s) (F0 m 10 ls []) := by
  intro n
  induction n with
  | zero => intro cells slots _ _ ad H locs x l2 ls hf; exact nomatch (show (none : Option Int32) = some 1 from hf)
  | succ n ih => intro cells slots h1 h2; exact w_L_law_10b hL C0 hG cells slots (by omega) (by omega) (f_L_law_10 xs L n) (ih (cells + 5) (slots + 64) (by omega) (by omega))
